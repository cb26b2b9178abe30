/-! narrowing, step by step -/
def zo_ni (a : Nat → Int) (x y : Nat) (b i j : Int) (f : Nat → Int) : Prop := ∀ p q : Nat, p < 4 → q < 4 → f (4 * p + q) = if (p : Int) < i ∨ (p : Int) = i ∧ (q : Int) < j then zo_nv a x y b p q else a (4 * p + q)
section ZNI
variable {a f f' : Nat → Int} {x y : Nat} {b i j : Int}
theorem zo_ni.ini : zo_ni a x y b 0 0 a := fun p q hp hq => by rw [if_neg (by omega)]
theorem zo_ni.next (h : zo_ni a x y b i j f) (hj : j = 4) : zo_ni a x y b (i + 1) 0 f := by
  intro p q hp hq
  rw [h p q hp hq]
  have e : ((p : Int) < i ∨ (p : Int) = i ∧ (q : Int) < j) ↔ ((p : Int) < i + 1 ∨ (p : Int) = i + 1 ∧ (q : Int) < 0) := by omega
  simp only [e]
theorem zo_ni.skip {xi : Int} (ex : xi = (x : Int)) (h : zo_ni a x y b i 0 f) (h0 : 0 ≤ i) (ho : ¬ a (4 * i + xi).toNat < 100000) : zo_ni a x y b (i + 1) 0 f := by
  subst ex
  intro p q hp hq
  rw [h p q hp hq]
  by_cases c : (p : Int) < i
  · rw [if_pos (Or.inl c), if_pos (Or.inl (by omega))]
  · rw [if_neg (by omega)]
    by_cases c2 : (p : Int) = i
    · rw [if_pos (Or.inl (by omega))]
      unfold zo_nv
      rw [if_neg]
      rw [show 4 * p + x = (4 * i + x).toNat by omega]
      exact fun r => ho r.1
    · rw [if_neg (by omega)]
theorem zo_ni.col {xi : Int} (ex : xi = (x : Int)) (h : zo_ni a x y b i 0 f) (h0 : 0 ≤ i ∧ i < 4) (hx : x < 4) : f (4 * i + xi).toNat = a (4 * i + xi).toNat := by
  subst ex
  have q := h i.toNat x (by omega) hx
  rw [if_neg (by omega), show 4 * i.toNat + x = (4 * i + x).toNat by omega] at q
  exact q
theorem zo_nv_row (hn : a (4 * y + x) < 100000 → 1 ≤ zo_fs b (a (4 * y + x))) (q : Nat) : zo_nv a x y b y q = a (4 * y + q) := by
  rcases zo_nv_or (z := a) (x := x) (y := y) (b := b) y q with r | ⟨h1, h2, r⟩
  · exact r
  · have u := zo_nv_le (z := a) (x := x) (y := y) (b := b) y q
    have n := hn h1
    have m := zo_fs_mono n (Int.le_refl (a (4 * y + q)))
    rw [zo_one_fs, zo_fs_comm b] at m
    omega
theorem zo_ni.row {yi : Int} (ey : yi = (y : Int)) (h : zo_ni a x y b i j f) (hn : a (4 * y + x) < 100000 → 1 ≤ zo_fs b (a (4 * y + x))) (h0 : 0 ≤ j ∧ j < 4) (hy : y < 4) : f (4 * yi + j).toNat = a (4 * yi + j).toNat := by
  subst ey
  have q := h y j.toNat hy (by omega)
  rw [show 4 * y + j.toNat = (4 * (y : Int) + j).toNat by omega] at q
  rw [q]
  split
  · have r := zo_nv_row (a := a) (x := x) (y := y) (b := b) hn j.toNat
    rw [show 4 * y + j.toNat = (4 * (y : Int) + j).toNat by omega] at r
    exact r
  · rfl
theorem zo_ni.cur (h : zo_ni a x y b i j f) (h0 : 0 ≤ i ∧ i < 4) (h1 : 0 ≤ j ∧ j < 4) : f (4 * i + j).toNat = a (4 * i + j).toNat := by
  have q := h i.toNat j.toNat (by omega) (by omega)
  rw [if_neg (by omega), show 4 * i.toNat + j.toNat = (4 * i + j).toNat by omega] at q
  exact q
theorem zo_ni.step {s t xi yi : Int} (ex : xi = (x : Int)) (ey : yi = (y : Int)) (h : zo_ni a x y b i j f) (h0 : 0 ≤ i ∧ i < 4) (h1 : 0 ≤ j ∧ j < 4) (hb : b < 3000) (ha : ∀ k, k < 16 → a k ≤ 100000 ∧ (a k < 100000 → a k ≤ 45000)) (hx : x < 4) (hy : y < 4) (hf : a (4 * i + xi).toNat < 100000) (es : s = zo_fs (a (4 * i + xi).toNat) b) (et : t = zo_sum s (a (4 * yi + j).toNat))
    (hf' : (t < a (4 * i + j).toNat ∧ f' = va_up f (4 * i + j).toNat t) ∨ (a (4 * i + j).toNat ≤ t ∧ f' = f))   : zo_ni a x y b i (j + 1) f' := by
  subst ex ey
  have hv : zo_nv a x y b i.toNat j.toNat = min (a (4 * i + j).toNat) t := by
    have r1 := ha (4 * i + x).toNat (by omega)
    have r2 := ha (4 * (y : Int) + j).toNat (by omega)
    have r3 := ha (4 * i + j).toNat (by omega)
    have g := zo_fs_le (a (4 * i + x).toNat) b
    unfold zo_nv
    rw [show 4 * i.toNat + x = (4 * i + x).toNat by omega, show 4 * y + j.toNat = (4 * (y : Int) + j).toNat by omega, show 4 * i.toNat + j.toNat = (4 * i + j).toNat by omega]
    by_cases c : a (4 * (y : Int) + j).toNat < 100000
    · rw [if_pos ⟨hf, c⟩, et, zo_sum_f (by omega) c, es]
    · rw [if_neg (fun r => c r.2), et]
      unfold zo_sum
      rw [if_pos (Or.inr (by omega))]
      omega
  intro p q hp hq
  have old := h p q hp hq
  have e : ∀ k, f' k = if k = (4 * i + j).toNat then min (a (4 * i + j).toNat) t else f k := by
    intro k
    have cu := h.cur h0 h1
    rcases hf' with ⟨r1, r2⟩ | ⟨r1, r2⟩
    · rw [r2]
      unfold va_up
      split
      · omega
      · rfl
    · rw [r2]
      split
      · rename_i c
        rw [c, cu]
        omega
      · rfl
  rw [e]
  by_cases c : 4 * p + q = (4 * i + j).toNat
  · have hp' : p = i.toNat := by omega
    have hq' : q = j.toNat := by omega
    rw [if_pos c, if_pos (by omega), hp', hq', hv]
  · rw [if_neg c, old]
    have u : ((p : Int) < i ∨ (p : Int) = i ∧ (q : Int) < j) ↔ ((p : Int) < i ∨ (p : Int) = i ∧ (q : Int) < j + 1) := by omega
    simp only [u]
theorem zo_ni.fin (h : zo_ni a x y b i 0 f) (hi : i = 4) : ∀ k, k < 16 → f k = zo_nar a x y b k := by
  subst hi
  intro k hk
  have q := h (k / 4) (k % 4) (by omega) (by omega)
  rw [if_pos (Or.inl (by omega)), show 4 * (k / 4) + k % 4 = k by omega] at q
  exact q
end ZNI
/-- what narrowing one bound answers -/
def zo_nR (a n : Nat → Int) (x y : Nat) (b r : Int) : Prop := (r = 1 ∧ a (4 * x + y) ≤ b ∧ n = a) ∨ (r = 1 ∧ b < a (4 * x + y) ∧ (a (4 * y + x) < 100000 → 1 ≤ zo_fs b (a (4 * y + x))) ∧ ∀ k, k < 16 → n k = zo_nar a x y b k) ∨ (r = 0 ∧ b < a (4 * x + y) ∧ a (4 * y + x) < 100000 ∧ zo_fs b (a (4 * y + x)) < 1)
theorem zo_nR.bt {a n : Nat → Int} {x y : Nat} {b r : Int} (h : zo_nR a n x y b r) : r = 0 ∨ r = 1 := by
  rcases h with h | h | h
  · exact Or.inr h.1
  · exact Or.inr h.1
  · exact Or.inl h.1
section ZNR
variable {K : (Nat → Int) → Prop} {U V L b r : Int} {f n : Nat → Int} {x : Nat}
theorem zo_nR.ceil (h : zo_nR f n x 0 b r) (hK : zo_dc K) (g : zo_GC K f) (hz : zo_Z U V L f) (hx : 1 ≤ x ∧ x < 4) (hb : 0 ≤ b ∧ b ≤ 2001) (hV : U + 2002 ≤ V) (hV2 : V ≤ 24000) : (r = 1 ∧ zo_GC (fun w => K w ∧ w (4 * x) ≤ b) n ∧ zo_Z U V L n) ∨ (r = 0 ∧ zo_none (fun w => K w ∧ w (4 * x) ≤ b)) := by
  have e0 : 4 * 0 + x = x := by omega
  rcases h with ⟨h1, h2, h3⟩ | ⟨h1, h2, h3, h4⟩ | ⟨h1, h2, h3, h4⟩
  · rw [Nat.add_zero] at h2
    rw [h3]
    exact Or.inl ⟨h1, g.same h2, hz⟩
  · have l := hz.2.2 x hx.2
    rw [e0] at h3
    have z2 := hz.ceil hx hb hV (by omega) (h3 (by omega))
    have g2 := g.nar hK (x := x) (y := 0) (b := b) hx.2 (by omega) (by omega) (fun k hk hf => by have := hz.up (by omega) k hk hf; omega) z2.1
    rw [Nat.add_zero] at g2
    exact Or.inl ⟨h1, g2.congr (hK.and (zo_bdc (by omega))) (fun k hk => (h4 k hk).symm), z2.congr (fun k hk => (h4 k hk).symm)⟩
  · have := g.no (x := x) (y := 0) (b := b) hx.2 (by omega) (by omega) h3 h4
    rw [Nat.add_zero] at this
    exact Or.inr ⟨h1, this⟩
theorem zo_nR.floor (h : zo_nR f n 0 x b r) (hK : zo_dc K) (g : zo_GC K f) (hz : zo_Z U V L f) (hx : 1 ≤ x ∧ x < 4) (hb : -2000 ≤ b ∧ b ≤ 1) (hUV : U ≤ V) (hV2 : V ≤ 24000) : (r = 1 ∧ zo_GC (fun w => K w ∧ w x ≤ b) n ∧ zo_Z U V (L + 2003) n) ∨ (r = 0 ∧ zo_none (fun w => K w ∧ w x ≤ b)) := by
  have e0 : 4 * 0 + x = x := by omega
  rcases h with ⟨h1, h2, h3⟩ | ⟨h1, h2, h3, h4⟩ | ⟨h1, h2, h3, h4⟩
  · rw [e0] at h2
    rw [h3]
    exact Or.inl ⟨h1, g.same h2, hz.mono (Int.le_refl _) (Int.le_refl _) (by omega)⟩
  · rw [Nat.add_zero] at h3
    have z2 := hz.floor hx hb hUV (by omega) h3
    have g2 := g.nar hK (x := 0) (y := x) (b := b) (by omega) hx.2 (by omega) (fun k hk hf => by have := hz.up hUV k hk hf; omega) z2.1
    rw [e0] at g2
    exact Or.inl ⟨h1, g2.congr (hK.and (zo_bdc (by omega))) (fun k hk => (h4 k hk).symm), z2.congr (fun k hk => (h4 k hk).symm)⟩
  · have := g.no (x := 0) (y := x) (b := b) (by omega) hx.2 (by omega) h3 h4
    rw [e0] at this
    exact Or.inr ⟨h1, this⟩
end ZNR
theorem zo_sum_no {b c s : Int} (e : s = zo_sum b c) (h : s < 1) (hc : c ≤ 100000) : c < 100000 ∧ zo_fs b c < 1 := by
  unfold zo_sum at e
  split at e
  · omega
  · exact ⟨by omega, by omega⟩
theorem zo_sum_ok {b c s : Int} (e : s = zo_sum b c) (h : 1 ≤ s) (hb : b < 100000) : c < 100000 → 1 ≤ zo_fs b c := by
  intro hc
  rw [zo_sum_f hb hc] at e
  omega
theorem zo_sum_op {a b s : Int} (e : s = zo_sum a b) (hb : b < 3000) (ha : a < 100000 → a ≤ 45000) (h : s = 100000) : ¬ a < 100000 := by
  intro hf
  rw [zo_sum_f hf (by omega)] at e
  have := zo_fs_le a b
  have := ha hf
  omega
theorem zo_sum_fi {a b s : Int} (e : s = zo_sum a b) (hb : b < 3000) (ha : a ≤ 100000) (h : ¬ s = 100000) : a < 100000 ∧ s = zo_fs a b := by
  unfold zo_sum at e
  split at e
  · omega
  · exact ⟨by omega, e⟩
theorem zo_sum_rg {a b s : Int} (e : s = zo_sum a b) (ha : -300000000 ≤ a ∧ a ≤ 100000) (hb : -300000000 ≤ b ∧ b ≤ 100000) : -600000001 ≤ s ∧ s ≤ 200000 := by
  have g := zo_fs_le a b
  have g2 := zo_fs_ge a b
  unfold zo_sum at e
  split at e <;> omega
