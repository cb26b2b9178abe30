/-! bounds and closed zones: a bound is twice its number, and 1 where it may be just that; 100000 is none -/
def zo_fs (a b : Int) : Int := 2 * (a / 2 + b / 2) + min (a % 2) (b % 2)
def zo_sum (a b : Int) : Int := if a = 100000 ∨ b = 100000 then 100000 else zo_fs a b
theorem zo_fs_comm (a b : Int) : zo_fs a b = zo_fs b a := by unfold zo_fs; omega
theorem zo_fs_assoc (a b c : Int) : zo_fs (zo_fs a b) c = zo_fs a (zo_fs b c) := by unfold zo_fs; omega
theorem zo_fs_mono {a b c d : Int} (h : a ≤ c) (h' : b ≤ d) : zo_fs a b ≤ zo_fs c d := by unfold zo_fs; omega
theorem zo_fs_one (a : Int) : zo_fs a 1 = a := by unfold zo_fs; omega
theorem zo_one_fs (a : Int) : zo_fs 1 a = a := by unfold zo_fs; omega
theorem zo_fs_le (a b : Int) : zo_fs a b ≤ a + b := by unfold zo_fs; omega
theorem zo_fs_ge (a b : Int) : a + b - 1 ≤ zo_fs a b := by unfold zo_fs; omega
theorem zo_sum_f {a b : Int} (ha : a < 100000) (hb : b < 100000) : zo_sum a b = zo_fs a b := if_neg (by omega)
/-- closed: on the diagonal 'at most 0', no bound above none, each at most two others together -/
def zo_C (w : Nat → Int) : Prop := (∀ x, x < 4 → w (4 * x + x) = 1) ∧ (∀ k, k < 16 → w k ≤ 100000) ∧ ∀ x y v, x < 4 → y < 4 → v < 4 → w (4 * x + y) < 100000 → w (4 * y + v) < 100000 → w (4 * x + v) ≤ zo_fs (w (4 * x + y)) (w (4 * y + v))
def zo_le (w z : Nat → Int) : Prop := ∀ k, k < 16 → w k ≤ z k
theorem zo_le.rf (z : Nat → Int) : zo_le z z := fun k _ => Int.le_refl _
theorem zo_le.tr {a b c : Nat → Int} (h : zo_le a b) (h' : zo_le b c) : zo_le a c := fun k hk => Int.le_trans (h k hk) (h' k hk)
theorem zo_le.at {w z : Nat → Int} (h : zo_le w z) {x y : Nat} (hx : x < 4) (hy : y < 4) : w (4 * x + y) ≤ z (4 * x + y) := h _ (by omega)
theorem zo_C.top {w : Nat → Int} (h : zo_C w) {x y : Nat} (hx : x < 4) (hy : y < 4) : w (4 * x + y) ≤ 100000 := h.2.1 _ (by omega)
/-- the greatest closed one that keeps K -/
def zo_GC (K : (Nat → Int) → Prop) (c : Nat → Int) : Prop := zo_C c ∧ K c ∧ ∀ w, zo_C w → K w → zo_le w c
def zo_none (K : (Nat → Int) → Prop) : Prop := ∀ w, zo_C w → ¬ K w
theorem zo_GC.uniq {K : (Nat → Int) → Prop} {c d : Nat → Int} (h : zo_GC K c) (h' : zo_GC K d) : ∀ k, k < 16 → c k = d k := fun k hk => Int.le_antisymm (h'.2.2 c h.1 h.2.1 k hk) (h.2.2 d h'.1 h'.2.1 k hk)
theorem zo_GC.iff {K K' : (Nat → Int) → Prop} {c : Nat → Int} (h : zo_GC K c) (e : ∀ w, zo_C w → (K w ↔ K' w)) : zo_GC K' c := ⟨h.1, (e c h.1).mp h.2.1, fun w hw hk => h.2.2 w hw ((e w hw).mpr hk)⟩
theorem zo_none.iff {K K' : (Nat → Int) → Prop} (h : zo_none K) (e : ∀ w, zo_C w → (K w ↔ K' w)) : zo_none K' := fun w hw hk => h w hw ((e w hw).mpr hk)
theorem zo_C.congr {c d : Nat → Int} (h : zo_C c) (e : ∀ k, k < 16 → c k = d k) : zo_C d := by
  refine ⟨fun x hx => ?_, fun k hk => ?_, fun x y v hx hy hv h1 h2 => ?_⟩
  · rw [← e _ (by omega)]; exact h.1 x hx
  · rw [← e k hk]; exact h.2.1 k hk
  · rw [← e _ (by omega)] at h1 h2
    rw [← e _ (by omega), ← e _ (by omega), ← e _ (by omega)]
    exact h.2.2 x y v hx hy hv h1 h2
/-! one bound made narrower -/
def zo_nv (z : Nat → Int) (x y : Nat) (b : Int) (i j : Nat) : Int := if z (4 * i + x) < 100000 ∧ z (4 * y + j) < 100000 then min (z (4 * i + j)) (zo_fs (zo_fs (z (4 * i + x)) b) (z (4 * y + j))) else z (4 * i + j)
def zo_nar (z : Nat → Int) (x y : Nat) (b : Int) : Nat → Int := fun k => zo_nv z x y b (k / 4) (k % 4)
theorem zo_nar_at {z : Nat → Int} {x y i j : Nat} {b : Int} (hj : j < 4) : zo_nar z x y b (4 * i + j) = zo_nv z x y b i j := by
  unfold zo_nar
  rw [show (4 * i + j) / 4 = i by omega, show (4 * i + j) % 4 = j by omega]
section ZNAR
variable {z : Nat → Int} {x y : Nat} {b : Int}
theorem zo_nv_le (i j : Nat) : zo_nv z x y b i j ≤ z (4 * i + j) := by unfold zo_nv; split <;> omega
theorem zo_nv_le2 {i j : Nat} (h1 : z (4 * i + x) < 100000) (h2 : z (4 * y + j) < 100000) : zo_nv z x y b i j ≤ zo_fs (zo_fs (z (4 * i + x)) b) (z (4 * y + j)) := by
  unfold zo_nv
  rw [if_pos ⟨h1, h2⟩]
  omega
theorem zo_nv_or (i j : Nat) : zo_nv z x y b i j = z (4 * i + j) ∨ (z (4 * i + x) < 100000 ∧ z (4 * y + j) < 100000 ∧ zo_nv z x y b i j = zo_fs (zo_fs (z (4 * i + x)) b) (z (4 * y + j))) := by
  unfold zo_nv
  split
  · rename_i h
    rcases Int.le_total (z (4 * i + j)) (zo_fs (zo_fs (z (4 * i + x)) b) (z (4 * y + j))) with q | q
    · exact Or.inl (by omega)
    · exact Or.inr ⟨h.1, h.2, by omega⟩
  · exact Or.inl rfl
theorem zo_nar_le : zo_le (zo_nar z x y b) z := fun k hk => by
  have h := zo_nv_le (z := z) (x := x) (y := y) (b := b) (k / 4) (k % 4)
  rw [show 4 * (k / 4) + k % 4 = k by omega] at h
  exact h
theorem zo_nar_xy (h : zo_C z) (hx : x < 4) (hy : y < 4) : zo_nar z x y b (4 * x + y) ≤ b := by
  rw [zo_nar_at hy]
  have h1 := h.1 x hx
  have h2 := h.1 y hy
  have h3 := zo_nv_le2 (z := z) (x := x) (y := y) (b := b) (i := x) (j := y) (by omega) (by omega)
  rw [h1, h2, zo_one_fs, zo_fs_one] at h3
  exact h3
/-- every closed one below it that keeps the bound is below the narrowed one -/
theorem zo_nar_gt (hx : x < 4) (hy : y < 4) (hb : b < 3000) (hr : ∀ k, k < 16 → z k < 100000 → z k ≤ 45000) {w : Nat → Int} (hw : zo_C w) (hz : zo_le w z) (hwb : w (4 * x + y) ≤ b) : zo_le w (zo_nar z x y b) := by
  intro k hk
  rw [show k = 4 * (k / 4) + k % 4 by omega, zo_nar_at (by omega)]
  have hi : k / 4 < 4 := by omega
  have hj : k % 4 < 4 := by omega
  generalize k / 4 = i at hi ⊢
  generalize k % 4 = j at hj ⊢
  rcases zo_nv_or (z := z) (x := x) (y := y) (b := b) i j with q | ⟨h1, h2, q⟩
  · rw [q]; exact hz.at hi hj
  · rw [q]
    have a1 := hz.at hi hx
    have a2 := hz.at hy hj
    have r2 := hr _ (by omega) h2
    have t1 := hw.2.2 x y j hx hy hj (by omega) (by omega)
    have t0 := zo_fs_mono hwb a2
    have t2 := zo_fs_le b (z (4 * y + j))
    have t3 := hw.2.2 i x j hi hx hj (by omega) (by omega)
    rw [zo_fs_assoc]
    exact Int.le_trans t3 (zo_fs_mono a1 (Int.le_trans t1 t0))
/-- nothing is left -/
theorem zo_nar_no (hx : x < 4) (hy : y < 4) (hb : b < 3000) (h : z (4 * y + x) < 100000) (hn : zo_fs b (z (4 * y + x)) < 1) : zo_none (fun w => zo_le w z ∧ w (4 * x + y) ≤ b) := by
  rintro w hw ⟨hz, hwb⟩
  have a := hz.at hy hx
  have t := hw.2.2 x y x hx hy hx (by omega) (by omega)
  have t2 := zo_fs_mono hwb a
  have t3 := hw.1 x hx
  omega
theorem zo_nar_C (h : zo_C z) (hx : x < 4) (hy : y < 4) (hb : b < 3000) (hr : ∀ k, k < 16 → z k < 100000 → z k ≤ 45000) (hn : z (4 * y + x) < 100000 → 1 ≤ zo_fs b (z (4 * y + x))) : zo_C (zo_nar z x y b) := by
  have rr : ∀ i j, i < 4 → j < 4 → z (4 * i + j) < 100000 → z (4 * i + j) ≤ 45000 := fun i j hi hj hf => hr _ (by omega) hf
  have tri : ∀ i j v, i < 4 → j < 4 → v < 4 → z (4 * i + j) < 100000 → z (4 * j + v) < 100000 → z (4 * i + v) < 100000 ∧ z (4 * i + v) ≤ zo_fs (z (4 * i + j)) (z (4 * j + v)) := by
    intro i j v hi hj hv h1 h2
    have t := h.2.2 i j v hi hj hv h1 h2
    have t2 := zo_fs_le (z (4 * i + j)) (z (4 * j + v))
    have r1 := rr i j hi hj h1
    have r2 := rr j v hj hv h2
    exact ⟨by omega, t⟩
  refine ⟨fun i hi => ?_, fun k hk => ?_, fun i j v hi hj hv h1 h2 => ?_⟩
  · rw [zo_nar_at hi]
    rcases zo_nv_or (z := z) (x := x) (y := y) (b := b) i i with q | ⟨h1, h2, q⟩
    · rw [q]; exact h.1 i hi
    · have u := zo_nv_le (z := z) (x := x) (y := y) (b := b) i i
      rw [h.1 i hi] at u
      have t := tri y i x hy hi hx h2 h1
      have n := hn t.1
      have e1 : zo_fs (zo_fs (z (4 * i + x)) b) (z (4 * y + i)) = zo_fs b (zo_fs (z (4 * y + i)) (z (4 * i + x))) := by rw [zo_fs_comm (z (4 * i + x)) b, zo_fs_assoc, zo_fs_comm (z (4 * i + x))]
      have e2 := zo_fs_mono (Int.le_refl b) t.2
      omega
  · rw [show k = 4 * (k / 4) + k % 4 by omega, zo_nar_at (by omega)]
    have u := zo_nv_le (z := z) (x := x) (y := y) (b := b) (k / 4) (k % 4)
    have t := h.2.1 (4 * (k / 4) + k % 4) (by omega)
    omega
  · rw [zo_nar_at hj] at h1 ⊢
    rw [zo_nar_at hv] at h2 ⊢
    rw [zo_nar_at hv]
    rcases zo_nv_or (z := z) (x := x) (y := y) (b := b) i j with q | ⟨p1, p2, q⟩ <;> rcases zo_nv_or (z := z) (x := x) (y := y) (b := b) j v with q' | ⟨p1', p2', q'⟩
    · rw [q] at h1
      rw [q'] at h2
      rw [q, q']
      exact Int.le_trans (zo_nv_le i v) (tri i j v hi hj hv h1 h2).2
    · rw [q] at h1
      rw [q, q']
      have t := tri i j x hi hj hx h1 p1'
      refine Int.le_trans (zo_nv_le2 t.1 p2') ?_
      rw [← zo_fs_assoc, ← zo_fs_assoc]
      exact zo_fs_mono (zo_fs_mono t.2 (Int.le_refl _)) (Int.le_refl _)
    · rw [q'] at h2
      rw [q, q']
      have t := tri y j v hy hj hv p2 h2
      refine Int.le_trans (zo_nv_le2 p1 t.1) ?_
      rw [zo_fs_assoc (zo_fs (z (4 * i + x)) b)]
      exact zo_fs_mono (Int.le_refl _) t.2
    · rw [q, q']
      have t := tri y j x hy hj hx p2 p1'
      have n := hn t.1
      refine Int.le_trans (zo_nv_le2 p1 p2') ?_
      have e1 : zo_fs (zo_fs (zo_fs (z (4 * i + x)) b) (z (4 * y + j))) (zo_fs (zo_fs (z (4 * j + x)) b) (z (4 * y + v))) = zo_fs (zo_fs (zo_fs (z (4 * i + x)) b) (zo_fs (zo_fs (z (4 * y + j)) (z (4 * j + x))) b)) (z (4 * y + v)) := by simp only [zo_fs_assoc]
      rw [e1]
      refine zo_fs_mono ?_ (Int.le_refl _)
      have e2 : 1 ≤ zo_fs (zo_fs (z (4 * y + j)) (z (4 * j + x))) b := by
        have e3 := zo_fs_mono t.2 (Int.le_refl b)
        rw [zo_fs_comm (z (4 * y + x)) b] at e3
        omega
      have e4 := zo_fs_mono (Int.le_refl (zo_fs (z (4 * i + x)) b)) e2
      rw [zo_fs_one] at e4
      exact e4
end ZNAR
/-! how large bounds can be: rows whose bound against 0 is none, and the others -/
def zo_row (U V : Int) (z : Nat → Int) : Prop := ∀ i, i < 4 → (z (4 * i) = 100000 ∧ ∀ j, j < 4 → z (4 * i + j) = 100000 ∨ z (4 * i + j) ≤ U) ∨ (z (4 * i) < 100000 ∧ ∀ j, j < 4 → z (4 * i + j) ≤ V)
def zo_lo (L : Int) (z : Nat → Int) : Prop := ∀ j, j < 4 → -L ≤ z j ∧ z j ≤ 1
def zo_Z (U V L : Int) (z : Nat → Int) : Prop := zo_C z ∧ zo_row U V z ∧ zo_lo L z
theorem zo_Z.up {U V L : Int} {z : Nat → Int} (h : zo_Z U V L z) (hUV : U ≤ V) : ∀ k, k < 16 → z k < 100000 → z k ≤ V := by
  intro k hk hf
  have h1 := h.2.1 (k / 4) (by omega)
  rcases h1 with ⟨_, h1⟩ | ⟨_, h1⟩
  · have h2 := h1 (k % 4) (by omega)
    rw [show 4 * (k / 4) + k % 4 = k by omega] at h2
    omega
  · have h2 := h1 (k % 4) (by omega)
    rw [show 4 * (k / 4) + k % 4 = k by omega] at h2
    omega
theorem zo_Z.dn {U V L : Int} {z : Nat → Int} (h : zo_Z U V L z) : ∀ k, k < 16 → -L - 1 ≤ z k := by
  intro k hk
  have h0 := h.2.2 (k / 4) (by omega)
  have h1 := h.2.2 (k % 4) (by omega)
  by_cases hf : z k < 100000
  · have t := h.1.2.2 0 (k / 4) (k % 4) (by omega) (by omega) (by omega)
    rw [show 4 * 0 + k / 4 = k / 4 by omega, show 4 * (k / 4) + k % 4 = k by omega, show 4 * 0 + k % 4 = k % 4 by omega] at t
    have t1 := t (by omega) hf
    have t2 := zo_fs_le (z (k / 4)) (z k)
    omega
  · have t := h.1.1 0 (by omega)
    have t0 := h.2.2 0 (by omega)
    simp only [Nat.mul_zero, Nat.add_zero] at t
    omega
theorem zo_Z.mono {U V L U' V' L' : Int} {z : Nat → Int} (h : zo_Z U V L z) (hU : U ≤ U') (hV : V ≤ V') (hL : L ≤ L') : zo_Z U' V' L' z :=
  ⟨h.1, fun i hi => (h.2.1 i hi).imp (fun q => ⟨q.1, fun j hj => (q.2 j hj).imp id (fun r => by omega)⟩) (fun q => ⟨q.1, fun j hj => by have := q.2 j hj; omega⟩), fun j hj => by have := h.2.2 j hj; omega⟩
/-- all rows alike -/
theorem zo_Z.flat {U V L : Int} {z : Nat → Int} (h : zo_Z U V L z) (hUV : U ≤ V) : zo_Z V V L z :=
  ⟨h.1, fun i hi => (h.2.1 i hi).imp (fun q => ⟨q.1, fun j hj => (q.2 j hj).imp id (fun r => by omega)⟩) id, h.2.2⟩
section ZROW
variable {U V L b : Int} {z : Nat → Int} {x : Nat}
/-- a clock at most .. -/
theorem zo_Z.ceil (h : zo_Z U V L z) (hx : 1 ≤ x ∧ x < 4) (hb : 0 ≤ b ∧ b ≤ 2001) (hV : U + 2002 ≤ V) (hV2 : V ≤ 45000) (hn : 1 ≤ zo_fs b (z x)) : zo_Z U V L (zo_nar z x 0 b) := by
  have hup := h.up (by omega)
  have hd0 : z 0 = 1 := h.1.1 0 (by omega)
  refine ⟨zo_nar_C h.1 hx.2 (by omega) (by omega) (fun k hk hf => by have := hup k hk hf; omega) (fun _ => by simpa using hn), fun i hi => ?_, fun j hj => ?_⟩
  · by_cases hix : z (4 * i + x) < 100000
    · refine Or.inr ⟨?_, fun j hj => ?_⟩
      · have e := zo_nar_at (z := z) (x := x) (y := 0) (b := b) (i := i) (j := 0) (by omega)
        rw [Nat.add_zero] at e
        rw [e]
        have u := zo_nv_le2 (z := z) (x := x) (y := 0) (b := b) (i := i) (j := 0) hix (by simp only [Nat.mul_zero, Nat.add_zero]; omega)
        simp only [Nat.mul_zero, Nat.add_zero] at u
        rw [hd0, zo_fs_one] at u
        have u2 := zo_fs_le (z (4 * i + x)) b
        have u3 := hup (4 * i + x) (by omega) hix
        omega
      · rw [zo_nar_at hj]
        have l0 := h.2.2 j hj
        rcases h.2.1 i hi with ⟨_, q⟩ | ⟨_, q⟩
        · have qx := q x hx.2
          have u := zo_nv_le2 (z := z) (x := x) (y := 0) (b := b) (i := i) (j := j) hix (by rw [show 4 * 0 + j = j by omega]; omega)
          rw [show 4 * 0 + j = j by omega] at u
          have u2 := zo_fs_le (z (4 * i + x)) b
          have u3 := zo_fs_le (zo_fs (z (4 * i + x)) b) (z j)
          omega
        · have u := zo_nv_le (z := z) (x := x) (y := 0) (b := b) i j
          have := q j hj
          omega
    · have e : ∀ j, j < 4 → zo_nar z x 0 b (4 * i + j) = z (4 * i + j) := fun j hj => by
        rw [zo_nar_at hj]
        exact if_neg (fun q => hix q.1)
      have e0 := e 0 (by omega)
      rw [Nat.add_zero] at e0
      exact (h.2.1 i hi).imp (fun q => ⟨e0.trans q.1, fun j hj => by rw [e j hj]; exact q.2 j hj⟩) (fun q => ⟨by rw [e0]; exact q.1, fun j hj => by rw [e j hj]; exact q.2 j hj⟩)
  · have e := zo_nar_at (z := z) (x := x) (y := 0) (b := b) (i := 0) (j := j) hj
    rw [show 4 * 0 + j = j by omega] at e
    rw [e]
    have l0 := h.2.2 j hj
    rcases zo_nv_or (z := z) (x := x) (y := 0) (b := b) 0 j with q | ⟨h1, h2, q⟩
    · rw [q, show 4 * 0 + j = j by omega]; exact l0
    · have u := zo_nv_le (z := z) (x := x) (y := 0) (b := b) 0 j
      rw [show 4 * 0 + j = j by omega] at u
      rw [show 4 * 0 + x = x by omega, show 4 * 0 + j = j by omega] at q
      have m := zo_fs_mono hn (Int.le_refl (z j))
      rw [zo_one_fs, zo_fs_comm b (z x)] at m
      omega
/-- a clock at least .. -/
theorem zo_Z.floor (h : zo_Z U V L z) (hx : 1 ≤ x ∧ x < 4) (hb : -2000 ≤ b ∧ b ≤ 1) (hUV : U ≤ V) (hV2 : V ≤ 45000) (hn : z (4 * x) < 100000 → 1 ≤ zo_fs b (z (4 * x))) : zo_Z U V (L + 2003) (zo_nar z 0 x b) := by
  have hup := h.up (by omega)
  have hd0 : z 0 = 1 := h.1.1 0 (by omega)
  refine ⟨zo_nar_C h.1 (by omega) hx.2 (by omega) (fun k hk hf => by have := hup k hk hf; omega) (fun q => by simpa using hn (by simpa using q)), fun i hi => ?_, fun j hj => ?_⟩
  · by_cases hi0 : z (4 * i) < 100000
    · rcases h.2.1 i hi with ⟨q, _⟩ | ⟨_, q⟩
      · omega
      · refine Or.inr ⟨?_, fun j hj => ?_⟩
        · have u := zo_nv_le (z := z) (x := 0) (y := x) (b := b) i 0
          have e := zo_nar_at (z := z) (x := 0) (y := x) (b := b) (i := i) (j := 0) (by omega)
          rw [Nat.add_zero] at e u
          omega
        · rw [zo_nar_at hj]
          have u := zo_nv_le (z := z) (x := 0) (y := x) (b := b) i j
          have := q j hj
          omega
    · have e : ∀ j, j < 4 → zo_nar z 0 x b (4 * i + j) = z (4 * i + j) := fun j hj => by
        rw [zo_nar_at hj]
        exact if_neg (fun q => hi0 (by simpa using q.1))
      have e0 := e 0 (by omega)
      rw [Nat.add_zero] at e0
      exact (h.2.1 i hi).imp (fun q => ⟨e0.trans q.1, fun j hj => by rw [e j hj]; exact q.2 j hj⟩) (fun q => ⟨by rw [e0]; exact q.1, fun j hj => by rw [e j hj]; exact q.2 j hj⟩)
  · have e := zo_nar_at (z := z) (x := 0) (y := x) (b := b) (i := 0) (j := j) hj
    rw [show 4 * 0 + j = j by omega] at e
    rw [e]
    have l0 := h.2.2 j hj
    rcases zo_nv_or (z := z) (x := 0) (y := x) (b := b) 0 j with q | ⟨h1, h2, q⟩
    · rw [q, show 4 * 0 + j = j by omega]; omega
    · have u := zo_nv_le (z := z) (x := 0) (y := x) (b := b) 0 j
      rw [show 4 * 0 + j = j by omega] at u
      simp only [Nat.mul_zero, Nat.add_zero] at q
      rw [hd0, zo_one_fs] at q
      have d := h.dn (4 * x + j) (by omega)
      have g := zo_fs_ge b (z (4 * x + j))
      omega
end ZROW
