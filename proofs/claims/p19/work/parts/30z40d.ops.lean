/-! clocks set back, time gone by, widened -/
def zo_sg (x i : Nat) : Nat := if i = x then 0 else i
def zo_rs (z : Nat → Int) (x : Nat) : Nat → Int := fun k => z (4 * zo_sg x (k / 4) + zo_sg x (k % 4))
theorem zo_sg_lt {x i : Nat} (h : i < 4) : zo_sg x i < 4 := by unfold zo_sg; split <;> omega
theorem zo_rs_at {z : Nat → Int} {x i j : Nat} (hj : j < 4) : zo_rs z x (4 * i + j) = z (4 * zo_sg x i + zo_sg x j) := by
  unfold zo_rs
  rw [show (4 * i + j) / 4 = i by omega, show (4 * i + j) % 4 = j by omega]
theorem zo_rs_Z {U V L : Int} {z : Nat → Int} {x : Nat} (hx : 1 ≤ x) (h : zo_Z U V L z) : zo_Z U V L (zo_rs z x) := by
  have s0 : zo_sg x 0 = 0 := by unfold zo_sg; rw [if_neg (by omega)]
  have e0 : ∀ i, zo_rs z x (4 * i) = z (4 * zo_sg x i) := fun i => by
    have e := zo_rs_at (z := z) (x := x) (i := i) (j := 0) (by omega)
    rw [s0] at e
    exact e
  refine ⟨⟨fun i hi => ?_, fun k hk => ?_, fun i j v hi hj hv h1 h2 => ?_⟩, fun i hi => ?_, fun j hj => ?_⟩
  · rw [zo_rs_at hi]; exact h.1.1 _ (zo_sg_lt hi)
  · rw [show k = 4 * (k / 4) + k % 4 by omega, zo_rs_at (by omega)]
    exact h.1.top (zo_sg_lt (by omega)) (zo_sg_lt (by omega))
  · rw [zo_rs_at hj] at h1 ⊢
    rw [zo_rs_at hv] at h2 ⊢
    rw [zo_rs_at hv]
    exact h.1.2.2 _ _ _ (zo_sg_lt hi) (zo_sg_lt hj) (zo_sg_lt hv) h1 h2
  · rw [e0 i]
    exact (h.2.1 _ (zo_sg_lt (x := x) hi)).imp (fun q => ⟨q.1, fun j hj => by rw [zo_rs_at hj]; exact q.2 _ (zo_sg_lt hj)⟩) (fun q => ⟨q.1, fun j hj => by rw [zo_rs_at hj]; exact q.2 _ (zo_sg_lt hj)⟩)
  · have e := zo_rs_at (z := z) (x := x) (i := 0) (j := j) hj
    rw [s0, show 4 * 0 + j = j by omega, show 4 * 0 + zo_sg x j = zo_sg x j by omega] at e
    rw [e]
    exact h.2.2 _ (zo_sg_lt hj)
theorem zo_rs_pt {z z' : Nat → Int} {x : Nat} (e : ∀ k, k < 16 → z k = z' k) : ∀ k, k < 16 → zo_rs z x k = zo_rs z' x k := fun k hk => e _ (by have := zo_sg_lt (x := x) (i := k / 4) (by omega); have := zo_sg_lt (x := x) (i := k % 4) (by omega); omega)
def zo_s1 (r : Int) (x : Nat) (z : Nat → Int) : Nat → Int := if z_btv r x ≠ 0 then zo_rs z x else z
def zo_set (r : Int) (z : Nat → Int) : Nat → Int := zo_s1 r 3 (zo_s1 r 2 (zo_s1 r 1 z))
theorem zo_s1_Z {U V L r : Int} {z : Nat → Int} {x : Nat} (hx : 1 ≤ x) (h : zo_Z U V L z) : zo_Z U V L (zo_s1 r x z) := by
  unfold zo_s1
  split
  · exact zo_rs_Z hx h
  · exact h
theorem zo_set_Z {U V L r : Int} {z : Nat → Int} (h : zo_Z U V L z) : zo_Z U V L (zo_set r z) := zo_s1_Z (by omega) (zo_s1_Z (by omega) (zo_s1_Z (by omega) h))
theorem zo_s1_pt {z z' : Nat → Int} {r : Int} {x : Nat} (e : ∀ k, k < 16 → z k = z' k) : ∀ k, k < 16 → zo_s1 r x z k = zo_s1 r x z' k := by
  unfold zo_s1
  split
  · exact zo_rs_pt e
  · exact e
theorem zo_set_pt {z z' : Nat → Int} {r : Int} (e : ∀ k, k < 16 → z k = z' k) : ∀ k, k < 16 → zo_set r z k = zo_set r z' k := zo_s1_pt (zo_s1_pt (zo_s1_pt e))
/-- time goes by -/
def zo_tm (z : Nat → Int) : Nat → Int := fun k => if k = 4 ∨ k = 8 ∨ k = 12 then 100000 else z k
theorem zo_tm_Z {U V L : Int} {z : Nat → Int} (hUV : U ≤ V) (hV : 1 ≤ V) (h : zo_Z U V L z) : zo_Z V V L (zo_tm z) := by
  have hn : ∀ i j, i < 4 → 1 ≤ j → j < 4 → zo_tm z (4 * i + j) = z (4 * i + j) := fun i j hi h1 hj => if_neg (by omega)
  have hr : ∀ j, j < 4 → zo_tm z j = z j := fun j hj => if_neg (by omega)
  have h0 : ∀ i, 1 ≤ i → i < 4 → zo_tm z (4 * i) = 100000 := fun i h1 hi => if_pos (by omega)
  have up := h.up hUV
  refine ⟨⟨fun i hi => ?_, fun k hk => ?_, fun i j v hi hj hv h1 h2 => ?_⟩, fun i hi => ?_, fun j hj => ?_⟩
  · have := h.1.1 i hi
    unfold zo_tm
    split
    · omega
    · exact this
  · have := h.1.2.1 k hk
    unfold zo_tm
    split <;> omega
  · by_cases hv0 : v = 0
    · subst hv0
      by_cases hj0 : j = 0
      · subst hj0
        rw [Nat.add_zero, Nat.mul_zero] at *
        have e := hr 0 (by omega)
        rw [e, h.1.1 0 (by omega), zo_fs_one]
        exact Int.le_refl _
      · have := h0 j (by omega) hj
        rw [Nat.add_zero] at h2
        omega
    · rw [hn i v hi (by omega) hv, hn j v hj (by omega) hv] at *
      by_cases hj0 : j = 0
      · subst hj0
        by_cases hi0 : i = 0
        · subst hi0
          have e := hr 0 (by omega)
          simp only [Nat.mul_zero, Nat.add_zero, Nat.zero_add] at *
          rw [e]
          have := h.1.2.2 0 0 v (by omega) (by omega) hv (by simp only [Nat.mul_zero, Nat.add_zero]; rw [← e]; exact h1) (by simpa using h2)
          simpa using this
        · have := h0 i (by omega) hi
          rw [Nat.add_zero] at h1
          omega
      · rw [hn i j hi (by omega) hj] at *
        exact h.1.2.2 i j v hi hj hv h1 h2
  · by_cases hi0 : i = 0
    · subst hi0
      refine Or.inr ⟨?_, fun j hj => ?_⟩
      · have e := hr 0 (by omega)
        have := h.1.1 0 (by omega)
        simp only [Nat.mul_zero, Nat.add_zero] at *
        omega
      · rw [show 4 * 0 + j = j by omega, hr j hj]
        have := h.2.2 j hj
        omega
    · refine Or.inl ⟨h0 i (by omega) hi, fun j hj => ?_⟩
      by_cases hj0 : j = 0
      · subst hj0
        exact Or.inl (h0 i (by omega) hi)
      · rw [hn i j hi (by omega) hj]
        have t := h.1.2.1 (4 * i + j) (by omega)
        by_cases q : z (4 * i + j) < 100000
        · exact Or.inr (up _ (by omega) q)
        · exact Or.inl (by omega)
  · rw [hr j hj]; exact h.2.2 j hj
theorem zo_tm_pt {z z' : Nat → Int} (e : ∀ k, k < 16 → z k = z' k) : ∀ k, k < 16 → zo_tm z k = zo_tm z' k := fun k hk => by
  unfold zo_tm
  split
  · rfl
  · exact e k hk
/-- widened -/
def zo_wv (mo : Nat → Int) (z : Nat → Int) (i j : Nat) : Int := if i = j then z (4 * i + j) else if 1 ≤ i ∧ z (4 * i + j) ≠ 100000 ∧ mo i < z (4 * i + j) / 2 then 100000 else if 1 ≤ j ∧ z (4 * i + j) ≠ 100000 ∧ z (4 * i + j) / 2 < -mo j then -2 * mo j else z (4 * i + j)
def zo_wd (mo : Nat → Int) (z : Nat → Int) : Nat → Int := fun k => zo_wv mo z (k / 4) (k % 4)
theorem zo_wd_at {mo z : Nat → Int} {i j : Nat} (hj : j < 4) : zo_wd mo z (4 * i + j) = zo_wv mo z i j := by
  unfold zo_wd
  rw [show (4 * i + j) / 4 = i by omega, show (4 * i + j) % 4 = j by omega]
theorem zo_wd_pt {mo mo' z z' : Nat → Int} (em : ∀ x, 1 ≤ x → x < 4 → mo x = mo' x) (e : ∀ k, k < 16 → z k = z' k) : ∀ k, k < 16 → zo_wd mo z k = zo_wd mo' z' k := fun k hk => by
  have hk4 : 4 * (k / 4) + k % 4 = k := by omega
  unfold zo_wd zo_wv
  rw [hk4, e k hk]
  by_cases h1 : 1 ≤ k / 4
  · rw [em (k / 4) h1 (by omega)]
    by_cases h2 : 1 ≤ k % 4
    · rw [em (k % 4) h2 (by omega)]
    · rw [show k % 4 = 0 by omega]
      simp
  · rw [show k / 4 = 0 by omega]
    by_cases h2 : 1 ≤ k % 4
    · rw [em (k % 4) h2 (by omega)]
      simp
    · rw [show k % 4 = 0 by omega]
      simp
section ZWD
variable {U V L : Int} {mo z : Nat → Int}
theorem zo_wd_ge (hm : ∀ x, 1 ≤ x → x < 4 → 0 ≤ mo x ∧ mo x ≤ 1000) (h : zo_C z) : zo_le z (zo_wd mo z) := by
  intro k hk
  have t := h.2.1 k hk
  have hk4 : 4 * (k / 4) + k % 4 = k := by omega
  unfold zo_wd zo_wv
  rw [hk4]
  split
  · exact Int.le_refl _
  · split
    · exact t
    · split
      · omega
      · exact Int.le_refl _
theorem zo_wd_rg (hm : ∀ x, 1 ≤ x → x < 4 → 0 ≤ mo x ∧ mo x ≤ 1000) (h : zo_Z U V L z) : zo_top (zo_wd mo z) ∧ (∀ x, x < 4 → zo_wd mo z (4 * x + x) = 1) ∧ (∀ j, j < 4 → zo_wd mo z j ≤ 1) ∧ (∀ k, k < 16 → zo_wd mo z k < 100000 → zo_wd mo z k ≤ 2001) ∧ ∀ k, k < 16 → -2000 ≤ zo_wd mo z k := by
  have dg := h.1.1
  have i0 : ∀ i, i < 4 → 0 ≤ z (4 * i) := by
    intro i hi
    rcases Int.lt_or_le (z (4 * i)) 100000 with q | q
    · have l := h.2.2 i hi
      have t := h.1.2.2 0 i 0 (by omega) hi (by omega) (by rw [show 4 * 0 + i = i by omega]; omega) (by rw [Nat.add_zero]; exact q)
      have d := dg 0 (by omega)
      simp only [Nat.mul_zero, Nat.add_zero, Nat.zero_add] at t d
      have g := zo_fs_le (z i) (z (4 * i))
      omega
    · omega
  refine ⟨fun k hk => ?_, fun x hx => ?_, fun j hj => ?_, fun k hk => ?_, fun k hk => ?_⟩
  · have t := h.1.2.1 k hk
    have hk4 : 4 * (k / 4) + k % 4 = k := by omega
    unfold zo_wd zo_wv
    rw [hk4]
    split
    · exact t
    · split
      · omega
      · split
        · have := hm (k % 4) (by omega) (by omega)
          omega
        · exact t
  · rw [zo_wd_at hx]
    unfold zo_wv
    rw [if_pos rfl]
    exact dg x hx
  · have e := zo_wd_at (mo := mo) (z := z) (i := 0) (j := j) hj
    rw [show 4 * 0 + j = j by omega] at e
    rw [e]
    have l := h.2.2 j hj
    unfold zo_wv
    rw [show 4 * 0 + j = j by omega]
    split
    · omega
    · split
      · omega
      · split
        · have := hm j (by omega) hj
          omega
        · omega
  · have hk4 : 4 * (k / 4) + k % 4 = k := by omega
    unfold zo_wd zo_wv
    rw [hk4]
    split
    · rename_i q
      have d := dg (k / 4) (by omega)
      rw [show 4 * (k / 4) + k / 4 = k by omega] at d
      omega
    · split
      · omega
      · split
        · have := hm (k % 4) (by omega) (by omega)
          omega
        · intro hf
          by_cases h1 : 1 ≤ k / 4
          · have := hm (k / 4) h1 (by omega)
            omega
          · have l := h.2.2 k (by omega)
            omega
  · have hk4 : 4 * (k / 4) + k % 4 = k := by omega
    unfold zo_wd zo_wv
    rw [hk4]
    split
    · rename_i q
      have d := dg (k / 4) (by omega)
      rw [show 4 * (k / 4) + k / 4 = k by omega] at d
      omega
    · split
      · omega
      · split
        · have := hm (k % 4) (by omega) (by omega)
          omega
        · by_cases h1 : 1 ≤ k % 4
          · have := hm (k % 4) h1 (by omega)
            omega
          · have := i0 (k / 4) (by omega)
            rw [show 4 * (k / 4) = k by omega] at this
            omega
/-- rounds of closing, bounds doubled at most -/
theorem zo_nb {k : Nat} {D E : Nat → Int} {C B : Int} (hk : k < 4) (hC : 2 * C < 100000) (ht : zo_top D) (h : ∀ j, j < 16 → D j < 100000 → D j ≤ C) (hB : ∀ j, j < 16 → -B ≤ D j) (hB0 : 0 ≤ B) (hE : ∀ j, j < 16 → E j = zo_dn k D j) : zo_BD k D ∧ (∀ j, j < 16 → E j < 100000 → E j ≤ 2 * C ∨ E j ≤ C) ∧ ∀ j, j < 16 → -(2 * B + 1) ≤ E j := by
  refine ⟨fun x y hx hy h1 h2 => ?_, fun j hj hf => ?_, fun j hj => ?_⟩
  · right
    have a1 := h _ (show 4 * x + k < 16 by omega) h1
    have a2 := h _ (show 4 * k + y < 16 by omega) h2
    have a3 := zo_fs_le (D (4 * x + k)) (D (4 * k + y))
    omega
  · have e := hE j hj
    unfold zo_dn at e
    have t1 := ht (4 * (j / 4) + k) (by omega)
    have t2 := ht (4 * k + j % 4) (by omega)
    unfold zo_sum at e
    split at e
    · exact Or.inr (by have := h j hj (by omega); omega)
    · have a1 := h _ (show 4 * (j / 4) + k < 16 by omega) (by omega)
      have a2 := h _ (show 4 * k + j % 4 < 16 by omega) (by omega)
      have a3 := zo_fs_le (D (4 * (j / 4) + k)) (D (4 * k + j % 4))
      exact Or.inl (by omega)
  · have e := hE j hj
    have b0 := hB j hj
    have b1 := hB (4 * (j / 4) + k) (by omega)
    have b2 := hB (4 * k + j % 4) (by omega)
    unfold zo_dn zo_sum at e
    split at e
    · omega
    · have g := zo_fs_ge (D (4 * (j / 4) + k)) (D (4 * k + j % 4))
      omega
theorem zo_wd_fin (hm : ∀ x, 1 ≤ x → x < 4 → 0 ≤ mo x ∧ mo x ≤ 1000) (h : zo_Z U V L z) {Z : Nat → Int} (eZ : ∀ k, k < 16 → Z k = zo_wd mo z k) : zo_top Z ∧ (∀ x, x < 4 → Z (4 * x + x) = 1) ∧ (∀ k, k < 16 → -2000 ≤ Z k) ∧ (∀ k, k < 4 → zo_BD k (zo_fw (16 * k) Z)) ∧ (∀ x, x < 4 → zo_fw 64 Z (4 * x + x) = 1) ∧ zo_GC (fun w => zo_le w (zo_wd mo z)) (zo_fw 64 Z) ∧ zo_Z 16016 16016 32015 (zo_fw 64 Z) := by
  obtain ⟨ht', h0', hr0', hu', hl'⟩ := zo_wd_rg hm h
  have ge' := zo_wd_ge hm h.1
  have ht : zo_top Z := fun k hk => by rw [eZ k hk]; exact ht' k hk
  have h0 : ∀ x, x < 4 → Z (4 * x + x) = 1 := fun x hx => by rw [eZ _ (by omega)]; exact h0' x hx
  have hr0 : ∀ j, j < 4 → Z j ≤ 1 := fun j hj => by rw [eZ _ (by omega)]; exact hr0' j hj
  have hu : ∀ k, k < 16 → Z k < 100000 → Z k ≤ 2001 := fun k hk hf => by rw [eZ k hk] at hf ⊢; exact hu' k hk hf
  have hl : ∀ k, k < 16 → -2000 ≤ Z k := fun k hk => by rw [eZ k hk]; exact hl' k hk
  have ge : zo_le z Z := fun k hk => by rw [eZ k hk]; exact ge' k hk
  have hd : ∀ x, x < 4 → zo_fw 64 Z (4 * x + x) = 1 := by
    intro x hx
    have h1 := zo_fw_ge ht h.1 ge 64 (Nat.le_refl _) (4 * x + x) (by omega)
    have h2 := zo_fw_le 64 Z (4 * x + x)
    rw [h0 x hx] at h2
    rw [h.1.1 x hx] at h1
    omega
  have dg := fun k (hk : k < 4) => zo_fw_dg h0 hd (16 * k) (by omega) k hk
  have rd := fun k (hk : k < 4) => zo_fw_rd hk (dg k hk)
  have s0 := zo_nb (C := 2001) (B := 2000) (by omega) (by omega) (ht.fw (16 * 0)) hu hl (by omega) (rd 0 (by omega))
  have u1 : ∀ j, j < 16 → zo_fw (16 * (0 + 1)) Z j < 100000 → zo_fw (16 * (0 + 1)) Z j ≤ 2002 := by
    intro j hj hf
    have e := rd 0 (by omega) j hj
    unfold zo_dn at e
    have t1 := ht (4 * (j / 4)) (by omega)
    have r := hr0 (j % 4) (by omega)
    have e' : zo_fw (16 * (0 + 1)) Z j = min (zo_sum (Z (4 * (j / 4))) (Z (j % 4))) (Z j) := by
      rw [e]; simp [zo_fw]
    unfold zo_sum at e'
    split at e'
    · have := hu j hj (by omega)
      omega
    · have a1 := hu (4 * (j / 4)) (by omega) (by omega)
      have a3 := zo_fs_le (Z (4 * (j / 4))) (Z (j % 4))
      omega
  have s1 := zo_nb (C := 2002) (by omega) (by omega) (ht.fw _) u1 s0.2.2 (by omega) (rd (0 + 1) (by omega))
  have s2 := zo_nb (C := 4004) (by omega) (by omega) (ht.fw _) (fun j hj hf => by have := s1.2.1 j hj hf; omega) s1.2.2 (by omega) (rd (0 + 1 + 1) (by omega))
  have s3 := zo_nb (C := 8008) (by omega) (by omega) (ht.fw _) (fun j hj hf => by have := s2.2.1 j hj hf; omega) s2.2.2 (by omega) (rd (0 + 1 + 1 + 1) (by omega))
  have bd : ∀ k, k < 4 → zo_BD k (zo_fw (16 * k) Z) := by
    intro k hk
    rcases (show k = 0 ∨ k = 0 + 1 ∨ k = 0 + 1 + 1 ∨ k = 0 + 1 + 1 + 1 by omega) with q | q | q | q
    · rw [q]; exact s0.1
    · rw [q]; exact s1.1
    · rw [q]; exact s2.1
    · rw [q]; exact s3.1
  have gc := zo_fw_GC ht h0 (fun _ => bd) hd
  have uf : ∀ j, j < 16 → zo_fw 64 Z j < 100000 → zo_fw 64 Z j ≤ 16016 := fun j hj hf => by
    have := s3.2.1 j hj hf
    rw [show 16 * (0 + 1 + 1 + 1 + 1) = 64 from rfl] at this
    omega
  have lf : ∀ j, j < 16 → -32015 ≤ zo_fw 64 Z j := fun j hj => by
    have := s3.2.2 j hj
    rw [show 16 * (0 + 1 + 1 + 1 + 1) = 64 from rfl] at this
    omega
  refine ⟨ht, h0, hl, bd, hd, gc.iff (fun w _ => ⟨fun q k hk => by rw [← eZ k hk]; exact q k hk, fun q k hk => by rw [eZ k hk]; exact q k hk⟩), gc.1, fun i hi => ?_, fun j hj => ?_⟩
  · have t := gc.1.2.1 (4 * i) (by omega)
    by_cases q : zo_fw 64 Z (4 * i) < 100000
    · refine Or.inr ⟨q, fun j hj => ?_⟩
      have l0 := zo_fw_le 64 Z j
      have r := hr0 j hj
      have tr := gc.1.2.2 i 0 j hi (by omega) hj (by rw [Nat.add_zero]; exact q) (by rw [show 4 * 0 + j = j by omega]; omega)
      rw [Nat.add_zero, show 4 * 0 + j = j by omega] at tr
      have a := zo_fs_le (zo_fw 64 Z (4 * i)) (zo_fw 64 Z j)
      have b := uf (4 * i) (by omega) q
      exact uf _ (by omega) (by omega)
    · refine Or.inl ⟨by omega, fun j hj => ?_⟩
      have t2 := gc.1.2.1 (4 * i + j) (by omega)
      by_cases q2 : zo_fw 64 Z (4 * i + j) < 100000
      · exact Or.inr (uf _ (by omega) q2)
      · exact Or.inl (by omega)
  · have l0 := zo_fw_le 64 Z j
    have r := hr0 j hj
    have l := lf j (by omega)
    omega
end ZWD
/-- the first zone -/
theorem zo_one_Z : zo_Z 16016 16016 32015 (fun _ => 1) := by
  refine ⟨⟨fun _ _ => rfl, fun _ _ => by dsimp only; omega, fun x y v _ _ _ _ _ => ?_⟩, fun i hi => Or.inr ⟨by dsimp only; omega, fun _ _ => by dsimp only; omega⟩, fun _ _ => by dsimp only; omega⟩
  show (1 : Int) ≤ zo_fs 1 1
  decide
/-! clocks set back, step by step -/
def zo_ri (X : Nat) (y : Int) (g f : Nat → Int) : Prop := ∀ i j : Nat, i < 4 → j < 4 → f (4 * i + j) = if (i = X ∧ (j : Int) < y) ∨ (j = X ∧ (i : Int) < y) then g (4 * zo_sg X i + zo_sg X j) else g (4 * i + j)
theorem zo_ri.ini {X : Nat} {g : Nat → Int} : zo_ri X 0 g g := fun i j hi hj => by rw [if_neg (by omega)]
theorem zo_ri.step {X : Nat} {x y a b : Int} {g f : Nat → Int} (h : zo_ri X y g f) (hX : 1 ≤ X ∧ X < 4) (hy : 0 ≤ y ∧ y < 4) (ex : x = (X : Int)) (e5 : f y.toNat = a) (e6 : va_up f (4 * x + y).toNat a (4 * y).toNat = b) : zo_ri X (y + 1) g (va_up (va_up f (4 * x + y).toNat a) (4 * y + x).toNat b) := by
  subst ex
  have sX : zo_sg X X = 0 := if_pos rfl
  have s0 : zo_sg X 0 = 0 := by unfold zo_sg; split <;> omega
  have ea : a = g (zo_sg X y.toNat) := by
    have q := h 0 y.toNat (by omega) (by omega)
    rw [show 4 * 0 + y.toNat = y.toNat by omega, e5, s0, show 4 * 0 + zo_sg X y.toNat = zo_sg X y.toNat by omega] at q
    rw [q]
    split
    · rfl
    · rename_i r
      unfold zo_sg
      rw [if_neg (by omega)]
  have eb : b = g (4 * zo_sg X y.toNat) := by
    unfold va_up at e6
    rw [if_neg (by omega)] at e6
    have q := h y.toNat 0 (by omega) (by omega)
    rw [Nat.add_zero, s0, Nat.add_zero, show 4 * y.toNat = (4 * y).toNat by omega, e6] at q
    rw [q]
    split
    · rfl
    · rename_i r
      unfold zo_sg
      rw [if_neg (by omega), show 4 * y.toNat = (4 * y).toNat by omega]
  intro i j hi hj
  have old := h i j hi hj
  by_cases c2 : 4 * i + j = (4 * y + (X : Int)).toNat
  · have hij : i = y.toNat ∧ j = X := by omega
    obtain ⟨rfl, rfl⟩ := hij
    rw [c2, z_upS, if_pos (Or.inr ⟨rfl, by omega⟩), sX, Nat.add_zero]
    exact eb
  · by_cases c1 : 4 * i + j = (4 * (X : Int) + y).toNat
    · have hij : i = X ∧ j = y.toNat := by omega
      obtain ⟨rfl, rfl⟩ := hij
      unfold va_up
      rw [if_neg c2, if_pos c1, if_pos (Or.inl ⟨rfl, by omega⟩), sX, show 4 * 0 + zo_sg i y.toNat = zo_sg i y.toNat by omega]
      exact ea
    · unfold va_up
      rw [if_neg c2, if_neg c1, old]
      by_cases q : (i = X ∧ (j : Int) < y) ∨ (j = X ∧ (i : Int) < y)
      · rw [if_pos q, if_pos (by omega)]
      · rw [if_neg q, if_neg (by omega)]
theorem zo_ri.fin {X : Nat} {y : Int} {g f : Nat → Int} (h : zo_ri X y g f) (hy : y = 4) (hX : 1 ≤ X ∧ X < 4) (g0 : g 0 = 1) : ∀ k, k < 16 → va_up f (4 * X + X) 1 k = zo_rs g X k := by
  subst hy
  intro k hk
  have sX : zo_sg X X = 0 := if_pos rfl
  rw [show k = 4 * (k / 4) + k % 4 by omega, zo_rs_at (by omega)]
  have hi : k / 4 < 4 := by omega
  have hj : k % 4 < 4 := by omega
  generalize k / 4 = i at *
  generalize k % 4 = j at *
  by_cases c : 4 * i + j = 4 * X + X
  · have hij : i = X ∧ j = X := by omega
    obtain ⟨rfl, rfl⟩ := hij
    rw [z_upS, sX]
    exact g0.symm
  · unfold va_up
    rw [if_neg c, h i j hi hj]
    by_cases q : (i = X ∧ (j : Int) < 4) ∨ (j = X ∧ (i : Int) < 4)
    · rw [if_pos q]
    · rw [if_neg q]
      unfold zo_sg
      rw [if_neg (by omega), if_neg (by omega)]
/-- the set-backs up to a clock -/
def zo_sp (i r : Int) (z : Nat → Int) : Nat → Int := if i ≤ 1 then z else if i = 2 then zo_s1 r 1 z else if i = 3 then zo_s1 r 2 (zo_s1 r 1 z) else zo_set r z
theorem zo_sp_succ {i r : Int} {z : Nat → Int} (h : 1 ≤ i ∧ i ≤ 3) : zo_sp (i + 1) r z = zo_s1 r i.toNat (zo_sp i r z) := by
  rcases (show i = 1 ∨ i = 2 ∨ i = 3 by omega) with rfl | rfl | rfl <;> simp [zo_sp, zo_set]
theorem zo_sp_4 {i r : Int} {z : Nat → Int} (h : i = 4) : zo_sp i r z = zo_set r z := by subst h; simp [zo_sp]
theorem zo_sp_no {i r b : Int} {z f : Nat → Int} (FS : ∀ k, k < 16 → f k = zo_sp i r z k) (h : 1 ≤ i ∧ i ≤ 3) (hb : z_btv r i = b) (hn : b ≠ 1) : ∀ k, k < 16 → f k = zo_sp (i + 1) r z k := by
  intro k hk
  rw [zo_sp_succ h, FS k hk]
  unfold zo_s1
  have h01 := z_btv01 r i
  rw [show ((i.toNat : Nat) : Int) = i by omega, if_neg (by omega)]
theorem zo_sp_yes {i r b : Int} {z f g : Nat → Int} (FS : ∀ k, k < 16 → f k = zo_sp i r z k) (h : 1 ≤ i ∧ i ≤ 3) (hb : z_btv r i = b) (hn : b = 1) (hg : ∀ k, k < 16 → g k = zo_rs f i.toNat k) : ∀ k, k < 16 → g k = zo_sp (i + 1) r z k := by
  intro k hk
  rw [zo_sp_succ h, hg k hk]
  unfold zo_s1
  rw [show ((i.toNat : Nat) : Int) = i by omega, if_pos (by omega)]
  exact zo_rs_pt FS k hk
theorem zo_sp_00 {i r : Int} {z : Nat → Int} (h : z 0 = 1) : zo_sp i r z 0 = 1 := by
  have key : ∀ (x : Nat) (w : Nat → Int), w 0 = 1 → zo_s1 r x w 0 = 1 := by
    intro x w hw
    unfold zo_s1
    split
    · unfold zo_rs zo_sg
      simp only [Nat.zero_div, Nat.zero_mod]
      split <;> exact hw
    · exact hw
  unfold zo_sp
  split
  · exact h
  · split
    · exact key _ _ h
    · split
      · exact key _ _ (key _ _ h)
      · exact key _ _ (key _ _ (key _ _ h))
/-! widening, step by step -/
def zo_wp (mo z : Nat → Int) (x y : Int) (i j : Nat) : Int := if i = j then z (4 * i + j) else if (1 ≤ i ∧ ((i : Int) < x ∨ (i : Int) = x ∧ (j : Int) < y)) ∧ z (4 * i + j) ≠ 100000 ∧ mo i < z (4 * i + j) / 2 then 100000 else if (1 ≤ j ∧ ((j : Int) < x ∨ (j : Int) = x ∧ (i : Int) < y)) ∧ z (4 * i + j) ≠ 100000 ∧ z (4 * i + j) / 2 < -mo j then -2 * mo j else z (4 * i + j)
def zo_wi (mo z : Nat → Int) (x y : Int) (f : Nat → Int) : Prop := ∀ i j : Nat, i < 4 → j < 4 → f (4 * i + j) = zo_wp mo z x y i j
section ZWI
variable {mo z f f1 f2 : Nat → Int} {x y m : Int}
theorem zo_wi.ini : zo_wi mo z 1 0 z := by
  intro i j hi hj
  unfold zo_wp
  split
  · rfl
  · rw [if_neg (by omega), if_neg (by omega)]
theorem zo_wi.next (h : zo_wi mo z x 4 f) : zo_wi mo z (x + 1) 0 f := by
  intro i j hi hj
  rw [h i j hi hj]
  unfold zo_wp
  split
  · rfl
  · have e1 : (1 ≤ i ∧ ((i : Int) < x ∨ (i : Int) = x ∧ (j : Int) < 4)) ↔ (1 ≤ i ∧ ((i : Int) < x + 1 ∨ (i : Int) = x + 1 ∧ (j : Int) < 0)) := by omega
    have e2 : (1 ≤ j ∧ ((j : Int) < x ∨ (j : Int) = x ∧ (i : Int) < 4)) ↔ (1 ≤ j ∧ ((j : Int) < x + 1 ∨ (j : Int) = x + 1 ∧ (i : Int) < 0)) := by omega
    simp only [e1, e2]
theorem zo_wi.skip (h : zo_wi mo z x y f) (e : y = x) : zo_wi mo z x (y + 1) f := by
  subst e
  intro i j hi hj
  rw [h i j hi hj]
  unfold zo_wp
  split
  · rfl
  · rename_i hne
    have e1 : (1 ≤ i ∧ ((i : Int) < y ∨ (i : Int) = y ∧ (j : Int) < y)) ↔ (1 ≤ i ∧ ((i : Int) < y ∨ (i : Int) = y ∧ (j : Int) < y + 1)) := by omega
    have e2 : (1 ≤ j ∧ ((j : Int) < y ∨ (j : Int) = y ∧ (i : Int) < y)) ↔ (1 ≤ j ∧ ((j : Int) < y ∨ (j : Int) = y ∧ (i : Int) < y + 1)) := by omega
    simp only [e1, e2]
theorem zo_wi.step (h : zo_wi mo z x y f) (hx : 1 ≤ x ∧ x ≤ 3) (hy : 0 ≤ y ∧ y ≤ 3) (hne : y ≠ x) (em : m = mo x.toNat) (hm : ∀ x, 1 ≤ x → x < 4 → 0 ≤ mo x ∧ mo x ≤ 1000)
    (h2 : ((z (4 * y + x).toNat ≠ 100000 ∧ z (4 * y + x).toNat / 2 < -m) ∧ f2 = va_up f1 (4 * y + x).toNat (-2 * m)) ∨ (¬ (z (4 * y + x).toNat ≠ 100000 ∧ z (4 * y + x).toNat / 2 < -m) ∧ f2 = f1))
    (h1 : ((z (4 * x + y).toNat ≠ 100000 ∧ m < z (4 * x + y).toNat / 2) ∧ f1 = va_up f (4 * x + y).toNat 100000) ∨ (¬ (z (4 * x + y).toNat ≠ 100000 ∧ m < z (4 * x + y).toNat / 2) ∧ f1 = f)) : zo_wi mo z x (y + 1) f2 := by
  have hmx := hm x.toNat (by omega) (by omega)
  intro i j hi hj
  have old := h i j hi hj
  have v1 : ∀ k, f1 k = if k = (4 * x + y).toNat ∧ (z (4 * x + y).toNat ≠ 100000 ∧ m < z (4 * x + y).toNat / 2) then 100000 else f k := by
    intro k
    rcases h1 with ⟨q, e⟩ | ⟨q, e⟩
    · rw [e]
      unfold va_up
      by_cases c : k = (4 * x + y).toNat
      · rw [if_pos c, if_pos ⟨c, q⟩]
      · rw [if_neg c, if_neg (fun r => c r.1)]
    · rw [e, if_neg (fun r => q r.2)]
  have v2 : ∀ k, f2 k = if k = (4 * y + x).toNat ∧ (z (4 * y + x).toNat ≠ 100000 ∧ z (4 * y + x).toNat / 2 < -m) then -2 * m else f1 k := by
    intro k
    rcases h2 with ⟨q, e⟩ | ⟨q, e⟩
    · rw [e]
      unfold va_up
      by_cases c : k = (4 * y + x).toNat
      · rw [if_pos c, if_pos ⟨c, q⟩]
      · rw [if_neg c, if_neg (fun r => c r.1)]
    · rw [e, if_neg (fun r => q r.2)]
  rw [v2, v1, old]
  by_cases c2 : 4 * i + j = (4 * y + x).toNat
  · have ei : (i : Int) = y := by omega
    have ej : (j : Int) = x := by omega
    have c1 : 4 * i + j ≠ (4 * x + y).toNat := by omega
    rw [← c2]
    have emj : mo x.toNat = mo j := by rw [← ej]; rfl
    rw [em, emj] at *
    rw [if_neg (fun r : 4 * i + j = (4 * x + y).toNat ∧ _ => c1 r.1)]
    have hmj := hm j (by omega) hj
    unfold zo_wp
    rw [if_neg (show ¬ i = j by omega), if_neg (show ¬ i = j by omega)]
    have u1 : (1 ≤ i ∧ ((i : Int) < x ∨ (i : Int) = x ∧ (j : Int) < y)) ↔ (1 ≤ i ∧ ((i : Int) < x ∨ (i : Int) = x ∧ (j : Int) < y + 1)) := by omega
    by_cases A : (1 ≤ i ∧ ((i : Int) < x ∨ (i : Int) = x ∧ (j : Int) < y + 1)) ∧ z (4 * i + j) ≠ 100000 ∧ mo i < z (4 * i + j) / 2
    · have hmi := hm i A.1.1 hi
      rw [if_pos A, if_neg (by omega), if_pos ⟨u1.mpr A.1, A.2⟩]
    · rw [if_neg A]
      rw [if_neg (fun r : (1 ≤ i ∧ ((i : Int) < x ∨ (i : Int) = x ∧ (j : Int) < y)) ∧ _ => A ⟨u1.mp r.1, r.2⟩)]
      by_cases B : z (4 * i + j) ≠ 100000 ∧ z (4 * i + j) / 2 < -mo j
      · rw [if_pos ⟨rfl, B⟩, if_pos ⟨by omega, B⟩]
      · rw [if_neg (fun r => B r.2), if_neg (fun r => B r.2), if_neg (fun r => B r.2)]
  · rw [if_neg (fun r : 4 * i + j = (4 * y + x).toNat ∧ _ => c2 r.1)]
    by_cases c1 : 4 * i + j = (4 * x + y).toNat
    · have ei : (i : Int) = x := by omega
      have ej : (j : Int) = y := by omega
      rw [← c1]
      have emi : mo x.toNat = mo i := by rw [← ei]; rfl
      rw [em, emi] at *
      unfold zo_wp
      rw [if_neg (show ¬ i = j by omega), if_neg (show ¬ i = j by omega)]
      by_cases A : z (4 * i + j) ≠ 100000 ∧ mo i < z (4 * i + j) / 2
      · rw [if_pos ⟨rfl, A⟩, if_pos ⟨by omega, A⟩]
      · rw [if_neg (fun r => A r.2), if_neg (fun r => A r.2)]
        rw [if_neg (show ¬ ((1 ≤ i ∧ ((i : Int) < x ∨ (i : Int) = x ∧ (j : Int) < y + 1)) ∧ z (4 * i + j) ≠ 100000 ∧ mo i < z (4 * i + j) / 2) from fun r => A r.2)]
        have u2 : (1 ≤ j ∧ ((j : Int) < x ∨ (j : Int) = x ∧ (i : Int) < y)) ↔ (1 ≤ j ∧ ((j : Int) < x ∨ (j : Int) = x ∧ (i : Int) < y + 1)) := by omega
        simp only [u2]
    · rw [if_neg (fun r : 4 * i + j = (4 * x + y).toNat ∧ _ => c1 r.1)]
      unfold zo_wp
      have u1 : (1 ≤ i ∧ ((i : Int) < x ∨ (i : Int) = x ∧ (j : Int) < y)) ↔ (1 ≤ i ∧ ((i : Int) < x ∨ (i : Int) = x ∧ (j : Int) < y + 1)) := by omega
      have u2 : (1 ≤ j ∧ ((j : Int) < x ∨ (j : Int) = x ∧ (i : Int) < y)) ↔ (1 ≤ j ∧ ((j : Int) < x ∨ (j : Int) = x ∧ (i : Int) < y + 1)) := by omega
      simp only [u1, u2]
theorem zo_wi.fin (h : zo_wi mo z x 0 f) (hx : x = 4) : ∀ k, k < 16 → f k = zo_wd mo z k := by
  subst hx
  intro k hk
  have q := h (k / 4) (k % 4) (by omega) (by omega)
  rw [show 4 * (k / 4) + k % 4 = k by omega] at q
  rw [q]
  unfold zo_wd zo_wv zo_wp
  have u1 : (1 ≤ k / 4 ∧ (((k / 4 : Nat) : Int) < 4 ∨ ((k / 4 : Nat) : Int) = 4 ∧ ((k % 4 : Nat) : Int) < 0)) ↔ 1 ≤ k / 4 := by omega
  have u2 : (1 ≤ k % 4 ∧ (((k % 4 : Nat) : Int) < 4 ∨ ((k % 4 : Nat) : Int) = 4 ∧ ((k / 4 : Nat) : Int) < 0)) ↔ 1 ≤ k % 4 := by omega
  simp only [u1, u2]
end ZWI
