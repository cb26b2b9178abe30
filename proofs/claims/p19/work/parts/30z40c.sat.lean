/-! tests on zones; zones of clocks set back, of time gone by, widened -/
def zo_ts (c s m : Int) (w : Nat → Int) : Prop := (s ≤ 2 → w (4 * c.toNat) ≤ 2 * m + (if s = 0 then 0 else 1)) ∧ (2 ≤ s → w c.toNat ≤ -2 * m + (if s = 4 then 0 else 1))
def zo_sat (n : Int) (T : Nat → Int) (o : Int) (w : Nat → Int) : Prop := ∀ j : Int, 0 ≤ j → j < n → zo_ts (T (o + 3 * j).toNat) (T (o + 3 * j + 1).toNat) (T (o + 3 * j + 2).toNat) w
/-- the tests' numbers are such numbers -/
def zo_tr (n : Int) (T : Nat → Int) (o : Int) : Prop := ∀ j : Int, 0 ≤ j → j < n → (1 ≤ T (o + 3 * j).toNat ∧ T (o + 3 * j).toNat ≤ 3) ∧ (0 ≤ T (o + 3 * j + 1).toNat ∧ T (o + 3 * j + 1).toNat ≤ 4) ∧ 0 ≤ T (o + 3 * j + 2).toNat ∧ T (o + 3 * j + 2).toNat ≤ 1000
def zo_dc (K : (Nat → Int) → Prop) : Prop := ∀ w w', zo_le w' w → K w → K w'
theorem zo_ts.dc {c s m : Int} (hc : 0 ≤ c ∧ c ≤ 3) : zo_dc (zo_ts c s m) := fun w w' h k => ⟨fun q => Int.le_trans (h _ (by omega)) (k.1 q), fun q => Int.le_trans (h _ (by omega)) (k.2 q)⟩
theorem zo_le.dc (z : Nat → Int) : zo_dc (fun w => zo_le w z) := fun w w' h k => h.tr k
theorem zo_dc.and {K K' : (Nat → Int) → Prop} (h : zo_dc K) (h' : zo_dc K') : zo_dc (fun w => K w ∧ K' w) := fun w w' q k => ⟨h w w' q k.1, h' w w' q k.2⟩
theorem zo_sat.dc {n o : Int} {T : Nat → Int} (hr : zo_tr n T o) : zo_dc (zo_sat n T o) := fun w w' h k j h0 h1 => zo_ts.dc (by have := hr j h0 h1; omega) w w' h (k j h0 h1)
theorem zo_bdc {x : Nat} {b : Int} (hx : x < 16) : zo_dc (fun w => w x ≤ b) := fun w w' h k => Int.le_trans (h x hx) k
theorem zo_sat_0 {n o : Int} {T w : Nat → Int} (hn : n ≤ 0) : zo_sat n T o w := fun j h0 h1 => absurd h1 (by omega)
theorem zo_sat_succ {i o : Int} {T w : Nat → Int} (hi : 0 ≤ i) : zo_sat (i + 1) T o w ↔ zo_sat i T o w ∧ zo_ts (T (o + 3 * i).toNat) (T (o + 3 * i + 1).toNat) (T (o + 3 * i + 2).toNat) w :=
  ⟨fun h => ⟨fun j h0 h1 => h j h0 (by omega), h i hi (by omega)⟩, fun h => z_snoc h.1 h.2⟩
/-- alike in 16 -/
theorem zo_Z.congr {U V L : Int} {c d : Nat → Int} (h : zo_Z U V L c) (e : ∀ k, k < 16 → c k = d k) : zo_Z U V L d :=
  ⟨h.1.congr e, fun i hi => (h.2.1 i hi).imp (fun q => ⟨by rw [← e _ (by omega)]; exact q.1, fun j hj => by rw [← e _ (by omega)]; exact q.2 j hj⟩) (fun q => ⟨by rw [← e _ (by omega)]; exact q.1, fun j hj => by rw [← e _ (by omega)]; exact q.2 j hj⟩), fun j hj => by rw [← e _ (by omega)]; exact h.2.2 j hj⟩
theorem zo_GC.congr {K : (Nat → Int) → Prop} {c d : Nat → Int} (hK : zo_dc K) (h : zo_GC K c) (e : ∀ k, k < 16 → c k = d k) : zo_GC K d :=
  ⟨h.1.congr e, hK c d (fun k hk => by rw [e k hk]; exact Int.le_refl _) h.2.1, fun w hw k => fun i hi => by rw [← e i hi]; exact h.2.2 w hw k i hi⟩
/-! one step of keeping tests -/
section ZST
variable {K : (Nat → Int) → Prop} {U V L b : Int} {c : Nat → Int} {x : Nat}
theorem zo_GC.same (h : zo_GC K c) {y : Nat} (hb : c y ≤ b) : zo_GC (fun w => K w ∧ w y ≤ b) c := ⟨h.1, ⟨h.2.1, hb⟩, fun w hw k => h.2.2 w hw k.1⟩
theorem zo_GC.nar {y : Nat} (hK : zo_dc K) (h : zo_GC K c) (hx : x < 4) (hy : y < 4) (hb : b < 3000) (hr : ∀ k, k < 16 → c k < 100000 → c k ≤ 45000) (hC : zo_C (zo_nar c x y b)) : zo_GC (fun w => K w ∧ w (4 * x + y) ≤ b) (zo_nar c x y b) :=
  ⟨hC, ⟨hK c _ zo_nar_le h.2.1, zo_nar_xy h.1 hx hy⟩, fun w hw k => zo_nar_gt hx hy hb hr hw (h.2.2 w hw k.1) k.2⟩
theorem zo_GC.no {y : Nat} (h : zo_GC K c) (hx : x < 4) (hy : y < 4) (hb : b < 3000) (hf : c (4 * y + x) < 100000) (hn : zo_fs b (c (4 * y + x)) < 1) : zo_none (fun w => K w ∧ w (4 * x + y) ≤ b) := fun w hw k => zo_nar_no hx hy hb hf hn w hw ⟨h.2.2 w hw k.1, k.2⟩
theorem zo_GC.ceil (hK : zo_dc K) (h : zo_GC K c) (hz : zo_Z U V L c) (hx : 1 ≤ x ∧ x < 4) (hb : 0 ≤ b ∧ b ≤ 2001) (hV : U + 2002 ≤ V) (hV2 : V ≤ 45000) : (∃ d, zo_GC (fun w => K w ∧ w (4 * x) ≤ b) d ∧ zo_Z U V L d) ∨ zo_none (fun w => K w ∧ w (4 * x) ≤ b) := by
  by_cases h1 : c (4 * x) ≤ b
  · exact Or.inl ⟨c, h.same h1, hz⟩
  · have l := hz.2.2 x hx.2
    by_cases h2 : zo_fs b (c x) < 1
    · refine Or.inr ?_
      have := h.no (x := x) (y := 0) (b := b) hx.2 (by omega) (by omega) (by rw [show 4 * 0 + x = x by omega]; omega) (by rw [show 4 * 0 + x = x by omega]; exact h2)
      rw [Nat.add_zero] at this
      exact this
    · have z2 := hz.ceil hx hb hV hV2 (by omega)
      have g := h.nar hK (x := x) (y := 0) (b := b) hx.2 (by omega) (by omega) (fun k hk hf => by have := hz.up (by omega) k hk hf; omega) z2.1
      rw [Nat.add_zero] at g
      exact Or.inl ⟨_, g, z2⟩
theorem zo_GC.floor (hK : zo_dc K) (h : zo_GC K c) (hz : zo_Z U V L c) (hx : 1 ≤ x ∧ x < 4) (hb : -2000 ≤ b ∧ b ≤ 1) (hUV : U ≤ V) (hV2 : V ≤ 45000) : (∃ d, zo_GC (fun w => K w ∧ w x ≤ b) d ∧ zo_Z U V (L + 2003) d) ∨ zo_none (fun w => K w ∧ w x ≤ b) := by
  have e0 : 4 * 0 + x = x := by omega
  by_cases h1 : c x ≤ b
  · exact Or.inl ⟨c, h.same h1, hz.mono (Int.le_refl _) (Int.le_refl _) (by omega)⟩
  · by_cases h2 : c (4 * x) < 100000 ∧ zo_fs b (c (4 * x)) < 1
    · refine Or.inr ?_
      have := h.no (x := 0) (y := x) (b := b) (by omega) hx.2 (by omega) (by rw [Nat.add_zero]; exact h2.1) (by rw [Nat.add_zero]; exact h2.2)
      rw [e0] at this
      exact this
    · have z2 := hz.floor hx hb hUV hV2 (fun q => by omega)
      have g := h.nar hK (x := 0) (y := x) (b := b) (by omega) hx.2 (by omega) (fun k hk hf => by have := hz.up hUV k hk hf; omega) z2.1
      rw [e0] at g
      exact Or.inl ⟨_, g, z2⟩
theorem zo_none.and {K K2 : (Nat → Int) → Prop} (h : zo_none K) (e : ∀ w, zo_C w → K2 w → K w) : zo_none K2 := fun w hw k => h w hw (e w hw k)
/-- a test kept -/
theorem zo_GC.test {c0 s0 m0 : Int} (hK : zo_dc K) (h : zo_GC K c) (hz : zo_Z U V L c) (hc : 1 ≤ c0 ∧ c0 ≤ 3) (hs : 0 ≤ s0 ∧ s0 ≤ 4) (hm : 0 ≤ m0 ∧ m0 ≤ 1000) (hV : U + 2002 ≤ V) (hV2 : V ≤ 45000) : (∃ d, zo_GC (fun w => K w ∧ zo_ts c0 s0 m0 w) d ∧ zo_Z U V (L + 2003) d) ∨ zo_none (fun w => K w ∧ zo_ts c0 s0 m0 w) := by
  have hif0 : (if s0 = 0 then (0 : Int) else 1) = 0 ∨ (if s0 = 0 then (0 : Int) else 1) = 1 := by split <;> omega
  have hif4 : (if s0 = 4 then (0 : Int) else 1) = 0 ∨ (if s0 = 4 then (0 : Int) else 1) = 1 := by split <;> omega
  by_cases h1 : s0 ≤ 2
  · rcases h.ceil hK hz (x := c0.toNat) (b := 2 * m0 + (if s0 = 0 then 0 else 1)) (by omega) (by omega) hV hV2 with ⟨d, g, z⟩ | g
    · by_cases h2 : 2 ≤ s0
      · rcases g.floor (hK.and (zo_bdc (by omega))) z (x := c0.toNat) (b := -2 * m0 + (if s0 = 4 then 0 else 1)) (by omega) (by omega) (by omega) hV2 with ⟨d2, g2, z2⟩ | g2
        · exact Or.inl ⟨d2, g2.iff (fun w _ => ⟨fun k => ⟨k.1.1, fun _ => k.1.2, fun _ => k.2⟩, fun k => ⟨⟨k.1, k.2.1 h1⟩, k.2.2 h2⟩⟩), z2⟩
        · exact Or.inr (g2.and (fun w _ k => ⟨⟨k.1, k.2.1 h1⟩, k.2.2 h2⟩))
      · exact Or.inl ⟨d, g.iff (fun w _ => ⟨fun k => ⟨k.1, fun _ => k.2, fun q => absurd q h2⟩, fun k => ⟨k.1, k.2.1 h1⟩⟩), z.mono (Int.le_refl _) (Int.le_refl _) (by omega)⟩
    · exact Or.inr (g.and (fun w _ k => ⟨k.1, k.2.1 h1⟩))
  · rcases h.floor hK hz (x := c0.toNat) (b := -2 * m0 + (if s0 = 4 then 0 else 1)) (by omega) (by omega) (by omega) hV2 with ⟨d2, g2, z2⟩ | g2
    · exact Or.inl ⟨d2, g2.iff (fun w _ => ⟨fun k => ⟨k.1, fun q => absurd q h1, fun _ => k.2⟩, fun k => ⟨k.1, k.2.2 (by omega)⟩⟩), z2⟩
    · exact Or.inr (g2.and (fun w _ k => ⟨k.1, k.2.2 (by omega)⟩))
/-- all tests of a list kept -/
theorem zo_GC.tests {T : Nat → Int} {o : Int} (hK : zo_dc K) (h : zo_GC K c) (hz : zo_Z U V L c) (hV : U + 2002 ≤ V) (hV2 : V ≤ 45000) : ∀ n : Nat, zo_tr n T o → (∃ d, zo_GC (fun w => K w ∧ zo_sat n T o w) d ∧ zo_Z U V (L + 2003 * n) d) ∨ zo_none (fun w => K w ∧ zo_sat n T o w) := by
  intro n
  induction n with
  | zero =>
    intro _
    refine Or.inl ⟨c, h.iff (fun w _ => ⟨fun k => ⟨k, zo_sat_0 (by omega)⟩, fun k => k.1⟩), ?_⟩
    exact hz.mono (Int.le_refl _) (Int.le_refl _) (by omega)
  | succ n ih =>
    intro hr
    have hr' : zo_tr n T o := fun j h0 h1 => hr j h0 (by omega)
    have rn := hr n (by omega) (by omega)
    have sc : ∀ w, zo_sat ((n + 1 : Nat) : Int) T o w ↔ zo_sat n T o w ∧ zo_ts (T (o + 3 * n).toNat) (T (o + 3 * n + 1).toNat) (T (o + 3 * n + 2).toNat) w := fun w => by
      have := zo_sat_succ (i := (n : Int)) (o := o) (T := T) (w := w) (by omega)
      exact this
    rcases ih hr' with ⟨d, g, z⟩ | g
    · rcases g.test (hK.and (zo_sat.dc hr')) z rn.1 rn.2.1 rn.2.2 hV hV2 with ⟨d2, g2, z2⟩ | g2
      · exact Or.inl ⟨d2, g2.iff (fun w _ => by rw [sc w, and_assoc]), z2.mono (Int.le_refl _) (Int.le_refl _) (by omega)⟩
      · exact Or.inr (g2.and (fun w _ k => ⟨⟨k.1, ((sc w).mp k.2).1⟩, ((sc w).mp k.2).2⟩))
    · exact Or.inr (g.and (fun w _ k => ⟨k.1, ((sc w).mp k.2).1⟩))
end ZST
/-! closing what tests were put into -/
/-- Z is z with bounds of clocks put in -/
def zo_bdd (U : Int) (z Z : Nat → Int) : Prop := zo_le Z z ∧ (∀ i j, i < 4 → 1 ≤ j → j < 4 → Z (4 * i + j) < 100000 → z (4 * i + j) < 100000) ∧ (∀ i, i < 4 → Z (4 * i) < 100000 → Z (4 * i) ≤ U) ∧ (∀ j, j < 4 → Z j ≤ 1) ∧ (∀ x, x < 4 → Z (4 * x + x) = 1) ∧ ∀ k, k < 16 → -90000 ≤ Z k
/-- rows: all at most F, or none that wasn't there ahead -/
def zo_rt (F : Int) (z D : Nat → Int) : Prop := ∀ i, i < 4 → (∀ j, j < 4 → D (4 * i + j) ≤ F) ∨ ∀ j, j < 4 → D (4 * i + j) < 100000 → z (4 * i + j) < 100000
theorem zo_rt.step {U F : Int} {k : Nat} {z D E : Nat → Int} (hk : k < 4) (hC : zo_C z) (hU : ∀ j, j < 16 → z j < 100000 → z j ≤ U) (hF : U ≤ F) (hF2 : U + F < 100000) (hU0 : 0 ≤ U) (hle : zo_le D z) (h : zo_rt F z D) (ht : zo_top D) (hE : ∀ j, j < 16 → E j = zo_dn k D j) : zo_BD k D ∧ zo_rt (U + F) z E := by
  have ub : ∀ i j, i < 4 → j < 4 → D (4 * i + j) < 100000 → z (4 * i + j) < 100000 → D (4 * i + j) ≤ U := fun i j hi hj _ h2 => Int.le_trans (hle.at hi hj) (hU _ (by omega) h2)
  have le : ∀ x y, x < 4 → y < 4 → E (4 * x + y) ≤ D (4 * x + y) := fun x y hx hy => by
    rw [hE _ (by omega), zo_dn_at hy]; omega
  refine ⟨fun x y hx hy h1 h2 => ?_, fun i hi => ?_⟩
  · rcases h x hx with q | q
    · exact Or.inl (by have := q y hy; omega)
    · right
      have a1 := ub x k hx hk h1 (q k hk h1)
      have a2 : D (4 * k + y) ≤ F := by
        rcases h k hk with q' | q'
        · exact q' y hy
        · exact Int.le_trans (ub k y hk hy h2 (q' y hy h2)) hF
      have a3 := zo_fs_le (D (4 * x + k)) (D (4 * k + y))
      omega
  · rcases h i hi with q | q
    · exact Or.inl (fun j hj => by have := q j hj; have := le i j hi hj; omega)
    · by_cases hik : D (4 * i + k) < 100000
      · have a1 := ub i k hi hk hik (q k hk hik)
        rcases h k hk with q' | q'
        · left
          intro j hj
          have b1 := q' j hj
          have e : E (4 * i + j) = min (zo_sum (D (4 * i + k)) (D (4 * k + j))) (D (4 * i + j)) := by rw [hE _ (by omega), zo_dn_at hj]
          rw [zo_sum_f hik (by omega)] at e
          have a3 := zo_fs_le (D (4 * i + k)) (D (4 * k + j))
          omega
        · right
          intro j hj hf
          have e : E (4 * i + j) = min (zo_sum (D (4 * i + k)) (D (4 * k + j))) (D (4 * i + j)) := by rw [hE _ (by omega), zo_dn_at hj]
          by_cases hd : D (4 * i + j) < 100000
          · exact q j hj hd
          · have t0 := ht (4 * i + j) (by omega)
            have t2 := ht (4 * k + j) (by omega)
            have hkj : D (4 * k + j) < 100000 := by
              rcases Int.lt_or_le (D (4 * k + j)) 100000 with r | r
              · exact r
              · unfold zo_sum at e
                rw [if_pos (Or.inr (by omega))] at e
                omega
            have c1 := q k hk hik
            have c2 := q' j hj hkj
            have c3 := hC.2.2 i k j hi hk hj c1 c2
            have c4 := zo_fs_le (z (4 * i + k)) (z (4 * k + j))
            have c5 := hU _ (show 4 * i + k < 16 by omega) c1
            have c6 := hU _ (show 4 * k + j < 16 by omega) c2
            omega
      · right
        intro j hj hf
        have t1 := ht (4 * i + k) (by omega)
        have e : E (4 * i + j) = min (zo_sum (D (4 * i + k)) (D (4 * k + j))) (D (4 * i + j)) := by rw [hE _ (by omega), zo_dn_at hj]
        unfold zo_sum at e
        rw [if_pos (Or.inl (by omega))] at e
        exact q j hj (by omega)
theorem zo_bdd.top {U : Int} {z Z : Nat → Int} (hC : zo_C z) (h : zo_bdd U z Z) : zo_top Z := fun k hk => Int.le_trans (h.1 k hk) (hC.2.1 k hk)
theorem zo_bdd.BD {U : Int} {z Z : Nat → Int} (hC : zo_C z) (hU : ∀ j, j < 16 → z j < 100000 → z j ≤ U) (hU0 : 2001 ≤ U) (hU1 : U ≤ 24000) (h : zo_bdd U z Z) : (∀ x, x < 4 → zo_fw 64 Z (4 * x + x) = 1) → ∀ k, k < 4 → zo_BD k (zo_fw (16 * k) Z) := by
  intro hd
  obtain ⟨h1, h2, h3, h4, h5, h6⟩ := h
  have ht : zo_top Z := fun k hk => Int.le_trans (h1 k hk) (hC.2.1 k hk)
  have dg := fun k (hk : k < 4) => zo_fw_dg h5 hd (16 * k) (by omega) k hk
  have rd := fun k (hk : k < 4) => zo_fw_rd hk (dg k hk)
  have hle := fun k => (fun j (hj : j < 16) => Int.le_trans (zo_fw_le (16 * k) Z j) (h1 j hj) : zo_le (zo_fw (16 * k) Z) z)
  have b0 : zo_BD 0 (zo_fw (16 * 0) Z) := by
    intro x y hx hy q1 q2
    right
    have a1 := h3 x hx (by simpa [zo_fw] using q1)
    have a2 := h4 y hy
    have a3 := zo_fs_le (Z (4 * x)) (Z y)
    have e : zo_fs (zo_fw (16 * 0) Z (4 * x + 0)) (zo_fw (16 * 0) Z (4 * 0 + y)) = zo_fs (Z (4 * x)) (Z y) := by simp [zo_fw]
    rw [e]
    omega
  have r1 : zo_rt (U + 1) z (zo_fw (16 * (0 + 1)) Z) := by
    intro i hi
    have e : ∀ j, j < 4 → zo_fw (16 * (0 + 1)) Z (4 * i + j) = min (zo_sum (Z (4 * i)) (Z j)) (Z (4 * i + j)) := fun j hj => by
      rw [rd 0 (by omega) _ (by omega), zo_dn_at hj]
      simp [zo_fw]
    by_cases hf : Z (4 * i) < 100000
    · left
      intro j hj
      rw [e j hj]
      have a1 := h3 i hi hf
      have a2 := h4 j hj
      rw [zo_sum_f hf (by omega)]
      have a3 := zo_fs_le (Z (4 * i)) (Z j)
      omega
    · right
      intro j hj q
      rw [e j hj] at q
      have t := ht (4 * i) (by omega)
      unfold zo_sum at q
      rw [if_pos (Or.inl (by omega))] at q
      by_cases hj0 : j = 0
      · subst hj0
        rw [Nat.add_zero] at q
        omega
      · exact h2 i j hi (by omega) hj (by omega)
  have s1 := zo_rt.step (by omega) hC hU (by omega) (by omega) (by omega) (hle (0 + 1)) r1 (ht.fw _) (rd (0 + 1) (by omega))
  have s2 := zo_rt.step (by omega) hC hU (by omega) (by omega) (by omega) (hle (0 + 1 + 1)) s1.2 (ht.fw _) (rd (0 + 1 + 1) (by omega))
  have s3 := zo_rt.step (by omega) hC hU (by omega) (by omega) (by omega) (hle (0 + 1 + 1 + 1)) s2.2 (ht.fw _) (rd (0 + 1 + 1 + 1) (by omega))
  intro k hk
  rcases (show k = 0 ∨ k = 0 + 1 ∨ k = 0 + 1 + 1 ∨ k = 0 + 1 + 1 + 1 by omega) with q | q | q | q
  · rw [q]; exact b0
  · rw [q]; exact s1.1
  · rw [q]; exact s2.1
  · rw [q]; exact s3.1
