/-! times that each ask to be so much behind others: the least ones, and how soon they are found -/
def zs_S (K : Nat → Nat → Int → Prop) (L : Nat → Int) : Prop := ∀ b a w, K b a w → L b + w ≤ L a
def zs_nn (n : Nat) (L : Nat → Int) : Prop := ∀ v, v ≤ n → 0 ≤ L v
def zs_L (K : Nat → Nat → Int → Prop) (n : Nat) (L : Nat → Int) : Prop := zs_S K L ∧ zs_nn n L ∧ ∀ L', zs_S K L' → zs_nn n L' → ∀ v, v ≤ n → L v ≤ L' v
def zs_K (K : Nat → Nat → Int → Prop) (n : Nat) : Prop := ∀ b a w, K b a w → b ≤ n ∧ a ≤ n ∧ w ≤ 64001
def zs_m (L : Nat → Int) : Nat → Int
  | 0 => 0
  | n + 1 => zs_m L n + L n
section ZSL
variable {K : Nat → Nat → Int → Prop} {n : Nat} {L L' : Nat → Int}
theorem zs_m_le (N : Nat) (h : ∀ v, v < N → L v ≤ L' v) : zs_m L N ≤ zs_m L' N := by
  induction N with
  | zero => exact Int.le_refl _
  | succ N ih =>
    have a := ih (fun v hv => h v (by omega))
    have b := h N (by omega)
    unfold zs_m
    omega
theorem zs_m_lt (N : Nat) (h : ∀ v, v < N → L v ≤ L' v) {i : Nat} (hi : i < N) (q : L i < L' i) : zs_m L N < zs_m L' N := by
  induction N with
  | zero => omega
  | succ N ih =>
    have b := h N (by omega)
    unfold zs_m
    by_cases e : i = N
    · subst e
      have a := zs_m_le i (fun v hv => h v (by omega))
      omega
    · have a := ih (fun v hv => h v (by omega)) (by omega)
      omega
theorem zs_m_nn (N : Nat) (h : ∀ v, v < N → 0 ≤ L v) : 0 ≤ zs_m L N := by
  induction N with
  | zero => exact Int.le_refl _
  | succ N ih =>
    have a := ih (fun v hv => h v (by omega))
    have b := h N (by omega)
    unfold zs_m
    omega
theorem zs_ex : ∀ (N : Nat) (L : Nat → Int), zs_S K L → zs_nn n L → zs_m L (n + 1) ≤ N → ∃ L0, zs_L K n L0 := by
  intro N
  induction N with
  | zero =>
    intro L hS hN hm
    refine ⟨L, hS, hN, fun L' s' n' v hv => ?_⟩
    by_cases c : L v ≤ L' v
    · exact c
    · have := zs_m_lt (L := fun v => min (L v) (L' v)) (L' := L) (n + 1) (fun v _ => by (try dsimp only); omega) (i := v) (by omega) (by (try dsimp only); omega)
      have := zs_m_nn (L := fun v => min (L v) (L' v)) (n + 1) (fun v hv => by have := hN v (by omega); have := n' v (by omega); (try dsimp only); omega)
      omega
  | succ N ih =>
    intro L hS hN hm
    by_cases c : ∀ L', zs_S K L' → zs_nn n L' → ∀ v, v ≤ n → L v ≤ L' v
    · exact ⟨L, hS, hN, c⟩
    · obtain ⟨L', s', n', v, hv, q⟩ : ∃ L', zs_S K L' ∧ zs_nn n L' ∧ ∃ v, v ≤ n ∧ L' v < L v := Classical.byContradiction (fun r => c (fun L' s' n' v hv => by
        by_cases d : L v ≤ L' v
        · exact d
        · exact absurd ⟨L', s', n', v, hv, by omega⟩ r))
      refine ih (fun v => min (L v) (L' v)) (fun b a w k => ?_) (fun v hv => ?_) ?_
      · have := hS b a w k
        have := s' b a w k
        dsimp only
        omega
      · have := hN v hv
        have := n' v hv
        dsimp only
        omega
      · have := zs_m_lt (L := fun v => min (L v) (L' v)) (L' := L) (n + 1) (fun v _ => by (try dsimp only); omega) (i := v) (by omega) (by (try dsimp only); omega)
        omega
theorem zs_L.ex (hS : zs_S K L) (hN : zs_nn n L) : ∃ L0, zs_L K n L0 := zs_ex (zs_m L (n + 1)).toNat L hS hN (by omega)
theorem zs_L.eq {K' : Nat → Nat → Int → Prop} (h : zs_L K n L) (h' : zs_L K' n L') (e : ∀ M, zs_S K M ↔ zs_S K' M) : ∀ v, v ≤ n → L v = L' v := fun v hv => by
  have a := h.2.2 L' ((e _).mpr h'.1) h'.2.1 v hv
  have b := h'.2.2 L ((e _).mp h.1) h.2.1 v hv
  omega
theorem zs_L.iff {K' : Nat → Nat → Int → Prop} (h : zs_L K n L) (e : ∀ M, zs_S K M ↔ zs_S K' M) : zs_L K' n L := ⟨(e _).mp h.1, h.2.1, fun M s m => h.2.2 M ((e _).mpr s) m⟩
/-- where some are known, one more is at once behind a known one -/
theorem zs_tight (h : zs_L K n L) (hK : zs_K K n) {F : Nat → Prop} (h0 : ∀ v, v ≤ n → L v = 0 → F v) (hn : ∃ v, v ≤ n ∧ ¬ F v) : ∃ b a w, K b a w ∧ F b ∧ ¬ F a ∧ L b + w = L a := by
  refine Classical.byContradiction (fun r => ?_)
  obtain ⟨v, hv, nf⟩ := hn
  obtain ⟨M, m1, m2⟩ : ∃ M : Nat → Int, (∀ v, F v → M v = L v) ∧ ∀ v, ¬ F v → M v = L v - 1 := ⟨fun v => @ite _ (F v) (Classical.propDecidable _) (L v) (L v - 1), fun v q => if_pos q, fun v q => if_neg q⟩
  have sM : zs_S K M := fun b a w k => by
    have q := h.1 b a w k
    by_cases cb : F b <;> by_cases ca : F a
    · rw [m1 b cb, m1 a ca]; exact q
    · rw [m1 b cb, m2 a ca]
      by_cases t : L b + w = L a
      · exact absurd ⟨b, a, w, k, cb, ca, t⟩ r
      · omega
    · rw [m2 b cb, m1 a ca]; omega
    · rw [m2 b cb, m2 a ca]; omega
  have nM : zs_nn n M := fun u hu => by
    have q := h.2.1 u hu
    by_cases c : F u
    · rw [m1 u c]; exact q
    · rw [m2 u c]
      by_cases z : L u = 0
      · exact absurd (h0 u hu z) c
      · omega
  have q := h.2.2 M sM nM v hv
  rw [m2 v nf] at q
  omega
end ZSL
/-- how many -/
noncomputable def zs_c (P : Nat → Prop) : Nat → Nat
  | 0 => 0
  | N + 1 => zs_c P N + @ite _ (P N) (Classical.propDecidable _) 1 0
section ZSC
variable {P Q : Nat → Prop}
theorem zs_c1 {N : Nat} (h : P N) : zs_c P (N + 1) = zs_c P N + 1 := by rw [zs_c, if_pos h]
theorem zs_c0 {N : Nat} (h : ¬ P N) : zs_c P (N + 1) = zs_c P N := by rw [zs_c, if_neg h, Nat.add_zero]
theorem zs_c_le (N : Nat) : zs_c P N ≤ N := by
  induction N with
  | zero => exact Nat.le_refl _
  | succ N ih =>
    by_cases c : P N
    · rw [zs_c1 c]; omega
    · rw [zs_c0 c]; omega
theorem zs_c_sub (N : Nat) (h : ∀ v, v < N → P v → Q v) : zs_c P N ≤ zs_c Q N := by
  induction N with
  | zero => exact Nat.le_refl _
  | succ N ih =>
    have a := ih (fun v hv => h v (by omega))
    by_cases c : P N
    · rw [zs_c1 c, zs_c1 (h N (by omega) c)]; omega
    · rw [zs_c0 c]
      by_cases d : Q N
      · rw [zs_c1 d]; omega
      · rw [zs_c0 d]; exact a
theorem zs_c_lt (N : Nat) (h : ∀ v, v < N → P v → Q v) {i : Nat} (hi : i < N) (q : Q i) (p : ¬ P i) : zs_c P N + 1 ≤ zs_c Q N := by
  induction N with
  | zero => omega
  | succ N ih =>
    by_cases e : i = N
    · subst e
      have a := zs_c_sub i (fun v hv => h v (by omega))
      rw [zs_c0 p, zs_c1 q]; omega
    · have a := ih (fun v hv => h v (by omega)) (by omega)
      by_cases c : P N
      · rw [zs_c1 c, zs_c1 (h N (by omega) c)]; omega
      · rw [zs_c0 c]
        by_cases d : Q N
        · rw [zs_c1 d]; omega
        · rw [zs_c0 d]; exact a
theorem zs_c_all (N : Nat) (h : N ≤ zs_c P N) : ∀ v, v < N → P v := by
  induction N with
  | zero => intro v hv; omega
  | succ N ih =>
    have a := zs_c_le (P := P) N
    by_cases c : P N
    · rw [zs_c1 c] at h
      intro v hv
      by_cases e : v = N
      · subst e; exact c
      · exact ih (by omega) v (by omega)
    · rw [zs_c0 c] at h
      omega
theorem zs_c_one (N : Nat) {i : Nat} (hi : i < N) (q : P i) : 1 ≤ zs_c P N := by
  have := zs_c_lt (P := fun _ => False) (Q := P) N (fun _ _ q => q.elim) hi q id
  omega
end ZSC
section ZSB
variable {K : Nat → Nat → Int → Prop} {n : Nat} {L V V' : Nat → Int}
theorem zs_bd (h : zs_L K n L) (hK : zs_K K n) (h0 : L 0 = 0) : ∀ v, v ≤ n → L v ≤ 64001 * n := by
  have key : ∀ k : Nat, k ≤ n → k + 1 ≤ zs_c (fun v => L v ≤ 64001 * k) (n + 1) := by
    intro k
    induction k with
    | zero => intro _; exact zs_c_one (n + 1) (i := 0) (by omega) (by (try dsimp only); omega)
    | succ k ih =>
      intro hk
      have a := ih (by omega)
      by_cases c : ∃ v, v ≤ n ∧ ¬ L v ≤ 64001 * k
      · obtain ⟨b, x, w, k1, k2, k3, k4⟩ := zs_tight h hK (F := fun v => L v ≤ 64001 * k) (fun v hv e => by (try dsimp only); omega) c
        have r := hK b x w k1
        have := zs_c_lt (P := fun v => L v ≤ 64001 * (k : Int)) (Q := fun v => L v ≤ 64001 * ((k + 1 : Nat) : Int)) (n + 1) (fun v _ q => by (try dsimp only at q ⊢); omega) (i := x) (by omega) (by (try dsimp only at k2 k3 ⊢); omega) k3
        omega
      · have b : zs_c (fun v => L v ≤ 64001 * ((k + 1 : Nat) : Int)) (n + 1) = n + 1 := by
          have e : ∀ N, N ≤ n + 1 → zs_c (fun v => L v ≤ 64001 * ((k + 1 : Nat) : Int)) N = N := by
            intro N
            induction N with
            | zero => intro _; rfl
            | succ N ihN =>
              intro hN
              have p : L N ≤ 64001 * (k : Int) := Classical.byContradiction (fun q => c ⟨N, by omega, q⟩)
              rw [zs_c1 (by omega), ihN (by omega)]
          exact e _ (Nat.le_refl _)
        rw [b]
        omega
  exact fun v hv => zs_c_all (n + 1) (key n (Nat.le_refl _)) v (by omega)
/-- a round: what it is sure to do -/
def zs_r (K : Nat → Nat → Int → Prop) (n : Nat) (L V V' : Nat → Int) : Prop := (∀ v, v ≤ n → V v ≤ V' v) ∧ (∀ v, v ≤ n → V' v ≤ L v) ∧ ∀ b a w, K b a w → V b + w ≤ V' a
/-- as many are found after so many rounds -/
def zs_I (n : Nat) (L : Nat → Int) (i : Nat) (V : Nat → Int) : Prop := zs_nn n V ∧ (∀ v, v ≤ n → V v ≤ L v) ∧ (i + 1 ≤ zs_c (fun v => V v = L v) (n + 1) ∨ ∀ v, v ≤ n → V v = L v)
theorem zs_I.ini (h : ∀ v, v ≤ n → V v = 0) (hL : zs_nn n L) (h0 : L 0 = 0) : zs_I n L 0 V := ⟨fun v hv => by rw [h v hv]; exact Int.le_refl _, fun v hv => by rw [h v hv]; exact hL v hv, Or.inl (zs_c_one (n + 1) (i := 0) (by omega) (by (try dsimp only); rw [h 0 (by omega), h0]))⟩
theorem zs_I.step {i : Nat} (hK : zs_K K n) (hL : zs_L K n L) (h : zs_I n L i V) (r : zs_r K n L V V') : zs_I n L (i + 1) V' := by
  obtain ⟨nn, a, b⟩ := h
  have le := r.2.1
  have keep : ∀ v, v ≤ n → V v = L v → V' v = L v := fun v hv e => by
    have := r.1 v hv
    have := le v hv
    omega
  refine ⟨fun v hv => Int.le_trans (nn v hv) (r.1 v hv), le, ?_⟩
  by_cases c : ∃ v, v ≤ n ∧ ¬ V v = L v
  · rcases b with b | b
    · obtain ⟨x, y, w, k1, k2, k3, k4⟩ := zs_tight hL hK (F := fun v => V v = L v) (fun v hv e => by have := a v hv; have := nn v hv; (try dsimp only); omega) c
      have q := r.2.2 x y w k1
      have m := hK x y w k1
      have := le y m.2.1
      have := zs_c_lt (P := fun v => V v = L v) (Q := fun v => V' v = L v) (n + 1) (fun v hv q => keep v (by omega) q) (i := y) (by omega) (by (try dsimp only at k2 ⊢); omega) k3
      exact Or.inl (by omega)
    · obtain ⟨v, hv, q⟩ := c
      exact absurd (b v hv) q
  · exact Or.inr (fun v hv => keep v hv (Classical.byContradiction (fun q => c ⟨v, hv, q⟩)))
theorem zs_I.fin {i : Nat} (h : zs_I n L i V) (hi : n ≤ i) : ∀ v, v ≤ n → V v = L v := by
  rcases h.2.2 with b | b
  · exact fun v hv => zs_c_all (P := fun v => V v = L v) (n + 1) (by omega) v (by omega)
  · exact b
theorem zs_I.stop {i : Nat} (h : zs_I n L i V) (hs : zs_S K V) (hL : zs_L K n L) : ∀ v, v ≤ n → V v = L v := fun v hv => by
  have a := h.2.1 v hv
  have b := hL.2.2 V hs h.1 v hv
  omega
end ZSB
