/-! before a zone was widened -/
theorem zq.less {G s d d' b : Int} (h : zq G s d b) (e : d' ≤ d) : zq G s d' b := fun q => ⟨fun r => by have := (h q).1 r; omega, fun r => by have := (h q).2 r; omega⟩
def zq_I (G s : Int) (mo : Nat → Int) (B S : Nat → Prop) (v z : Nat → Int) : Prop := zq_in G s S v z ∧ ∀ y k, y < 4 → k < 4 → B y → S k → zq G s (G * mo y + s - v k) (z (4 * y + k))
section ZQW
variable {G s s' : Int} {z v mo : Nat → Int} {B S : Nat → Prop} {x : Nat}
theorem zq_I.step (hC : zo_C z) (hU : zq_U z) (hs : 0 < s' ∧ 2 * s' ≤ s ∧ s ≤ G) (h : zq_I G s mo B S v z) (hx : x < 4) (hb : ¬ S x → B x) : ∃ a, zq_I G s' mo B (fun i => S i ∨ i = x) (va_up v x a) z ∧ (S x → a = v x) ∧ (¬ S x → G * mo x + s' ≤ a) := by
  by_cases q : S x
  · refine ⟨v x, ?_, fun _ => rfl, fun r => absurd q r⟩
    have e : va_up v x (v x) = v := by
      funext j
      unfold va_up
      by_cases c : j = x
      · rw [if_pos c, c]
      · rw [if_neg c]
    rw [e]
    have k : ∀ i, (S i ∨ i = x) → S i := fun i r => r.elim id (fun e => e ▸ q)
    exact ⟨(h.1.weak (by omega)).sub (fun i _ r => k i r), fun y i hy hi b r => ((h.2 y i hy hi b (k i r)).weak (by omega)).less (by omega)⟩
  · have hB := hb q
    have dx := hC.1 x hx
    obtain ⟨a, h1, h2⟩ := zq_ext (Q := fun y => B y ∧ z (4 * y + x) < 100000) (ep := fun y => G * mo y + s' - G * (z (4 * y + x) / 2) + (if z (4 * y + x) % 2 = 0 then s' else 0)) hC hU hs h.1 hx (Or.inr ⟨x, hx, hB, by omega⟩) (fun y hy qy k hk sk => by
      intro hf
      have c := hC.2.2 y x k hy hx hk qy.2 hf
      have b1 := hU (4 * y + x) (by omega) qy.2
      have b2 := hU (4 * x + k) (by omega) hf
      have b3 := zo_fs_le (z (4 * y + x)) (z (4 * x + k))
      have t := (h.2 y k hy hk qy.1 sk).tri c (by omega) (by omega)
      constructor
      · intro r
        by_cases e : z (4 * y + x) % 2 = 0
        · rw [if_pos e]
          have := t.2 (Or.inl e)
          omega
        · rw [if_neg e]
          have := t.1
          omega
      · intro r
        have := t.2 (Or.inr r)
        by_cases e : z (4 * y + x) % 2 = 0
        · rw [if_pos e]
          omega
        · rw [if_neg e]
          omega)
    refine ⟨a, ⟨zq_add (h.1.weak (by omega)) q dx hx h1, fun y k hy hk by_ sk => ?_⟩, fun r => absurd r q, fun _ => ?_⟩
    · unfold va_up
      by_cases c : k = x
      · subst c
        rw [if_pos rfl]
        intro hf
        have r := h2 y hy ⟨by_, hf⟩
        constructor
        · intro e
          rw [if_neg (show ¬ z (4 * y + k) % 2 = 0 by omega)] at r
          omega
        · intro e
          rw [if_pos e] at r
          omega
      · rw [if_neg c]
        exact ((h.2 y k hy hk by_ (sk.elim id (fun e => absurd e c))).weak (by omega)).less (by omega)
    · have r := h2 x hx ⟨hB, by omega⟩
      rw [dx, if_neg (by decide), show (1 : Int) / 2 = 0 by decide, Int.mul_zero] at r
      omega
theorem zq_wd0 (hC : zo_C z) (hL : ∀ j, j < 4 → z j ≤ 1) (hm : ∀ x, 1 ≤ x → x < 4 → 0 ≤ mo x) (h0 : v 0 = 0) (hs : 0 < s ∧ 2 * s ≤ G) (h : zq_in G s zq_all v (zo_wd mo z)) : ∀ j, j < 4 → 0 ≤ v j := by
  intro j hj
  have q := h 0 j (by omega) hj trivial trivial
  rw [zo_wd_at hj, h0] at q
  have le : zo_wv mo z 0 j ≤ 1 := by
    have a := hL j hj
    have b : 1 ≤ j → 0 ≤ mo j := fun r => hm j r hj
    unfold zo_wv
    rw [Nat.mul_zero, Nat.zero_add]
    split
    · exact a
    · rw [if_neg (by omega)]
      split
      · omega
      · exact a
  have k := (q.up le (by omega) (by omega)).1 (by decide)
  rw [show (1 : Int) / 2 = 0 by decide, Int.mul_zero] at k
  omega
/-- the clocks that are not beyond their greatest number keep what the zone said -/
theorem zq_wdI (hC : zo_C z) (hL : ∀ j, j < 4 → z j ≤ 1) (hm : ∀ x, 1 ≤ x → x < 4 → 0 ≤ mo x) (h0 : v 0 = 0) (hs : 0 < s ∧ 2 * s ≤ G) (h : zq_in G s zq_all v (zo_wd mo z)) : zq_I G s mo (fun i => 1 ≤ i ∧ G * mo i + s ≤ v i) (fun i => i = 0 ∨ v i < G * mo i + s) v z := by
  have hp := zq_wd0 hC hL hm h0 hs h
  have key : ∀ i j, i < 4 → j < 4 → i ≠ j → (j = 0 ∨ v j < G * mo j + s) → (1 ≤ i ∧ z (4 * i + j) ≠ 100000 ∧ mo i < z (4 * i + j) / 2) ∨ zq G s (v i - v j) (z (4 * i + j)) := by
    intro i j hi hj hij tj
    have q := h i j hi hj trivial trivial
    rw [zo_wd_at hj] at q
    unfold zo_wv at q
    rw [if_neg hij] at q
    by_cases c : 1 ≤ i ∧ z (4 * i + j) ≠ 100000 ∧ mo i < z (4 * i + j) / 2
    · exact Or.inl c
    · rw [if_neg c] at q
      by_cases d : 1 ≤ j ∧ z (4 * i + j) ≠ 100000 ∧ z (4 * i + j) / 2 < -mo j
      · rw [if_pos d] at q
        have m := hm j d.1 hj
        have k := (q (by omega)).2 (by omega)
        rw [show -2 * mo j / 2 = -mo j by omega, Int.mul_neg] at k
        have p := hp i hi
        omega
      · rw [if_neg d] at q
        exact Or.inr q
  constructor
  · intro i j hi hj si sj
    by_cases e : i = j
    · subst e
      rw [hC.1 i hi, Int.sub_self]
      intro _
      exact ⟨fun _ => by rw [show (1 : Int) / 2 = 0 by decide, Int.mul_zero]; exact Int.le_refl _, fun r => absurd r (by decide)⟩
    · rcases key i j hi hj e sj with c | c
      · intro hf
        have k := zq_mul1 (G := G) (by omega) c.2.2
        have p := hp j hj
        have si' : v i < G * mo i + s := si.elim (fun r => absurd r (by omega)) id
        exact ⟨fun _ => by omega, fun _ => by omega⟩
      · exact c
  · intro y k hy hk hb sk
    by_cases e : y = k
    · subst e
      have := hb.1
      have := hb.2
      rcases sk with r | r <;> omega
    · rcases key y k hy hk e sk with c | c
      · intro hf
        have q := zq_mul1 (G := G) (by omega) c.2.2
        have p := hp k hk
        exact ⟨fun _ => by omega, fun _ => by omega⟩
      · exact c.less (by have := hb.2; omega)
/-- alike: the same, or both beyond the greatest number -/
def zq_sim (G : Int) (mo v v' : Nat → Int) : Prop := ∀ x, 1 ≤ x → x < 4 → v x = v' x ∨ (G * mo x + 1 ≤ v x ∧ G * mo x + 1 ≤ v' x)
theorem zq_wd {s1 s2 s3 : Int} (hC : zo_C z) (hU : zq_U z) (hL : ∀ j, j < 4 → z j ≤ 1) (hm : ∀ x, 1 ≤ x → x < 4 → 0 ≤ mo x) (h0 : v 0 = 0) (hs : 0 < s3 ∧ 2 * s3 ≤ s2 ∧ 2 * s2 ≤ s1 ∧ 2 * s1 ≤ s ∧ 2 * s ≤ G) (h : zq_in G s zq_all v (zo_wd mo z)) : ∃ v', v' 0 = 0 ∧ zq_in G s3 zq_all v' z ∧ zq_sim G mo v v' := by
  have i0 := zq_wdI hC hL hm h0 (by omega) h
  have hb : ∀ x, 1 ≤ x → ¬ (x = 0 ∨ v x < G * mo x + s) → 1 ≤ x ∧ G * mo x + s ≤ v x := fun x hx r => ⟨hx, by omega⟩
  obtain ⟨a1, j1, e1, g1⟩ := i0.step (s' := s1) hC hU (by omega) (show 1 < 4 by omega) (hb 1 (by omega))
  obtain ⟨a2, j2, e2, g2⟩ := j1.step (s' := s2) hC hU (by omega) (show 2 < 4 by omega) (fun r => hb 2 (by omega) (fun q => r (Or.inl q)))
  obtain ⟨a3, j3, e3, g3⟩ := j2.step (s' := s3) hC hU (by omega) (show 3 < 4 by omega) (fun r => hb 3 (by omega) (fun q => r (Or.inl (Or.inl q))))
  refine ⟨_, ?_, j3.1.sub (fun i hi _ => ?_), fun x h1 h4 => ?_⟩
  · simp only [va_up]
    exact h0
  · rcases (show i = 0 ∨ i = 1 ∨ i = 2 ∨ i = 3 by omega) with rfl | rfl | rfl | rfl
    · exact Or.inl (Or.inl (Or.inl (Or.inl rfl)))
    · exact Or.inl (Or.inl (Or.inr rfl))
    · exact Or.inl (Or.inr rfl)
    · exact Or.inr rfl
  · rcases (show x = 1 ∨ x = 2 ∨ x = 3 by omega) with rfl | rfl | rfl
    · have e : va_up (va_up (va_up v 1 a1) 2 a2) 3 a3 1 = a1 := rfl
      rw [e]
      by_cases c : v 1 < G * mo 1 + s
      · exact Or.inl (e1 (Or.inr c)).symm
      · exact Or.inr ⟨by omega, by have := g1 (fun r => r.elim (fun q => absurd q (by omega)) c); omega⟩
    · have e : va_up (va_up (va_up v 1 a1) 2 a2) 3 a3 2 = a2 := rfl
      rw [e]
      by_cases c : v 2 < G * mo 2 + s
      · exact Or.inl (e2 (Or.inl (Or.inr c))).symm
      · exact Or.inr ⟨by omega, by have := g2 (fun r => r.elim (fun q => q.elim (fun q => absurd q (by omega)) c) (fun q => absurd q (by omega))); omega⟩
    · have e : va_up (va_up (va_up v 1 a1) 2 a2) 3 a3 3 = a3 := rfl
      rw [e]
      by_cases c : v 3 < G * mo 3 + s
      · exact Or.inl (e3 (Or.inl (Or.inl (Or.inr c)))).symm
      · exact Or.inr ⟨by omega, by have := g3 (fun r => r.elim (fun q => q.elim (fun q => q.elim (fun q => absurd q (by omega)) c) (fun q => absurd q (by omega))) (fun q => absurd q (by omega))); omega⟩
/-- a closed zone has a point -/
theorem zq_pt {s1 s2 s3 : Int} (hC : zo_C z) (hU : zq_U z) (hL : ∀ j, j < 4 → z j ≤ 1) (hs : 0 < s3 ∧ 2 * s3 ≤ s2 ∧ 2 * s2 ≤ s1 ∧ 2 * s1 ≤ s ∧ s ≤ G) : ∃ v, v 0 = 0 ∧ zq_in G s3 zq_all v z := by
  have k0 : zq_in G s (fun i => i = 0) (fun _ => 0) z := fun i j hi hj a b => by
    subst a b
    have := hC.1 0 (by omega)
    rw [this]
    intro _
    exact ⟨fun _ => by rw [show (1 : Int) / 2 = 0 by decide, Int.mul_zero]; omega, fun r => absurd r (by decide)⟩
  have ne : ∀ x, x < 4 → ∀ S : Nat → Prop, S 0 → (∃ k, k < 4 ∧ S k ∧ z (4 * k + x) < 100000) ∨ ∃ y, y < 4 ∧ False := fun x hx S h => Or.inl ⟨0, by omega, h, by have := hL x hx; rw [Nat.mul_zero, Nat.zero_add]; omega⟩
  obtain ⟨a1, h1, _⟩ := zq_ext (s' := s1) (Q := fun _ => False) (ep := fun _ => 0) hC hU (by omega) k0 (show 1 < 4 by omega) (ne 1 (by omega) _ rfl) (fun y _ q => q.elim)
  have k1 := zq_add (k0.weak (show s1 ≤ s by omega)) (fun q => absurd q (by omega)) (hC.1 1 (by omega)) (by omega) h1
  obtain ⟨a2, h2, _⟩ := zq_ext (s' := s2) (Q := fun _ => False) (ep := fun _ => 0) hC hU (by omega) k1 (show 2 < 4 by omega) (ne 2 (by omega) _ (Or.inl rfl)) (fun y _ q => q.elim)
  have k2 := zq_add (k1.weak (show s2 ≤ s1 by omega)) (fun q => absurd q (by omega)) (hC.1 2 (by omega)) (by omega) h2
  obtain ⟨a3, h3, _⟩ := zq_ext (s' := s3) (Q := fun _ => False) (ep := fun _ => 0) hC hU (by omega) k2 (show 3 < 4 by omega) (ne 3 (by omega) _ (Or.inl (Or.inl rfl))) (fun y _ q => q.elim)
  have k3 := zq_add (k2.weak (show s3 ≤ s2 by omega)) (fun q => absurd q (by omega)) (hC.1 3 (by omega)) (by omega) h3
  refine ⟨_, ?_, k3.sub (fun i hi _ => ?_)⟩
  · rfl
  · rcases (show i = 0 ∨ i = 1 ∨ i = 2 ∨ i = 3 by omega) with rfl | rfl | rfl | rfl
    · exact Or.inl (Or.inl (Or.inl rfl))
    · exact Or.inl (Or.inl (Or.inr rfl))
    · exact Or.inl (Or.inr rfl)
    · exact Or.inr rfl
end ZQW
