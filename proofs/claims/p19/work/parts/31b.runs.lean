/-! the run on both sides -/
def z_RR (r : Int) (pl am at0 cl : Nat → Int) (t t' k k' : Int) : Prop := r = 1 → (∀ j, j < 3 → pl j = at0 j) ∧ (∀ j, j < 4 → am j = cl j) ∧ t = t' ∧ k = k'
section ZRR
variable {r n a b t t' k k' t1 t2 k1 k2 e f : Int} {pl am at0 cl pl' am' at1 cl' ln lt em ef et er gn gt : Nat → Int} {M M' : Prop}
theorem z_RR.none : z_RR 0 pl am at0 cl t t' k k' := fun h => absurd h (by decide)
theorem z_RR.sel {c : Prop} [Decidable c] (h : z_RR r pl am at0 cl t t' k k') : z_RR (z_sel c 0 r) pl am at0 cl t t' k k' := by
  intro h1
  unfold z_sel at h1
  split at h1
  · omega
  · exact h h1
theorem z_psR.law {F G P Q : Prop} (h : z_psR n r a F P) (h' : z_psR n r b G Q) (hr : r = 0 ∨ r = 1) (e : r = 1 → (F ↔ G) ∧ (P ↔ Q)) : a = b := by
  rcases hr with hr | hr
  · unfold z_psR at h h'
    rcases h with ⟨x, rfl⟩ | ⟨x, y, rfl⟩ | ⟨x, y, z, w, rfl⟩ | ⟨x, y, z, w, rfl⟩ <;> rcases h' with ⟨x', rfl⟩ | ⟨x', y', rfl⟩ | ⟨x', y', z', w', rfl⟩ | ⟨x', y', z', w', rfl⟩ <;> first | rfl | exact absurd x' x | exact absurd x x' | omega
  · exact h.eq h' (e hr).1 (e hr).2
theorem z_psR.one {F P : Prop} (h : z_psR n r a F P) (ha : a = 1) : r = 1 := by
  unfold z_psR at h
  rcases h with ⟨x, rfl⟩ | ⟨x, y, rfl⟩ | ⟨x, y, z, w, rfl⟩ | ⟨x, y, z, w, rfl⟩ <;> omega
theorem z_RR.pass (h : z_RR r pl am at0 cl t t' k k') (hr : r = 0 ∨ r = 1) (ha : ∀ j, 0 ≤ pl j ∧ pl j ≤ 5) (hT : z_ck 18 ln lt) (hc : z_psR n r a (z_far am n) (z_lim ln lt pl (z_sh am n)) ∧ (a = 1 → (∀ j : Nat, j < 4 → am' j = z_sh am n j) ∧ t1 = t + n) ∧ (a ≠ 1 → am' = am ∧ t1 = t)) (hm : z_psR n r b (z_far cl n) (z_lim ln lt at0 (z_sh cl n)) ∧ (b = 1 → (∀ j : Nat, j < 3 → at1 j = at0 j) ∧ (∀ j : Nat, j < 4 → cl' j = z_sh cl n j) ∧ t2 = t' + n) ∧ (b ≠ 1 → at1 = at0 ∧ cl' = cl ∧ t2 = t')) (z0 : am 0 = 0) : a = b ∧ z_RR r pl am' at1 cl' t1 t2 k k' ∧ am' 0 = 0 := by
  obtain ⟨c1, c2, c3⟩ := hc
  obtain ⟨m1, m2, m3⟩ := hm
  have hab : a = b := c1.law m1 hr (fun h1 => by
    obtain ⟨e1, e2, _⟩ := h h1
    exact ⟨z_far_pt e2, z_lim.iff hT (fun j _ => ha j) e1 (z_sh_pt e2)⟩)
  subst hab
  by_cases h1 : a = 1
  · obtain ⟨x1, x2⟩ := c2 h1
    obtain ⟨y1, y2, y3⟩ := m2 h1
    obtain ⟨e1, e2, e3, e4⟩ := h (c1.one h1)
    refine ⟨rfl, fun _ => ⟨fun j hj => (e1 j hj).trans (y1 j hj).symm, fun j hj => (x1 j hj).trans ((z_sh_pt e2 j hj).trans (y2 j hj).symm), by omega, e4⟩, ?_⟩
    rw [x1 0 (by omega)]
    exact z0
  · obtain ⟨x1, x2⟩ := c3 h1
    obtain ⟨y1, y2, y3⟩ := m3 h1
    subst x1 x2 y1 y2 y3
    exact ⟨rfl, h, z0⟩
theorem z_mvR.one {P Q : Prop} (h : z_mvR e f n r a M P Q) (ha : a = 1) : r = 1 := by
  unfold z_mvR at h
  rcases h with ⟨x, rfl⟩ | ⟨x, y, rfl⟩ | ⟨x, y, z, rfl⟩ | ⟨x, y, z, w, rfl⟩ | ⟨x, y, z, w, v, rfl⟩ <;> omega
theorem z_mvR.law {P Q P' Q' : Prop} (h : z_mvR e f n r a M P Q) (h' : z_mvR e f n r b M P' Q') (hr : r = 0 ∨ r = 1) (eO : r = 1 → 0 ≤ e ∧ e < n ∧ (f = -1 ∨ 0 ≤ f ∧ f < n) → (P ∧ Q ↔ P' ∧ Q')) : a = b := by
  rcases hr with hr | hr
  · unfold z_mvR at h h'
    rcases h with ⟨x, rfl⟩ | ⟨x, y, rfl⟩ | ⟨x, y, z, rfl⟩ | ⟨x, y, z, w, rfl⟩ | ⟨x, y, z, w, v, rfl⟩ <;> rcases h' with ⟨x', rfl⟩ | ⟨x', y', rfl⟩ | ⟨x', y', z', rfl⟩ | ⟨x', y', z', w', rfl⟩ | ⟨x', y', z', w', v', rfl⟩ <;> first | rfl | exact absurd x' x | exact absurd x x' | exact absurd y y' | exact absurd y' y | omega
  · exact h.eq h' Iff.rfl (eO hr)
theorem z_RR.move (h : z_RR r pl am at0 cl t t' k k') (hr : r = 0 ∨ r = 1) (ha : ∀ j, 0 ≤ pl j ∧ pl j ≤ 5) (hT : z_ck 18 ln lt) (hG : z_ck n gn gt) (hem : ∀ j, 0 ≤ em j ∧ em j ≤ 2) (het : ∀ j, 0 ≤ et j ∧ et j ≤ 5)
    (hc : z_mvR e f n r a M (z_op2 e f em ef gn gt pl am) (z_lim ln lt (z_goA pl em et e f) (z_goC am er e f)) ∧ (a = 1 → (∀ j : Nat, j < 3 → pl' j = z_goA pl em et e f j) ∧ (∀ j : Nat, j < 4 → am' j = z_goC am er e f j) ∧ k1 = k + 1) ∧ (a ≠ 1 → pl' = pl ∧ am' = am ∧ k1 = k))
    (hm : z_mvR e f n r b M (z_op2 e f em ef gn gt at0 cl) (z_lim ln lt (z_goA at0 em et e f) (z_goC cl er e f)) ∧ (b = 1 → (∀ j : Nat, j < 3 → at1 j = z_goA at0 em et e f j) ∧ (∀ j : Nat, j < 4 → cl' j = z_goC cl er e f j) ∧ k2 = k' + 1) ∧ (b ≠ 1 → at1 = at0 ∧ cl' = cl ∧ k2 = k')) (z0 : am 0 = 0) : a = b ∧ z_RR r pl' am' at1 cl' t t' k1 k2 ∧ am' 0 = 0 := by
  obtain ⟨c1, c2, c3⟩ := hc
  obtain ⟨m1, m2, m3⟩ := hm
  have hab : a = b := c1.law m1 hr (fun h1 hx => by
    obtain ⟨e1, e2, _⟩ := h h1
    have i1 := z_op2.iff (em := em) (ef := ef) ⟨hx.1, hx.2.1⟩ hx.2.2 (fun j _ _ => hem j.toNat) hG e1 e2
    have i2 := z_lim.iff hT (z_goA_rg (em := em) (e := e) (f := f) (fun j _ => ha j) het) (z_goA_pt e1) (z_goC_pt (er := er) (e := e) (f := f) e2)
    rw [i1, i2])
  subst hab
  by_cases h1 : a = 1
  · obtain ⟨x1, x2, x3⟩ := c2 h1
    obtain ⟨y1, y2, y3⟩ := m2 h1
    obtain ⟨e1, e2, e3, e4⟩ := h (c1.one h1)
    refine ⟨rfl, fun _ => ⟨fun j hj => (x1 j hj).trans ((z_goA_pt e1 j hj).trans (y1 j hj).symm), fun j hj => (x2 j hj).trans ((z_goC_pt e2 j hj).trans (y2 j hj).symm), e3, by omega⟩, ?_⟩
    rw [x2 0 (by omega)]
    unfold z_goC
    rw [if_neg (fun q => by omega)]
    exact z0
  · obtain ⟨x1, x2, x3⟩ := c3 h1
    obtain ⟨y1, y2, y3⟩ := m3 h1
    subst x1 x2 x3 y1 y2 y3
    exact ⟨rfl, h, z0⟩
theorem z_RR.run {w : Int} (h : z_RR r pl am at0 cl t t' k k') (hr : r = 0 ∨ r = 1) : z_runR w r pl am t k = z_runR w r at0 cl t' k' := by
  unfold z_runR
  split
  · rfl
  · obtain ⟨e1, e2, e3, e4⟩ := h (by omega)
    split
    · exact e1 _ (by omega)
    · split
      · exact e2 _ (by omega)
      · split
        · exact e3
        · split
          · exact e4
          · rfl
theorem z_gr.eq {x : Int} {P : Int → Prop} (h : (1 ≤ x ∧ x ≤ 3) ∧ z_isMax P a ∨ ¬ (1 ≤ x ∧ x ≤ 3) ∧ a = -101) (h' : (1 ≤ x ∧ x ≤ 3) ∧ z_isMax P b ∨ ¬ (1 ≤ x ∧ x ≤ 3) ∧ b = -101) : a = b := by
  rcases h with ⟨q, h⟩ | ⟨q, h⟩ <;> rcases h' with ⟨q', h'⟩ | ⟨q', h'⟩
  · exact h.uniq h'
  · exact absurd q q'
  · exact absurd q' q
  · omega
end ZRR
