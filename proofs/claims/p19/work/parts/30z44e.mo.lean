/-! the greatest numbers are there; two sides' states are one where their lists are (draft) -/
theorem z_max_ex {P : Int → Prop} : ∀ n : Nat, (∀ v, P v → v ≤ n) → ∃ z, z_isMax P z ∧ z ≤ n := by
  intro n
  induction n with
  | zero => exact fun h => ⟨0, ⟨Int.le_refl _, h, Or.inl rfl⟩, Int.le_refl _⟩
  | succ n ih =>
    intro h
    by_cases q : P ((n + 1 : Nat) : Int)
    · exact ⟨_, ⟨by omega, h, Or.inr q⟩, Int.le_refl _⟩
    · obtain ⟨z, h1, h2⟩ := ih (fun v hv => by
        have a := h v hv
        have b : v ≠ ((n + 1 : Nat) : Int) := fun e => q (e ▸ hv)
        omega)
      exact ⟨z, h1, by omega⟩
theorem z_ge_le {n x v : Int} {gn gt : Nat → Int} (hr : ∀ e : Int, 0 ≤ e → e < n → zo_tr (gn e.toNat) gt (6 * e)) (h : z_ge n gn gt x v) : v ≤ 1000 := by
  obtain ⟨e, e0, e1, j, j0, j1, _, h2⟩ := h
  have q := (hr e e0 e1 j j0 j1).2.2.2
  rw [h2] at q
  exact q
theorem z_mo_ex {n : Int} {gn gt ln lt : Nat → Int} (hg : ∀ e : Int, 0 ≤ e → e < n → zo_tr (gn e.toNat) gt (6 * e)) (hl : ∀ k : Int, 0 ≤ k → k < 18 → zo_tr (ln k.toNat) lt (6 * k)) : ∃ mo : Nat → Int, (∀ x : Int, 1 ≤ x → x ≤ 3 → z_gr x n gn gt ln lt (mo x.toNat)) ∧ ∀ x, 1 ≤ x → x < 4 → 0 ≤ mo x ∧ mo x ≤ 1000 := by
  have k : ∀ x : Nat, ∃ z, z_gr x n gn gt ln lt z ∧ z ≤ 1000 := fun x => z_max_ex 1000 (fun v hv => hv.elim (z_ge_le hg) (z_ge_le hl))
  refine ⟨fun x => Classical.choose (k x), fun x h0 h1 => ?_, fun x _ _ => ⟨(Classical.choose_spec (k x)).1.1, (Classical.choose_spec (k x)).2⟩⟩
  have q : ∀ y : Int, y = ((x.toNat : Nat) : Int) → z_gr y n gn gt ln lt (Classical.choose (k x.toNat)) := fun y hy => by
    subst hy
    exact (Classical.choose_spec (k x.toNat)).1
  exact q x (by omega)
/-- the states of the two sides are one -/
def zo_SR (N : Int) (sf sb pl zn pa me mf mv : Nat → Int) : Prop := ∀ i : Nat, (i : Int) < N → (∀ m, m < 3 → sf (7 * i + m) = pl (3 * i + m)) ∧ (∀ k, k < 16 → sb (16 * i + k) = zn (16 * i + k)) ∧ sf (7 * i + 3) = pa i ∧ sf (7 * i + 4) = me i ∧ sf (7 * i + 5) = mf i ∧ sf (7 * i + 6) = mv i
theorem zo_SR_of {N N' : Int} {sf sb pl zn pa me mf mv : Nat → Int} (h0 : 0 ≤ N) (h1 : 0 ≤ N') (e : zo_ab N (zo_sC sf sb) = zo_ab N' (zo_sM pl zn pa me mf mv)) : N = N' ∧ zo_SR N sf sb pl zn pa me mf mv := by
  have l : N = N' := by rw [← zo_ab_len (st := zo_sC sf sb) h0, e, zo_ab_len h1]
  refine ⟨l, fun i hi => ?_⟩
  have q : some (zo_sC sf sb i) = some (zo_sM pl zn pa me mf mv i) := by rw [← zo_ab_at hi, e, zo_ab_at (by omega)]
  have q2 := Option.some.inj q
  have a1 := congrArg (fun s : zo_S => s.1) q2
  have a2 := congrArg (fun s : zo_S => s.2.1) q2
  refine ⟨fun m hm => ?_, fun k hk => ?_, congrArg (fun s : zo_S => s.2.2.1) q2, congrArg (fun s : zo_S => s.2.2.2.1) q2, congrArg (fun s : zo_S => s.2.2.2.2.1) q2, congrArg (fun s : zo_S => s.2.2.2.2.2) q2⟩
  · have b := congrFun a1 m
    simp only [zo_sC, zo_sM] at b
    rw [zo_n3_at hm, zo_n3_at hm] at b
    exact b
  · have b := congrFun a2 k
    simp only [zo_sC, zo_sM] at b
    rw [zo_n16_at hk, zo_n16_at hk] at b
    exact b
theorem zo_SR0 {sf sb pl zn pa me mf mv : Nat → Int} : zo_SR 0 sf sb pl zn pa me mf mv := fun i hi => absurd hi (by omega)
/-- explore answers alike and leaves the same states -/
theorem zo_ex_eq {R : List zo_S × Bool} {a b z z' n : Int} {la lb : List zo_S} (h : (R = (la, false) ∧ z = a) ∨ (R = (la, true) ∧ z = -1 - n)) (h' : (R = (lb, false) ∧ z' = b) ∨ (R = (lb, true) ∧ z' = -1 - n)) (hl : la = lb → a = b) : z = z' ∧ la = lb := by
  rcases h with ⟨h1, h2⟩ | ⟨h1, h2⟩ <;> rcases h' with ⟨k1, k2⟩ | ⟨k1, k2⟩
  · have e := (Prod.mk.inj (h1.symm.trans k1)).1
    exact ⟨by rw [h2, k2, hl e], e⟩
  · exact absurd (Prod.mk.inj (h1.symm.trans k1)).2 (by decide)
  · exact absurd (Prod.mk.inj (h1.symm.trans k1)).2 (by decide)
  · exact ⟨by rw [h2, k2], (Prod.mk.inj (h1.symm.trans k1)).1⟩
