/-! where in the order of moves a pair of edges stands -/
def zo_pos (mc : Int) (mf ms : Nat → Int) (k e f : Int) : Prop := (0 ≤ k ∧ k ≤ mc) ∧ (∀ t : Int, 0 ≤ t → t < k → z_lx (mf t.toNat) (ms t.toNat) e f) ∧ ∀ t : Int, k ≤ t → t < mc → ¬ z_lx (mf t.toNat) (ms t.toNat) e f
section ZPOS
variable {n mc k e f : Int} {mf ms em ec : Nat → Int}
theorem zo_pos.ini (h : z_ml n mc mf ms em ec) (hc : 0 ≤ mc) : zo_pos mc mf ms 0 0 (-1) := by
  refine ⟨by omega, fun t h0 h1 => absurd h1 (by omega), fun t h0 h1 => ?_⟩
  have := ((h.2 (mf t.toNat) (ms t.toNat)).mp ⟨t, h0, h1, rfl, rfl⟩).1
  omega
theorem zo_pos.no (h : z_ml n mc mf ms em ec) (p : zo_pos mc mf ms k e f) (hn : ¬ z_isM e f em ec) : zo_pos mc mf ms k e (f + 1) := by
  refine ⟨p.1, fun t h0 h1 => ?_, fun t h0 h1 q => ?_⟩
  · have := p.2.1 t h0 h1
    omega
  · have a := p.2.2 t h0 h1
    have b := ((h.2 (mf t.toNat) (ms t.toNat)).mp ⟨t, by have := p.1; omega, h1, rfl, rfl⟩).2
    have e1 : mf t.toNat = e := by omega
    have e2 : ms t.toNat = f := by omega
    rw [e1, e2] at b
    exact hn b
theorem zo_pos.yes (h : z_ml n mc mf ms em ec) (p : zo_pos mc mf ms k e f) (hr : 0 ≤ e ∧ e < n ∧ -1 ≤ f ∧ f < n) (hm : z_isM e f em ec) : k < mc ∧ mf k.toNat = e ∧ ms k.toNat = f ∧ zo_pos mc mf ms (k + 1) e (f + 1) := by
  obtain ⟨t, t0, t1, e1, e2⟩ := (h.2 e f).mpr ⟨hr, hm⟩
  have htk : ¬ t < k := fun q => by
    have := p.2.1 t t0 q
    omega
  have hkt : k = t := by
    by_cases q : k < t
    · have a := h.1 k t p.1.1 q t1
      have b := p.2.2 k (by omega) (by omega)
      omega
    · omega
  subst hkt
  refine ⟨t1, e1, e2, by omega, fun s s0 s1 => ?_, fun s s0 s1 q => ?_⟩
  · by_cases c : s = k
    · subst c
      omega
    · have := p.2.1 s s0 (by omega)
      omega
  · have a := h.1 k s t0 (by omega) s1
    omega
theorem zo_pos.row (h : z_ml n mc mf ms em ec) (p : zo_pos mc mf ms k e f) (hf : n ≤ f) : zo_pos mc mf ms k (e + 1) (-1) := by
  refine ⟨p.1, fun t h0 h1 => ?_, fun t h0 h1 q => ?_⟩
  · have := p.2.1 t h0 h1
    omega
  · have a := p.2.2 t h0 h1
    have b := ((h.2 (mf t.toNat) (ms t.toNat)).mp ⟨t, by have := p.1; omega, h1, rfl, rfl⟩).1
    omega
theorem zo_pos.fin (h : z_ml n mc mf ms em ec) (p : zo_pos mc mf ms k e f) (he : n ≤ e) : zo_mv mc mf ms k = [] := by
  refine zo_mv_nil ?_
  by_cases q : k < mc
  · have a := p.2.2 k (by omega) q
    have b := ((h.2 (mf k.toNat) (ms k.toNat)).mp ⟨k, p.1.1, q, rfl, rfl⟩).1
    omega
  · omega
end ZPOS
/-- the first state -/
noncomputable def zo_ini (ln lt mo : Nat → Int) : Option (Nat → Int) := @dite _ (∃ c, zo_settle ln lt (fun _ => 0) mo (fun _ => 1) c) (Classical.propDecidable _) (fun h => some (zo_n16 (Classical.choose h))) (fun _ => none)
noncomputable def zo_L0 (ln lt mo : Nat → Int) : List zo_S := match zo_ini ln lt mo with
  | none => []
  | some z => [(zo_n3 (fun _ => 0), z, -1, -1, -1, 0)]
section ZINI
variable {ln lt mo at0 z c n5 : Nat → Int}
theorem zo_L0_some (ha : ∀ m, m < 3 → at0 m = 0) (hz : ∀ k, k < 16 → z k = 1) (g5 : zo_GC (fun w => zo_le w z ∧ zo_sl ln lt at0 w) n5) (h : zo_later ln lt at0 mo n5 c) : zo_L0 ln lt mo = [(zo_n3 at0, zo_n16 c, -1, -1, -1, 0)] := by
  have s0 : zo_settle ln lt at0 mo z c := ⟨n5, g5, h⟩
  have s1 : ∃ c, zo_settle ln lt (fun _ => 0) mo (fun _ => 1) c := by
    obtain ⟨d3, g3, g4⟩ := h
    exact ⟨c, n5, g5.iff (fun w _ => by rw [zo_le_pt hz w, zo_sl_pt ha w]), d3, g3.iff (fun w _ => by rw [zo_sl_pt ha w]), g4⟩
  have e := (Classical.choose_spec s1).fn s0 (fun k hk => (hz k hk).symm) (fun m hm => (ha m hm).symm)
  unfold zo_L0 zo_ini
  rw [dif_pos s1]
  simp only []
  rw [zo_n16_eq e, zo_n3_eq (fun m hm => (ha m hm).symm)]
theorem zo_L0_no1 (ha : ∀ m, m < 3 → at0 m = 0) (hz : ∀ k, k < 16 → z k = 1) (h : zo_none (fun w => zo_le w z ∧ zo_sl ln lt at0 w)) : zo_L0 ln lt mo = [] := by
  unfold zo_L0 zo_ini
  rw [dif_neg]
  rintro ⟨c, d, g, _⟩
  exact h d g.1 ⟨(zo_le_pt hz d).mpr g.2.1.1, (zo_sl_pt ha d).mpr g.2.1.2⟩
theorem zo_L0_no2 (ha : ∀ m, m < 3 → at0 m = 0) (hz : ∀ k, k < 16 → z k = 1) (g5 : zo_GC (fun w => zo_le w z ∧ zo_sl ln lt at0 w) n5) (h : ∀ c', ¬ zo_later ln lt at0 mo n5 c') : zo_L0 ln lt mo = [] := by
  unfold zo_L0 zo_ini
  rw [dif_neg]
  rintro ⟨c, d, g, ⟨d3, g3, g4⟩⟩
  have e4 := (g.iff (K' := fun w => zo_le w z ∧ zo_sl ln lt at0 w) (fun w _ => by rw [← zo_le_pt hz w, ← zo_sl_pt ha w])).uniq g5
  exact h c ⟨d3, g3.iff (fun w _ => by rw [zo_le_pt (zo_tm_pt e4) w, zo_sl_pt (fun m hm => (ha m hm).symm) w]), g4⟩
end ZINI
