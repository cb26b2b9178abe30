theorem z_known {s : State} {args : Array Value} (hts : ∀ w ∈ lw_tbl, w.before args s = true) : ∃ (D : va_G) (ks : z_Ks), va_K D z_cl (z_tys ks) s ∧ z_X s := by
  obtain ⟨c0, i0, h0⟩ := u_known (C := RX0) (T := TX0) (N := 6) (n := 6) hts z_in0 (hts (.instantiable RX0 6) (by decide +kernel))
  obtain ⟨c1, i1, h1⟩ := u_known (C := RX1) (T := TX1) (N := 5) (n := 5) hts z_in1 (hts (.instantiable RX1 5) (by decide +kernel))
  obtain ⟨c2, i2, h2⟩ := u_known (C := RX2) (T := TX2) (N := 5) (n := 5) hts z_in2 (hts (.instantiable RX2 5) (by decide +kernel))
  obtain ⟨c3, i3, h3⟩ := u_known (C := RX3) (T := TX3) (N := 6) (n := 6) hts z_in3 (hts (.instantiable RX3 6) (by decide +kernel))
  obtain ⟨c4, i4, h4⟩ := u_known (C := RX4) (T := TX4) (N := 3) (n := 3) hts z_in4 (hts (.instantiable RX4 3) (by decide +kernel))
  obtain ⟨c5, i5, h5⟩ := u_known (C := RX5) (T := TX5) (N := 3) (n := 3) hts z_in5 (hts (.instantiable RX5 3) (by decide +kernel))
  obtain ⟨c6, i6, h6⟩ := u_known (C := RX6) (T := TX6) (N := 2) (n := 2) hts z_in6 (hts (.instantiable RX6 2) (by decide +kernel))
  obtain ⟨c7, i7, h7⟩ := u_known (C := RX7) (T := TX7) (N := 7) (n := 7) hts z_in7 (hts (.instantiable RX7 7) (by decide +kernel))
  obtain ⟨c8, i8, h8⟩ := u_known (C := RX8) (T := TX8) (N := 7) (n := 7) hts z_in8 (hts (.instantiable RX8 7) (by decide +kernel))
  obtain ⟨c9, i9, h9⟩ := u_known (C := RX9) (T := TX9) (N := 1) (n := 1) hts z_in9 (hts (.instantiable RX9 1) (by decide +kernel))
  obtain ⟨c10, i10, h10⟩ := u_known (C := RX10) (T := TX10) (N := 6) (n := 6) hts z_in10 (hts (.instantiable RX10 6) (by decide +kernel))
  obtain ⟨c11, i11, h11⟩ := u_known (C := RX11) (T := TX11) (N := 32) (n := 32) hts z_in11 (hts (.instantiable RX11 32) (by decide +kernel))
  obtain ⟨a0, k0, p0, f0, g0, d0⟩ := Cond.arrayClass_spec (hts (.arrayClass .int) (by decide +kernel))
  obtain ⟨p1, a1, k1, f1, x1, g1, d1, n1⟩ := Cond.arrayOver_spec (hts (.arrayOver (.object RX0)) (by decide +kernel))
  obtain ⟨p2, a2, k2, f2, x2, g2, d2, n2⟩ := Cond.arrayOver_spec (hts (.arrayOver (.object RX1)) (by decide +kernel))
  obtain ⟨p3, a3, k3, f3, x3, g3, d3, n3⟩ := Cond.arrayOver_spec (hts (.arrayOver (.object RX6)) (by decide +kernel))
  obtain ⟨p4, a4, k4, f4, x4, g4, d4, n4⟩ := Cond.arrayOver_spec (hts (.arrayOver (.object RX5)) (by decide +kernel))
  refine ⟨(fun k => match k with | 0 => c0 | 1 => c1 | 2 => c2 | 3 => c3 | 4 => c4 | 5 => c5 | 6 => c6 | 7 => c7 | 8 => c8 | 9 => c9 | 10 => c10 | _ => c11, fun k => match k with | 0 => i0 | 1 => i1 | 2 => i2 | 3 => i3 | 4 => i4 | 5 => i5 | 6 => i6 | 7 => i7 | 8 => i8 | 9 => i9 | 10 => i10 | _ => i11), (a0, a1, a2, a3, a4), ⟨?_, ?_⟩, ?_⟩
  · intro k q hq
    match k, hq with
    | 0, hq => cases hq; exact h0
    | 1, hq => cases hq; exact h1
    | 2, hq => cases hq; exact h2
    | 3, hq => cases hq; exact h3
    | 4, hq => cases hq; exact h4
    | 5, hq => cases hq; exact h5
    | 6, hq => cases hq; exact h6
    | 7, hq => cases hq; exact h7
    | 8, hq => cases hq; exact h8
    | 9, hq => cases hq; exact h9
    | 10, hq => cases hq; exact h10
    | 11, hq => cases hq; exact h11
    | k + 12, hq => simp at hq
  · intro k q hq
    match k, hq with
    | 0, hq => cases hq; exact ⟨fun N z => ⟨(fun k h => by cases h), k0, g0, p0, d0⟩, f0⟩
    | 1, hq => cases hq; exact ⟨fun N z => ⟨(fun k h => by cases h), k1, g1, p1, d1⟩, k1, p1, g1, d1, f1, n1⟩
    | 2, hq => cases hq; exact ⟨fun N z => ⟨(fun k h => by cases h), k2, g2, p2, d2⟩, k2, p2, g2, d2, f2, n2⟩
    | 3, hq => cases hq; exact ⟨fun N z => ⟨(fun k h => by cases h), k3, g3, p3, d3⟩, k3, p3, g3, d3, f3, n3⟩
    | 4, hq => cases hq; exact ⟨fun N z => ⟨(fun k h => by cases h), k4, g4, p4, d4⟩, k4, p4, g4, d4, f4, n4⟩
    | k + 5, hq => simp at hq
  · exact ⟨⟨va_AO.of (hts (.arrayOver (.object RX0)) (by decide +kernel)), va_AO.of (hts (.arrayOver (.object RX1)) (by decide +kernel)), va_AO.of (hts (.arrayOver (.object RX6)) (by decide +kernel)), va_AO.of (hts (.arrayOver (.object RX5)) (by decide +kernel))⟩, va_Nw.of rfl (hts (.methodLinkNest RX2 29 yX6_init "ClockZones") (by decide +kernel)), va_Nw.of rfl (hts (.methodLinkNest RX10 18 yX3_init "ClockZones") (by decide +kernel)), va_Nw.of rfl (hts (.methodLinkNest RX3 11 yX4_init "ClockZones") (by decide +kernel)), va_Nw.of rfl (hts (.methodLinkNest RX3 28 yX9_init "ClockZones") (by decide +kernel)), va_Nw.of rfl (hts (.methodLinkNest RX10 25 yX8_init "ClockZones") (by decide +kernel)), va_Nw.of rfl (hts (.methodLinkNest RX10 32 yX7_init "ClockZones") (by decide +kernel)), va_Nw.of rfl (hts (.methodLinkNest RX0 9 yX6_init "ClockZones") (by decide +kernel))⟩
/-- the cells that have no number -/
noncomputable def z_rest (n : Nat) (ad : Nat → Nat) (Y : Nat → Option va_E) : Nat → Option va_E := fun q => @ite _ (∃ k, k < n ∧ ad k = q) (Classical.propDecidable _) none (Y q)
theorem z_rest_of {n : Nat} {ad : Nat → Nat} {Y : Nat → Option va_E} {q : Nat} {x : va_E} (h : z_rest n ad Y q = some x) : Y q = some x ∧ ∀ k, k < n → ad k ≠ q := by
  unfold z_rest at h
  by_cases hk : ∃ k, k < n ∧ ad k = q
  · rw [if_pos hk] at h
    cases h
  · rw [if_neg hk] at h
    exact ⟨h, fun k h1 h2 => hk ⟨k, h1, h2⟩⟩
theorem z_rest_to {n : Nat} {ad : Nat → Nat} {Y : Nat → Option va_E} {q : Nat} {x : va_E} (h : Y q = some x) (hk : ¬ ∃ k, k < n ∧ ad k = q) : z_rest n ad Y q = some x := by
  unfold z_rest
  rw [if_neg hk]
  exact h
def z_okc (x : va_E) : Bool := match x with
  | .inr o => o.1 != 0 && o.1 != 1 && o.1 != 5 && o.1 != 6
  | .inl a => a.2.1 != 2
theorem z_yl_rest {ks : z_Ks} {n : Nat} {ad : Nat → Nat} {Y : Nat → Option va_E} {S : Nat → va_E} (h : ∀ k, k < n → Y (ad k) = some (S k)) (ho : ∀ k, k < n → z_okc (S k) = true) : z_yl ks Y (z_rest n ad Y) := by
  refine z_yl_keep (fun x => ∃ k, k < n ∧ ad k = x) (fun x y hx hn => z_rest_to hx hn) ?_ ?_ ?_ ?_ ?_
  · rintro x c1 s n ⟨k, hk, rfl⟩ hx
    have e := Option.some.inj ((h k hk).symm.trans hx)
    have o := ho k hk
    rw [e] at o
    cases o
  · rintro x t n ⟨k, hk, rfl⟩ hx
    have e := Option.some.inj ((h k hk).symm.trans hx)
    have o := ho k hk
    rw [e] at o
    cases o
  · rintro x g ⟨k, hk, rfl⟩ hx
    have e := Option.some.inj ((h k hk).symm.trans hx)
    have o := ho k hk
    rw [e] at o
    cases o
  · rintro x m f t k2 r g ⟨k, hk, rfl⟩ hx
    have e := Option.some.inj ((h k hk).symm.trans hx)
    have o := ho k hk
    rw [e] at o
    cases o
  · rintro x f s a b r ⟨k, hk, rfl⟩ hx
    have e := Option.some.inj ((h k hk).symm.trans hx)
    have o := ho k hk
    rw [e] at o
    cases o
theorem z_inj (f : Nat → Nat) (n : Nat) (h : ∀ i, i + 1 < n → f i < f (i + 1)) : ∀ i j, i < n → j < n → f i = f j → i = j := by
  have key : ∀ d i, i + d + 1 < n → f i < f (i + d + 1) := by
    intro d
    induction d with
    | zero => intro i hi; exact h i hi
    | succ d ih => intro i hi; exact Nat.lt_trans (ih i (by omega)) (h (i + d + 1) (by omega))
  intro i j hi hj hij
  rcases Nat.lt_trichotomy i j with q | q | q
  · have := key (j - i - 1) i (by omega)
    rw [show i + (j - i - 1) + 1 = j by omega] at this
    omega
  · exact q
  · have := key (i - j - 1) j (by omega)
    rw [show j + (i - j - 1) + 1 = i by omega] at this
    omega
theorem z_into {p : Program} {l : Launch} {e : Env} {R : Room} {s : State} {m : MethodId} {args : Array Value} {below : List Frame} {meth : Method} {c : Code} {Q : State → Prop} {D : va_G} {A : Nat → Prop} {n nL : Nat} {ad0 ad : Nat → Nat} {S0 S : Nat → va_E} {Y : Nat → Option va_E} {cells slots pc : Nat} {L : List (Nat × Value)} {st : List Value} (h : ∀ k, k < n → Y (ad k) = some (S k)) (hi : ∀ i j, i < n → j < n → ad i = ad j → i = j) (kk : z_V p l e R s m args below meth c Q D A n ad nL S (z_rest n ad Y) cells slots pc L st) : z_V p l e R s m args below meth c Q D A 0 ad0 nL S0 Y cells slots pc L st := by
  intro H locs ls hR hS hl
  exact kk H locs ls ⟨fun k hk => ⟨(hR.2.2 _ _ (h k hk)).1, (hR.2.2 _ _ (h k hk)).2.2⟩, hi, fun q x hq => ⟨(hR.2.2 _ _ (z_rest_of hq).1).1, (z_rest_of hq).2, (hR.2.2 _ _ (z_rest_of hq).1).2.2⟩⟩ hS hl
