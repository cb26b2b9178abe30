/-! tests and limits at a point; runs along a way -/
def zr_t (G s d k m : Int) : Prop := (k ≤ 2 → d ≤ G * m ∧ (k = 0 → d + s ≤ G * m)) ∧ (2 ≤ k → G * m ≤ d ∧ (k = 4 → G * m + s ≤ d))
def zr_ts (G s n : Int) (T : Nat → Int) (o : Int) (u : Nat → Int) : Prop := ∀ j : Int, 0 ≤ j → j < n → zr_t G s (u (T (o + 3 * j).toNat).toNat) (T (o + 3 * j + 1).toNat) (T (o + 3 * j + 2).toNat)
def zr_li (G s : Int) (ln lt at0 u : Nat → Int) : Prop := ∀ m : Int, 0 ≤ m → m < 3 → zr_ts G s (ln (6 * m + at0 m.toNat).toNat) lt (6 * (6 * m + at0 m.toNat)) u
def zr_gu (G s : Int) (gn gt : Nat → Int) (e f : Int) (u : Nat → Int) : Prop := zr_ts G s (gn e.toNat) gt (6 * e) u ∧ (f ≠ -1 → zr_ts G s (gn f.toNat) gt (6 * f) u)
section ZRT
variable {G s s' : Int} {z v w u u' mo T : Nat → Int} {n o : Int}
theorem zr_t.of {c k m : Int} (h : zo_ts c k m w) (hv : zq_in G s zq_all v w) (h0 : v 0 = 0) (hs : 0 ≤ s ∧ s ≤ G) (hc : 1 ≤ c ∧ c ≤ 3) (hk : 0 ≤ k ∧ k ≤ 4) (hm : 0 ≤ m ∧ m ≤ 1000) : zr_t G s (v c.toNat) k m := by
  constructor
  · intro q
    have a := h.1 q
    have b := hv c.toNat 0 (by omega) (by omega) trivial trivial
    rw [Nat.add_zero, h0, Int.sub_zero] at b
    by_cases e : k = 0
    · rw [if_pos e] at a
      have r := (b.up a hs (by omega)).2 (by omega)
      rw [show (2 * m + 0) / 2 = m by omega] at r
      exact ⟨by omega, fun _ => r⟩
    · rw [if_neg e] at a
      have r := (b.up a hs (by omega)).1 (by omega)
      rw [show (2 * m + 1) / 2 = m by omega] at r
      exact ⟨r, fun q => absurd q e⟩
  · intro q
    have a := h.2 q
    have b := hv 0 c.toNat (by omega) (by omega) trivial trivial
    rw [Nat.mul_zero, Nat.zero_add, h0] at b
    by_cases e : k = 4
    · rw [if_pos e] at a
      have r := (b.up a hs (by omega)).2 (by omega)
      rw [show (-2 * m + 0) / 2 = -m by omega, Int.mul_neg] at r
      exact ⟨by omega, fun _ => by omega⟩
    · rw [if_neg e] at a
      have r := (b.up a hs (by omega)).1 (by omega)
      rw [show (-2 * m + 1) / 2 = -m by omega, Int.mul_neg] at r
      exact ⟨by omega, fun q => absurd q e⟩
theorem zr_ts.of (h : zo_sat n T o w) (hr : zo_tr n T o) (hv : zq_in G s zq_all v w) (h0 : v 0 = 0) (hs : 0 ≤ s ∧ s ≤ G) : zr_ts G s n T o v := fun j j0 j1 => by
  have r := hr j j0 j1
  exact zr_t.of (h j j0 j1) hv h0 hs r.1 r.2.1 r.2.2
/-- the numbers of tests are not beyond the greatest ones -/
def zr_M (mo : Nat → Int) (n : Int) (T : Nat → Int) (o : Int) : Prop := ∀ j : Int, 0 ≤ j → j < n → T (o + 3 * j + 2).toNat ≤ mo (T (o + 3 * j).toNat).toNat
theorem zr_ts.sim (h : zr_ts G s n T o v) (hr : zo_tr n T o) (hM : zr_M mo n T o) (hs : 1 ≤ s ∧ s ≤ G) (e : zq_sim G mo v u) : zr_ts G 1 n T o u := fun j j0 j1 => by
  have r := hr j j0 j1
  have q := h j j0 j1
  have k := zq_mul (G := G) (by omega) (hM j j0 j1)
  rcases e (T (o + 3 * j).toNat).toNat (by omega) (by omega) with c | c
  · rw [← c]
    exact ⟨fun a => ⟨(q.1 a).1, fun b => by have := (q.1 a).2 b; omega⟩, fun a => ⟨(q.2 a).1, fun b => by have := (q.2 a).2 b; omega⟩⟩
  · exact ⟨fun a => by have := (q.1 a).1; omega, fun a => ⟨by omega, fun _ => by omega⟩⟩
theorem zr_ts.congr (h : zr_ts G s n T o u) (hr : zo_tr n T o) (e : ∀ x, 1 ≤ x → x < 4 → u x = u' x) : zr_ts G s n T o u' := fun j j0 j1 => by
  have r := hr j j0 j1
  have q := h j j0 j1
  rw [e _ (by omega) (by omega)] at q
  exact q
theorem zr_ts.weak (h : zr_ts G s n T o u) (hs : s' ≤ s) : zr_ts G s' n T o u := fun j j0 j1 => by
  have q := h j j0 j1
  exact ⟨fun a => ⟨(q.1 a).1, fun b => by have := (q.1 a).2 b; omega⟩, fun a => ⟨(q.2 a).1, fun b => by have := (q.2 a).2 b; omega⟩⟩
theorem zq_sim.tr {a b c : Nat → Int} (h : zq_sim G mo a b) (h' : zq_sim G mo b c) : zq_sim G mo a c := fun x h1 h4 => by
  rcases h x h1 h4 with p | p <;> rcases h' x h1 h4 with q | q
  · exact Or.inl (p.trans q)
  · exact Or.inr ⟨by omega, q.2⟩
  · exact Or.inr ⟨p.1, by omega⟩
  · exact Or.inr ⟨p.1, q.2⟩
end ZRT
/-! the last time at which a clock was set; what a way asks of its times -/
def zr_ls (er E F : Nat → Int) (x : Nat) : Nat → Nat
  | 0 => 0
  | k + 1 => if z_btv (z_or er (E (k + 1)) (F (k + 1))) x ≠ 0 then k + 1 else zr_ls er E F x k
theorem zr_ls_le (er E F : Nat → Int) (x k : Nat) : zr_ls er E F x k ≤ k := by
  induction k with
  | zero => exact Nat.le_refl _
  | succ k ih =>
    unfold zr_ls
    split
    · exact Nat.le_refl _
    · exact Nat.le_succ_of_le ih
def zr_u (er E F t : Nat → Int) (k j : Nat) : Nat → Int := fun x => t j - t (zr_ls er E F x k)
def zr_F (G s : Int) (er gn gt ln lt E F : Nat → Int) (A : Nat → Nat → Int) (n : Nat) (t : Nat → Int) : Prop := ∀ j, j < n → t j ≤ t (j + 1) ∧ zr_gu G s gn gt (E (j + 1)) (F (j + 1)) (zr_u er E F t j (j + 1)) ∧ zr_li G s ln lt (A j) (zr_u er E F t j (j + 1)) ∧ zr_li G s ln lt (A (j + 1)) (zr_u er E F t (j + 1) (j + 1))
section ZRZ
variable {U V L G s : Int} {z c d n5 ln lt at0 T : Nat → Int} {n o : Int}
theorem zq_U.of (h : zo_Z U V L z) (hUV : U ≤ V) (hV : V ≤ 45000) : zq_U z := fun k hk q => Int.le_trans (h.up hUV k hk q) hV
theorem zr_GZ (hZ : zo_Z U V L z) (hr : zo_tr n T o) (hn : 0 ≤ n) (g : zo_GC (fun w => zo_le w z ∧ zo_sat n T o w) c) (hV : U + 2002 ≤ V) (hV2 : V ≤ 45000) : ∃ L', zo_Z U V L' c := by
  have e : ((n.toNat : Nat) : Int) = n := by omega
  rcases zo_GC.tests (T := T) (o := o) (zo_le.dc z) (zo_GCid hZ.1) hZ hV hV2 n.toNat (by rw [e]; exact hr) with ⟨d, h1, h2⟩ | h
  · rw [e] at h1
    exact ⟨_, h2.congr (h1.uniq g)⟩
  · rw [e] at h
    exact absurd g.2.1 (h c g.1)
theorem zr_LZ (hZ : zo_Z U V L z) (hp : ∀ m : Int, 0 ≤ m → m < 3 → 0 ≤ at0 m.toNat ∧ at0 m.toNat ≤ 5) (hlr : ∀ k : Int, 0 ≤ k → k < 18 → 0 ≤ ln k.toNat ∧ zo_tr (ln k.toNat) lt (6 * k)) (g : zo_GC (fun w => zo_le w z ∧ zo_sl ln lt at0 w) c) (hV : U + 2002 ≤ V) (hV2 : V ≤ 45000) : ∃ L', zo_Z U V L' c := by
  have key : ∀ t : Nat, t ≤ 3 → ∃ d L', zo_GC (fun w => zo_le w z ∧ ∀ m : Int, 0 ≤ m → m < t → zo_sat (ln (6 * m + at0 m.toNat).toNat) lt (6 * (6 * m + at0 m.toNat)) w) d ∧ zo_Z U V L' d := by
    intro t
    induction t with
    | zero => exact fun _ => ⟨z, L, (zo_GCid hZ.1).iff (fun w _ => ⟨fun k => ⟨k, fun m h0 h1 => absurd h1 (by omega)⟩, fun k => k.1⟩), hZ⟩
    | succ t ih =>
      intro ht
      obtain ⟨d, L', g1, z1⟩ := ih (by omega)
      have p := hp t (by omega) (by omega)
      rw [show ((t : Int).toNat) = t by omega] at p
      have r := hlr (6 * (t : Int) + at0 t) (by omega) (by omega)
      have e : (((ln (6 * (t : Int) + at0 t).toNat).toNat : Nat) : Int) = ln (6 * (t : Int) + at0 t).toNat := by omega
      have dK : zo_dc (fun w => zo_le w z ∧ ∀ m : Int, 0 ≤ m → m < (t : Int) → zo_sat (ln (6 * m + at0 m.toNat).toNat) lt (6 * (6 * m + at0 m.toNat)) w) := fun w w' q k => ⟨q.tr k.1, fun m m0 m1 => zo_sat.dc (hlr _ (by have := hp m m0 (by omega); omega) (by have := hp m m0 (by omega); omega)).2 w w' q (k.2 m m0 m1)⟩
      rcases zo_GC.tests (T := lt) (o := 6 * (6 * (t : Int) + at0 t)) dK g1 z1 hV hV2 (ln (6 * (t : Int) + at0 t).toNat).toNat (by rw [e]; exact r.2) with ⟨d2, h1, h2⟩ | h
      · rw [e] at h1
        refine ⟨d2, _, h1.iff (fun w _ => ⟨fun k => ⟨k.1.1, fun m m0 m1 => ?_⟩, fun k => ⟨⟨k.1, fun m m0 m1 => k.2 m m0 (by omega)⟩, ?_⟩⟩), h2⟩
        · by_cases c : m = (t : Int)
          · subst c
            rw [show ((t : Int).toNat) = t by omega]
            exact k.2
          · exact k.1.2 m m0 (by omega)
        · have q := k.2 t (by omega) (by omega)
          rw [show ((t : Int).toNat) = t by omega] at q
          exact q
      · rw [e] at h
        refine absurd ⟨⟨g.2.1.1, fun m m0 m1 => g.2.1.2 m m0 (by omega)⟩, ?_⟩ (h c g.1)
        have q := g.2.1.2 t (by omega) (by omega)
        rw [show ((t : Int).toNat) = t by omega] at q
        exact q
  obtain ⟨d, L', g1, z1⟩ := key 3 (by omega)
  exact ⟨L', z1.congr ((g1.iff (K' := fun w => zo_le w z ∧ zo_sl ln lt at0 w) (fun w _ => Iff.rfl)).uniq g)⟩
end ZRZ
section ZQS
variable {G s s' r U V L : Int} {z v : Nat → Int} {x : Nat}
theorem zq_s1 (hZ : zo_Z U V L z) (hUV : U ≤ V) (hV : V ≤ 45000) (hs : 0 < s' ∧ 2 * s' ≤ s ∧ s ≤ G) (hx : 1 ≤ x ∧ x < 4) (h0 : v 0 = 0) (h : zq_in G s zq_all v (zo_s1 r x z)) : ∃ u, (∀ i, i ≠ x → u i = v i) ∧ zq_in G s' zq_all u z ∧ (z_btv r x ≠ 0 → v x = 0) ∧ (z_btv r x = 0 → u x = v x) := by
  unfold zo_s1 at h
  by_cases c : z_btv r x ≠ 0
  · rw [if_pos c] at h
    obtain ⟨a, ha⟩ := zq_rs hZ.1 (zq_U.of hZ hUV hV) (fun j hj => (hZ.2.2 j hj).2) hs hx h
    refine ⟨_, fun i hi => if_neg hi, ha, fun _ => zq_rs0 h h0 (hZ.1.1 0 (by omega)) hx, fun q => absurd q c⟩
  · rw [if_neg c] at h
    exact ⟨v, fun _ _ => rfl, h.weak (by omega), fun q => absurd q c, fun _ => rfl⟩
theorem zq_set {s1 s2 s3 : Int} (hZ : zo_Z U V L z) (hUV : U ≤ V) (hV : V ≤ 45000) (hs : 0 < s3 ∧ 2 * s3 ≤ s2 ∧ 2 * s2 ≤ s1 ∧ 2 * s1 ≤ s ∧ s ≤ G) (h0 : v 0 = 0) (h : zq_in G s zq_all v (zo_set r z)) : ∃ u, u 0 = 0 ∧ zq_in G s3 zq_all u z ∧ ∀ x : Nat, 1 ≤ x → x < 4 → (z_btv r x ≠ 0 → v x = 0) ∧ (z_btv r x = 0 → u x = v x) := by
  unfold zo_set at h
  obtain ⟨u3, a3, b3, c3, d3⟩ := zq_s1 (s' := s1) (x := 3) (zo_s1_Z (by omega) (zo_s1_Z (by omega) hZ)) hUV hV (by omega) (by omega) h0 h
  have z3 := (a3 0 (by omega)).trans h0
  obtain ⟨u2, a2, b2, c2, d2⟩ := zq_s1 (s' := s2) (x := 2) (zo_s1_Z (by omega) hZ) hUV hV (by omega) (by omega) z3 b3
  have z2 := (a2 0 (by omega)).trans z3
  obtain ⟨u1, a1, b1, c1, d1⟩ := zq_s1 (s' := s3) (x := 1) hZ hUV hV (by omega) (by omega) z2 b2
  refine ⟨u1, (a1 0 (by omega)).trans z2, b1, fun x h1 h4 => ?_⟩
  rcases (show x = 1 ∨ x = 2 ∨ x = 3 by omega) with rfl | rfl | rfl
  · exact ⟨fun q => by rw [← a3 1 (by omega), ← a2 1 (by omega)]; exact c1 q, fun q => by rw [d1 q, a2 1 (by omega), a3 1 (by omega)]⟩
  · exact ⟨fun q => by rw [← a3 2 (by omega)]; exact c2 q, fun q => by rw [a1 2 (by omega), d2 q, a3 2 (by omega)]⟩
  · exact ⟨fun q => c3 q, fun q => by rw [a1 3 (by omega), a2 3 (by omega), d3 q]⟩
end ZQS
