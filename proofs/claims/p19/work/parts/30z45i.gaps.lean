/-! the class's gaps: a list of pairs of times -/
def zs_G (c : Int) (gf gt gl : Nat → Int) (b a : Nat) (w : Int) : Prop := ∃ g : Nat, (g : Int) < c ∧ gf g = (b : Int) ∧ gt g = (a : Int) ∧ gl g = w
section ZSG
variable {c f0 t0 l0 : Int} {gf gt gl : Nat → Int} {b a : Nat} {w : Int}
theorem zs_G_add (hc : 0 ≤ c) (hf : 0 ≤ f0) (ht : 0 ≤ t0) : zs_G (c + 1) (va_up gf c.toNat f0) (va_up gt c.toNat t0) (va_up gl c.toNat l0) b a w ↔ zs_G c gf gt gl b a w ∨ zs_e1 f0.toNat t0.toNat l0 b a w := by
  constructor
  · rintro ⟨g, h1, h2, h3, h4⟩
    simp only [va_up] at h2 h3 h4
    by_cases e : g = c.toNat
    · rw [if_pos e] at h2 h3 h4
      exact Or.inr ⟨by omega, by omega, h4.symm⟩
    · rw [if_neg e] at h2 h3 h4
      exact Or.inl ⟨g, by omega, h2, h3, h4⟩
  · rintro (⟨g, h1, h2, h3, h4⟩ | ⟨rfl, rfl, rfl⟩)
    · refine ⟨g, by omega, ?_, ?_, ?_⟩ <;> simp only [va_up] <;> rw [if_neg (by omega)] <;> assumption
    · refine ⟨c.toNat, by omega, ?_, ?_, ?_⟩ <;> simp only [va_up, if_true] <;> omega
theorem zs_G_s {i : Int} (hi : 0 ≤ i) (h : zs_G (i + 1) gf gt gl b a w) : zs_G i gf gt gl b a w ∨ (gf i.toNat = (b : Int) ∧ gt i.toNat = (a : Int) ∧ gl i.toNat = w) := by
  obtain ⟨g, h1, h2⟩ := h
  by_cases e : g = i.toNat
  · subst e; exact Or.inr h2
  · exact Or.inl ⟨g, by omega, h2⟩
end ZSG
section ZSH
variable {Z G0 G1 G2 : Nat → Nat → Int → Prop} {T : Nat → Int} {R : Nat → Nat} {o i x k m d d' : Int} {j r : Nat}
theorem zs_tsE_i (hi : 0 ≤ i) {b a : Nat} {w : Int} : zs_tsE (i + 1) T o R j b a w ↔ zs_tsE i T o R j b a w ∨ zs_tE j (R (T (o + 3 * i).toNat).toNat) (T (o + 3 * i + 1).toNat) (T (o + 3 * i + 2).toNat) b a w := by
  constructor
  · exact zs_tsE_s
  · rintro (⟨q, q0, q1, h⟩ | h)
    · exact ⟨q, q0, by omega, h⟩
    · exact ⟨i, hi, by omega, h⟩
/-- a test's gaps: a ceiling alone, a floor alone, both -/
theorem zs_g1 (hi : 0 ≤ i) (t : T (o + 3 * i).toNat = x ∧ T (o + 3 * i + 1).toNat = k ∧ T (o + 3 * i + 2).toNat = m) (hr : r = R x.toNat) (hk : k ≤ 1) (hd : d = -64 * m + (if k = 0 then 1 else 0)) (GG : ∀ b a w, G0 b a w ↔ Z b a w ∨ zs_tsE i T o R j b a w) (q : ∀ b a w, G1 b a w ↔ G0 b a w ∨ zs_e1 j r d b a w) : ∀ b a w, G1 b a w ↔ Z b a w ∨ zs_tsE (i + 1) T o R j b a w := by
  intro b a w
  rw [q, GG, zs_tsE_i hi, t.1, t.2.1, t.2.2, ← hr, or_assoc]
  have e : zs_tE j r k m b a w ↔ zs_e1 j r d b a w := ⟨zs_tE1 hk hd, fun ⟨e1, e2, e3⟩ => Or.inl ⟨by omega, e1, e2, e3.trans hd⟩⟩
  rw [e]
theorem zs_g3 (hi : 0 ≤ i) (t : T (o + 3 * i).toNat = x ∧ T (o + 3 * i + 1).toNat = k ∧ T (o + 3 * i + 2).toNat = m) (hr : r = R x.toNat) (hk : 3 ≤ k) (hd : d = 64 * m + (if k = 4 then 1 else 0)) (GG : ∀ b a w, G0 b a w ↔ Z b a w ∨ zs_tsE i T o R j b a w) (q : ∀ b a w, G1 b a w ↔ G0 b a w ∨ zs_e1 r j d b a w) : ∀ b a w, G1 b a w ↔ Z b a w ∨ zs_tsE (i + 1) T o R j b a w := by
  intro b a w
  rw [q, GG, zs_tsE_i hi, t.1, t.2.1, t.2.2, ← hr, or_assoc]
  have e : zs_tE j r k m b a w ↔ zs_e1 r j d b a w := ⟨zs_tE3 hk hd, fun ⟨e1, e2, e3⟩ => Or.inr ⟨by omega, e1, e2, e3.trans hd⟩⟩
  rw [e]
theorem zs_g2 (hi : 0 ≤ i) (t : T (o + 3 * i).toNat = x ∧ T (o + 3 * i + 1).toNat = k ∧ T (o + 3 * i + 2).toNat = m) (hr : r = R x.toNat) (hk : k = 2) (hd : d = -64 * m) (hd' : d' = 64 * m) (GG : ∀ b a w, G0 b a w ↔ Z b a w ∨ zs_tsE i T o R j b a w) (q : ∀ b a w, G1 b a w ↔ G0 b a w ∨ zs_e1 j r d b a w) (q' : ∀ b a w, G2 b a w ↔ G1 b a w ∨ zs_e1 r j d' b a w) : ∀ b a w, G2 b a w ↔ Z b a w ∨ zs_tsE (i + 1) T o R j b a w := by
  intro b a w
  rw [q', q, GG, zs_tsE_i hi, t.1, t.2.1, t.2.2, ← hr, or_assoc, or_assoc]
  have e : zs_tE j r k m b a w ↔ zs_e1 j r d b a w ∨ zs_e1 r j d' b a w := by
    subst hk
    rw [hd, hd']
    constructor
    · intro h
      have := zs_tE2 rfl h
      rw [Int.add_zero, Int.add_zero] at this
      exact this
    · rintro (⟨e1, e2, e3⟩ | ⟨e1, e2, e3⟩)
      · exact Or.inl ⟨by omega, e1, e2, by rw [if_neg (by decide)]; omega⟩
      · exact Or.inr ⟨by omega, e1, e2, by rw [if_neg (by decide)]; omega⟩
  rw [e]
theorem zs_gL {ln lt at0 : Nat → Int} (hi : 0 ≤ i) (GG : ∀ b a w, G0 b a w ↔ Z b a w ∨ zs_liP i ln lt at0 R j b a w) (q : ∀ b a w, G1 b a w ↔ G0 b a w ∨ zs_tsE (ln (6 * i + at0 i.toNat).toNat) lt (6 * (6 * i + at0 i.toNat)) R j b a w) : ∀ b a w, G1 b a w ↔ Z b a w ∨ zs_liP (i + 1) ln lt at0 R j b a w := by
  intro b a w
  rw [q, GG, or_assoc]
  have e : zs_liP (i + 1) ln lt at0 R j b a w ↔ zs_liP i ln lt at0 R j b a w ∨ zs_tsE (ln (6 * i + at0 i.toNat).toNat) lt (6 * (6 * i + at0 i.toNat)) R j b a w := by
    constructor
    · exact zs_liP_s
    · rintro (⟨p, p0, p1, h⟩ | h)
      · exact ⟨p, p0, by omega, h⟩
      · exact ⟨i, hi, by omega, h⟩
  rw [e]
end ZSH
section ZSJ
variable {Z G0 G1 G2 : Nat → Nat → Int → Prop} {gn gt er sf : Nat → Int} {R : Nat → Nat} {e f i k r t : Int} {j : Nat}
theorem zs_gu1 (hf : f = -1) (q : ∀ b a w, G1 b a w ↔ Z b a w ∨ zs_tsE (gn e.toNat) gt (6 * e) R j b a w) : ∀ b a w, G1 b a w ↔ Z b a w ∨ zs_guE gn gt e f R j b a w := fun b a w => by
  rw [q]
  exact ⟨fun h => h.imp id Or.inl, fun h => h.imp id (fun h => h.elim id (fun h => absurd hf h.1))⟩
theorem zs_gu2 (hf : f ≠ -1) (q : ∀ b a w, G1 b a w ↔ Z b a w ∨ zs_tsE (gn e.toNat) gt (6 * e) R j b a w) (q' : ∀ b a w, G2 b a w ↔ G1 b a w ∨ zs_tsE (gn f.toNat) gt (6 * f) R j b a w) : ∀ b a w, G2 b a w ↔ Z b a w ∨ zs_guE gn gt e f R j b a w := fun b a w => by
  rw [q', q, or_assoc]
  exact ⟨fun h => h.imp id (fun h => h.imp id (fun h => ⟨hf, h⟩)), fun h => h.imp id (fun h => h.imp id (fun h => h.2))⟩
theorem zs_lsF {fa la : Nat → Int} {c : Nat → Prop} [DecidablePred c] (FL : ∀ x : Nat, 1 ≤ x → (x : Int) < i → fa x = if c x then k else la x) (FR : ∀ x : Nat, i ≤ (x : Int) → fa x = la x) (h0 : 0 ≤ i) (hc : c i.toNat) : (∀ x : Nat, 1 ≤ x → (x : Int) < i + 1 → va_up fa i.toNat k x = if c x then k else la x) ∧ ∀ x : Nat, i + 1 ≤ (x : Int) → va_up fa i.toNat k x = la x := by
  refine ⟨fun x h1 h2 => ?_, fun x h1 => ?_⟩
  · unfold va_up
    by_cases e : x = i.toNat
    · subst e; rw [if_pos rfl, if_pos hc]
    · rw [if_neg e]; exact FL x h1 (by omega)
  · unfold va_up
    rw [if_neg (by omega)]
    exact FR x (by omega)
theorem zs_lsN {fa la : Nat → Int} {c : Nat → Prop} [DecidablePred c] (FL : ∀ x : Nat, 1 ≤ x → (x : Int) < i → fa x = if c x then k else la x) (FR : ∀ x : Nat, i ≤ (x : Int) → fa x = la x) (h0 : 0 ≤ i) (hc : ¬ c i.toNat) : ∀ x : Nat, 1 ≤ x → (x : Int) < i + 1 → fa x = if c x then k else la x := fun x h1 h2 => by
  by_cases e : x = i.toNat
  · subst e; rw [if_neg hc]; exact FR _ (by omega)
  · exact FL x h1 (by omega)
theorem zs_vis {wy : Nat → Int} {n M s : Int} (h : ∀ k : Nat, i < (k : Int) → (k : Int) ≤ M → 0 ≤ wy k ∧ wy k < n) (hs : 0 ≤ s ∧ s < n) (h0 : 0 ≤ i) : ∀ k : Nat, i + (-1) < (k : Int) → (k : Int) ≤ M → 0 ≤ va_up wy i.toNat s k ∧ va_up wy i.toNat s k < n := fun k h1 h2 => by
  unfold va_up
  by_cases e : k = i.toNat
  · rw [if_pos e]; exact hs
  · rw [if_neg e]; exact h k (by omega) h2
theorem zs_vi0 {wy : Nat → Int} {M s i0 : Int} {pa : Nat → Int} (h : ∀ k : Nat, i < (k : Int) → (k : Int) ≤ M → wy k = z_up pa (M - (k : Int)).toNat i0) (hs : s = z_up pa (M - i).toNat i0) (hi : i = 0) : ∀ k : Nat, (k : Int) ≤ M → va_up wy (0 : Int).toNat s k = z_up pa (M - (k : Int)).toNat i0 := fun k h2 => by
  subst hi
  unfold va_up
  by_cases e : k = (0 : Int).toNat
  · rw [if_pos e, hs]
    subst e
    rfl
  · rw [if_neg e]
    exact h k (by have : (0 : Int).toNat = 0 := rfl; omega) h2
theorem zs_vi1 {wy : Nat → Int} {n M s : Int} (h : ∀ k : Nat, i < (k : Int) → (k : Int) ≤ M → 0 ≤ wy k ∧ wy k < n) (hs : 0 ≤ s ∧ s < n) (hi : i = 0) : ∀ k : Nat, (k : Int) ≤ M → 0 ≤ va_up wy (0 : Int).toNat s k ∧ va_up wy (0 : Int).toNat s k < n := fun k h2 => by
  subst hi
  unfold va_up
  by_cases e : k = (0 : Int).toNat
  · rw [if_pos e]; exact hs
  · rw [if_neg e]; exact h k (by have : (0 : Int).toNat = 0 := rfl; omega) h2
end ZSJ
theorem zs_missK {K' : Nat → Nat → Int → Prop} {n : Nat} {L V : Nat → Int} {a0 b0 w x y m : Int} (hV : ∀ v, v ≤ n → V v ≤ L v) (hk : K' b0.toNat a0.toNat w) (ex : V b0.toNat = x) (ey : V a0.toNat = y) (q : ¬ y < x + w) : zs_ad (zs_e1 b0.toNat a0.toNat w) n L V V m m := zs_ad.miss hV (by rw [ex, ey]; exact q)
section ZSK
variable {er gn gt ln lt E F P1 : Nat → Int} {A : Nat → Nat → Int} {R R' : Nat → Nat} {i e f N : Int} {n j : Nat} {G0 G1 G2 G3 : Nat → Nat → Int → Prop}
theorem zs_tsE_R {nn o : Int} {T : Nat → Int} {b a : Nat} {w : Int} (hr : zo_tr nn T o) (e : ∀ x, 1 ≤ x → x < 4 → R x = R' x) : zs_tsE nn T o R j b a w ↔ zs_tsE nn T o R' j b a w := by
  constructor
  · rintro ⟨i, i0, i1, q⟩
    have r := hr i i0 i1
    rw [e _ (by omega) (by omega)] at q
    exact ⟨i, i0, i1, q⟩
  · rintro ⟨i, i0, i1, q⟩
    have r := hr i i0 i1
    rw [← e _ (by omega) (by omega)] at q
    exact ⟨i, i0, i1, q⟩
theorem zs_li_R {at0 : Nat → Int} {b a : Nat} {w : Int} (hl : zr_hl ln lt) (hp : zr_hp at0) (e : ∀ x, 1 ≤ x → x < 4 → R x = R' x) : zs_liE ln lt at0 R j b a w ↔ zs_liE ln lt at0 R' j b a w :=
  ⟨fun ⟨m, m0, m1, q⟩ => ⟨m, m0, m1, (zs_tsE_R (hl _ (by have := hp m m0 m1; omega) (by have := hp m m0 m1; omega)).2 e).mp q⟩, fun ⟨m, m0, m1, q⟩ => ⟨m, m0, m1, (zs_tsE_R (hl _ (by have := hp m m0 m1; omega) (by have := hp m m0 m1; omega)).2 e).mpr q⟩⟩
theorem zs_gu_R {b a : Nat} {w : Int} (hg : zr_hg N gn gt) (he : 0 ≤ e ∧ e < N) (hf : -1 ≤ f ∧ f < N) (q : ∀ x, 1 ≤ x → x < 4 → R x = R' x) : zs_guE gn gt e f R j b a w ↔ zs_guE gn gt e f R' j b a w := by
  unfold zs_guE
  rw [zs_tsE_R (hg e he.1 he.2).2 q]
  constructor
  · exact fun h => h.imp id (fun h => ⟨h.1, (zs_tsE_R (hg f (by have := h.1; omega) hf.2).2 q).mp h.2⟩)
  · exact fun h => h.imp id (fun h => ⟨h.1, (zs_tsE_R (hg f (by have := h.1; omega) hf.2).2 q).mpr h.2⟩)
/-- one step's gaps more -/
theorem zs_cS (hi : 1 ≤ i) (hl : zr_hl ln lt) (hg : zr_hg N gn gt) (hP : P1 = A (i - 1).toNat) (hp : zr_hp P1) (he : e = E i.toNat) (hf : f = F i.toNat) (re : 0 ≤ e ∧ e < N) (rf : -1 ≤ f ∧ f < N) (hR : ∀ x, 1 ≤ x → x < 4 → R x = zr_ls er E F x (i - 1).toNat)
    (GG : ∀ b a w, G0 b a w ↔ ∃ j : Nat, (j : Int) + 1 < i ∧ zs_scE er gn gt ln lt E F A j b a w) (q1 : ∀ b a w, G1 b a w ↔ G0 b a w ∨ zs_e1 (i - 1).toNat i.toNat 0 b a w) (q2 : ∀ b a w, G2 b a w ↔ G1 b a w ∨ zs_liP 3 ln lt P1 R i.toNat b a w) (q3 : ∀ b a w, G3 b a w ↔ G2 b a w ∨ zs_guE gn gt e f R i.toNat b a w) : ∀ b a w, G3 b a w ↔ ∃ j : Nat, (j : Int) + 1 < i + 1 ∧ zs_scE er gn gt ln lt E F A j b a w := by
  intro b a w
  have h1 : zs_liP 3 ln lt P1 R i.toNat b a w ↔ zs_liE ln lt P1 (zs_R er E F (i - 1).toNat) i.toNat b a w := zs_li_R hl hp hR
  have h2 : zs_guE gn gt e f R i.toNat b a w ↔ zs_guE gn gt e f (zs_R er E F (i - 1).toNat) i.toNat b a w := zs_gu_R hg re rf hR
  rw [q3, q2, q1, GG, h1, h2]
  have s : zs_scE er gn gt ln lt E F A (i - 1).toNat b a w ↔ zs_e1 (i - 1).toNat i.toNat 0 b a w ∨ zs_liE ln lt P1 (zs_R er E F (i - 1).toNat) i.toNat b a w ∨ zs_guE gn gt e f (zs_R er E F (i - 1).toNat) i.toNat b a w := by
    unfold zs_scE
    rw [show (i - 1).toNat + 1 = i.toNat by omega, hP, he, hf]
  constructor
  · rintro (((⟨j, hj, h⟩ | h) | h) | h)
    · exact ⟨j, by omega, h⟩
    · exact ⟨(i - 1).toNat, by omega, s.mpr (Or.inl h)⟩
    · exact ⟨(i - 1).toNat, by omega, s.mpr (Or.inr (Or.inl h))⟩
    · exact ⟨(i - 1).toNat, by omega, s.mpr (Or.inr (Or.inr h))⟩
  · rintro ⟨j, hj, h⟩
    by_cases c : j = (i - 1).toNat
    · subst c
      rcases s.mp h with h | h | h
      · exact Or.inl (Or.inl (Or.inr h))
      · exact Or.inl (Or.inr h)
      · exact Or.inr h
    · exact Or.inl (Or.inl (Or.inl ⟨j, by omega, h⟩))
theorem zs_cL {fa na : Nat → Int} {x : Nat} (hi : 1 ≤ i) (he : e = E i.toNat) (hf : f = F i.toNat) (q : na x = if z_btv (z_or er e f) x ≠ 0 then i else fa x) (FL : fa x = (zr_ls er E F x (i - 1).toNat : Int)) : na x = (zr_ls er E F x (i + 1 - 1).toNat : Int) := by
  obtain ⟨k, rfl⟩ : ∃ k : Nat, i = (k : Int) + 1 := ⟨(i - 1).toNat, by omega⟩
  rw [show ((k : Int) + 1 - 1).toNat = k by omega] at FL
  rw [show ((k : Int) + 1).toNat = k + 1 by omega] at he hf
  rw [show ((k : Int) + 1 + 1 - 1).toNat = k + 1 by omega, q, he, hf, zr_ls]
  split <;> simp_all
theorem zs_cF {M : Int} (hM : i = M + 1) (h0 : 0 ≤ M) (hl : zr_hl ln lt) (hP : P1 = A M.toNat) (hp : zr_hp P1) (hR : ∀ x, 1 ≤ x → x < 4 → R x = zr_ls er E F x (i - 1).toNat) (GG : ∀ b a w, G0 b a w ↔ ∃ j : Nat, (j : Int) + 1 < i ∧ zs_scE er gn gt ln lt E F A j b a w) {k : Int} (hk : k = M) (q : ∀ b a w, G1 b a w ↔ G0 b a w ∨ zs_liP 3 ln lt P1 R k.toNat b a w) : ∀ b a w, G1 b a w ↔ zs_Kc er gn gt ln lt E F A M.toNat b a w := by
  subst hM hk
  rw [show (k + 1 - 1).toNat = k.toNat by omega] at hR
  intro b a w
  have h1 : zs_liP 3 ln lt P1 R k.toNat b a w ↔ zs_liE ln lt P1 (zs_R er E F k.toNat) k.toNat b a w := zs_li_R hl hp hR
  rw [q, GG, h1, hP]
  unfold zs_Kc
  constructor
  · exact fun h => h.imp (fun ⟨j, hj, h⟩ => ⟨j, by omega, h⟩) id
  · exact fun h => h.imp (fun ⟨j, hj, h⟩ => ⟨j, by omega, h⟩) id
end ZSK
