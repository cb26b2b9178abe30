/-! what tests ask of times, as pairs of times; what a call that moves times is sure to do -/
def zs_e1 (b0 a0 : Nat) (w0 : Int) (b a : Nat) (w : Int) : Prop := b = b0 ∧ a = a0 ∧ w = w0
def zs_tE (j r : Nat) (k m : Int) (b a : Nat) (w : Int) : Prop := (k ≤ 2 ∧ b = j ∧ a = r ∧ w = -64 * m + (if k = 0 then 1 else 0)) ∨ (2 ≤ k ∧ b = r ∧ a = j ∧ w = 64 * m + (if k = 4 then 1 else 0))
def zs_tsE (n : Int) (T : Nat → Int) (o : Int) (R : Nat → Nat) (j : Nat) (b a : Nat) (w : Int) : Prop := ∃ i : Int, 0 ≤ i ∧ i < n ∧ zs_tE j (R (T (o + 3 * i).toNat).toNat) (T (o + 3 * i + 1).toNat) (T (o + 3 * i + 2).toNat) b a w
def zs_liP (c : Int) (ln lt at0 : Nat → Int) (R : Nat → Nat) (j : Nat) (b a : Nat) (w : Int) : Prop := ∃ m : Int, 0 ≤ m ∧ m < c ∧ zs_tsE (ln (6 * m + at0 m.toNat).toNat) lt (6 * (6 * m + at0 m.toNat)) R j b a w
abbrev zs_liE (ln lt at0 : Nat → Int) (R : Nat → Nat) (j : Nat) : Nat → Nat → Int → Prop := zs_liP 3 ln lt at0 R j
def zs_guE (gn gt : Nat → Int) (e f : Int) (R : Nat → Nat) (j : Nat) (b a : Nat) (w : Int) : Prop := zs_tsE (gn e.toNat) gt (6 * e) R j b a w ∨ (f ≠ -1 ∧ zs_tsE (gn f.toNat) gt (6 * f) R j b a w)
abbrev zs_R (er E F : Nat → Int) (k : Nat) : Nat → Nat := fun x => zr_ls er E F x k
def zs_stE (er gn gt ln lt E F : Nat → Int) (A : Nat → Nat → Int) (j : Nat) (b a : Nat) (w : Int) : Prop := zs_e1 j (j + 1) 0 b a w ∨ zs_guE gn gt (E (j + 1)) (F (j + 1)) (zs_R er E F j) (j + 1) b a w ∨ zs_liE ln lt (A j) (zs_R er E F j) (j + 1) b a w ∨ zs_liE ln lt (A (j + 1)) (zs_R er E F (j + 1)) (j + 1) b a w
def zs_Kr (er gn gt ln lt E F : Nat → Int) (A : Nat → Nat → Int) (n : Nat) (b a : Nat) (w : Int) : Prop := ∃ j, j < n ∧ zs_stE er gn gt ln lt E F A j b a w
def zs_scE (er gn gt ln lt E F : Nat → Int) (A : Nat → Nat → Int) (j : Nat) (b a : Nat) (w : Int) : Prop := zs_e1 j (j + 1) 0 b a w ∨ zs_liE ln lt (A j) (zs_R er E F j) (j + 1) b a w ∨ zs_guE gn gt (E (j + 1)) (F (j + 1)) (zs_R er E F j) (j + 1) b a w
def zs_Kc (er gn gt ln lt E F : Nat → Int) (A : Nat → Nat → Int) (n : Nat) (b a : Nat) (w : Int) : Prop := (∃ j, j < n ∧ zs_scE er gn gt ln lt E F A j b a w) ∨ zs_liE ln lt (A n) (zs_R er E F n) n b a w
section ZSE
variable {er gn gt ln lt E F L : Nat → Int} {A : Nat → Nat → Int} {n : Nat}
theorem zs_ts_S {nn o : Int} {T : Nat → Int} {R : Nat → Nat} {j : Nat} : zs_S (zs_tsE nn T o R j) L ↔ zr_ts 64 1 nn T o (fun x => L j - L (R x)) := by
  constructor
  · intro h i i0 i1
    have k := fun b a w q => h b a w ⟨i, i0, i1, q⟩
    refine ⟨fun q => ?_, fun q => ?_⟩
    · have := k _ _ _ (Or.inl ⟨q, rfl, rfl, rfl⟩)
      (try dsimp only)
      refine ⟨?_, fun z => ?_⟩
      · split at this <;> omega
      · rw [if_pos z] at this
        omega
    · have := k _ _ _ (Or.inr ⟨q, rfl, rfl, rfl⟩)
      (try dsimp only)
      refine ⟨?_, fun z => ?_⟩
      · split at this <;> omega
      · rw [if_pos z] at this
        omega
  · rintro h b a w ⟨i, i0, i1, ⟨q, rfl, rfl, rfl⟩ | ⟨q, rfl, rfl, rfl⟩⟩
    · have r := (h i i0 i1).1 q
      dsimp only at r
      split
      · have := r.2 (by assumption)
        omega
      · have := r.1
        omega
    · have r := (h i i0 i1).2 q
      dsimp only at r
      split
      · have := r.2 (by assumption)
        omega
      · have := r.1
        omega
theorem zs_li_S {at0 : Nat → Int} {R : Nat → Nat} {j : Nat} : zs_S (zs_liE ln lt at0 R j) L ↔ zr_li 64 1 ln lt at0 (fun x => L j - L (R x)) := ⟨fun h m m0 m1 => zs_ts_S.mp (fun b a w q => h b a w ⟨m, m0, m1, q⟩), fun h b a w ⟨m, m0, m1, q⟩ => zs_ts_S.mpr (h m m0 m1) b a w q⟩
theorem zs_gu_S {e f : Int} {R : Nat → Nat} {j : Nat} : zs_S (zs_guE gn gt e f R j) L ↔ zr_gu 64 1 gn gt e f (fun x => L j - L (R x)) := ⟨fun h => ⟨zs_ts_S.mp (fun b a w q => h b a w (Or.inl q)), fun x => zs_ts_S.mp (fun b a w q => h b a w (Or.inr ⟨x, q⟩))⟩, fun h b a w q => q.elim (fun q => zs_ts_S.mpr h.1 b a w q) (fun q => zs_ts_S.mpr (h.2 q.1) b a w q.2)⟩
theorem zs_Kr_S : zs_S (zs_Kr er gn gt ln lt E F A n) L ↔ zr_F 64 1 er gn gt ln lt E F A n L := by
  constructor
  · intro h j hj
    have k := fun b a w q => h b a w ⟨j, hj, q⟩
    refine ⟨by have := k j (j + 1) 0 (Or.inl ⟨rfl, rfl, rfl⟩); omega, zs_gu_S.mp (fun b a w q => k b a w (Or.inr (Or.inl q))), zs_li_S.mp (fun b a w q => k b a w (Or.inr (Or.inr (Or.inl q)))), zs_li_S.mp (fun b a w q => k b a w (Or.inr (Or.inr (Or.inr q))))⟩
  · rintro h b a w ⟨j, hj, q⟩
    obtain ⟨h1, h2, h3, h4⟩ := h j hj
    rcases q with ⟨rfl, rfl, rfl⟩ | q | q | q
    · omega
    · exact zs_gu_S.mpr h2 b a w q
    · exact zs_li_S.mpr h3 b a w q
    · exact zs_li_S.mpr h4 b a w q
/-- limits are ceilings -/
def zs_lc (ln lt : Nat → Int) : Prop := ∀ k : Int, 0 ≤ k → k < 18 → ∀ j : Int, 0 ≤ j → j < ln k.toNat → lt (6 * k + 3 * j + 1).toNat ≤ 1
theorem zs_li_dn (hc : zs_lc ln lt) {at0 u u' : Nat → Int} (hp : zr_hp at0) (h : zr_li 64 1 ln lt at0 u) (e : ∀ x, u' x ≤ u x) : zr_li 64 1 ln lt at0 u' := fun m m0 m1 i i0 i1 => by
  have p := hp m m0 m1
  have c := hc (6 * m + at0 m.toNat) (by omega) (by omega) i i0 i1
  have q := (h m m0 m1 i i0 i1).1
  have le := e (lt (6 * (6 * m + at0 m.toNat) + 3 * i).toNat).toNat
  exact ⟨fun z => ⟨by have := (q z).1; omega, fun y => by have := (q z).2 y; omega⟩, fun z => absurd z (by omega)⟩
theorem zs_Kc_S (hc : zs_lc ln lt) (hp : ∀ j, j ≤ n → zr_hp (A j)) (hn : 1 ≤ n) : zs_S (zs_Kc er gn gt ln lt E F A n) L ↔ zs_S (zs_Kr er gn gt ln lt E F A n) L := by
  rw [zs_Kr_S]
  constructor
  · intro h
    have k := fun j hj b a w q => h b a w (Or.inl ⟨j, hj, q⟩)
    have k1 : ∀ j, j < n → L j ≤ L (j + 1) := fun j hj => by have := k j hj j (j + 1) 0 (Or.inl ⟨rfl, rfl, rfl⟩); omega
    have k2 : ∀ j, j < n → zr_li 64 1 ln lt (A j) (zr_u er E F L j (j + 1)) := fun j hj => zs_li_S.mp (fun b a w q => k j hj b a w (Or.inr (Or.inl q)))
    intro j hj
    refine ⟨k1 j hj, zs_gu_S.mp (fun b a w q => k j hj b a w (Or.inr (Or.inr q))), k2 j hj, ?_⟩
    by_cases e : j + 1 = n
    · subst e
      exact zs_li_S.mp (fun b a w q => h b a w (Or.inr q))
    · refine zs_li_dn hc (hp (j + 1) (by omega)) (k2 (j + 1) (by omega)) (fun x => ?_)
      have := k1 (j + 1) (by omega)
      unfold zr_u
      omega
  · rintro h b a w (⟨j, hj, q⟩ | q)
    · obtain ⟨h1, h2, h3, h4⟩ := h j hj
      rcases q with ⟨rfl, rfl, rfl⟩ | q | q
      · omega
      · exact zs_li_S.mpr h3 b a w q
      · exact zs_gu_S.mpr h2 b a w q
    · obtain ⟨_, _, _, h4⟩ := h (n - 1) (by omega)
      rw [show n - 1 + 1 = n by omega] at h4
      exact zs_li_S.mpr h4 b a w q
theorem zs_tsE.rg {nn o : Int} {T : Nat → Int} {R : Nat → Nat} {j b a : Nat} {w : Int} (h : zs_tsE nn T o R j b a w) (hr : zo_tr nn T o) (hj : j ≤ n) (hR : ∀ x, R x ≤ n) : b ≤ n ∧ a ≤ n ∧ w ≤ 64001 := by
  obtain ⟨i, i0, i1, q⟩ := h
  have r := hr i i0 i1
  have := hR (T (o + 3 * i).toNat).toNat
  rcases q with ⟨q, rfl, rfl, rfl⟩ | ⟨q, rfl, rfl, rfl⟩
  · refine ⟨hj, this, ?_⟩
    split <;> omega
  · refine ⟨this, hj, ?_⟩
    split <;> omega
theorem zs_liE.rg {at0 : Nat → Int} {R : Nat → Nat} {j b a : Nat} {w : Int} (h : zs_liE ln lt at0 R j b a w) (hl : zr_hl ln lt) (hp : zr_hp at0) (hj : j ≤ n) (hR : ∀ x, R x ≤ n) : b ≤ n ∧ a ≤ n ∧ w ≤ 64001 := by
  obtain ⟨m, m0, m1, q⟩ := h
  have := hp m m0 m1
  exact q.rg (hl _ (by omega) (by omega)).2 hj hR
theorem zs_Kr_K {N : Int} (hg : zr_hg N gn gt) (hl : zr_hl ln lt) (hp : ∀ j, j ≤ n → zr_hp (A j)) (he : ∀ j, j < n → (0 ≤ E (j + 1) ∧ E (j + 1) < N) ∧ -1 ≤ F (j + 1) ∧ F (j + 1) < N) : zs_K (zs_Kr er gn gt ln lt E F A n) n := by
  rintro b a w ⟨j, hj, q⟩
  have hR : ∀ k, k ≤ n → ∀ x, zs_R er E F k x ≤ n := fun k hk x => Nat.le_trans (zr_ls_le er E F x k) hk
  obtain ⟨e1, e2⟩ := he j hj
  rcases q with ⟨rfl, rfl, rfl⟩ | q | q | q
  · omega
  · rcases q with q | ⟨z, q⟩
    · exact q.rg (hg _ e1.1 e1.2).2 (by omega) (hR j (by omega))
    · exact q.rg (hg _ (by omega) e2.2).2 (by omega) (hR j (by omega))
  · exact q.rg hl (hp j (by omega)) (by omega) (hR j (by omega))
  · exact q.rg hl (hp (j + 1) (by omega)) (by omega) (hR (j + 1) (by omega))
theorem zs_Kc_r (hn : 1 ≤ n) {b a : Nat} {w : Int} (h : zs_Kc er gn gt ln lt E F A n b a w) : zs_Kr er gn gt ln lt E F A n b a w := by
  rcases h with ⟨j, hj, q⟩ | q
  · exact ⟨j, hj, q.elim Or.inl (fun q => q.elim (fun q => Or.inr (Or.inr (Or.inl q))) (fun q => Or.inr (Or.inl q)))⟩
  · refine ⟨n - 1, by omega, Or.inr (Or.inr (Or.inr ?_))⟩
    rw [show n - 1 + 1 = n by omega]
    exact q
end ZSE
/-- what a call that moves times is sure to do -/
def zs_ad (K : Nat → Nat → Int → Prop) (n : Nat) (L V V' : Nat → Int) (mv mv' : Int) : Prop := (∀ v, V v ≤ V' v) ∧ (∀ v, v ≤ n → V' v ≤ L v) ∧ (∀ b a w, K b a w → V b + w ≤ V' a) ∧ (mv' = mv ∧ V' = V ∨ mv' = 1)
section ZAD
variable {K K1 K2 : Nat → Nat → Int → Prop} {n : Nat} {L V V1 V2 : Nat → Int} {m m1 m2 : Int}
theorem zs_ad.nil (hV : ∀ v, v ≤ n → V v ≤ L v) (hK : ∀ b a w, ¬ K b a w) : zs_ad K n L V V m m := ⟨fun _ => Int.le_refl _, hV, fun b a w q => absurd q (hK b a w), Or.inl ⟨rfl, rfl⟩⟩
theorem zs_ad.cat (h : zs_ad K1 n L V V1 m m1) (h' : zs_ad K2 n L V1 V2 m1 m2) (hK : ∀ b a w, K b a w → K1 b a w ∨ K2 b a w) : zs_ad K n L V V2 m m2 := by
  refine ⟨fun v => Int.le_trans (h.1 v) (h'.1 v), h'.2.1, fun b a w q => ?_, ?_⟩
  · rcases hK b a w q with q | q
    · exact Int.le_trans (h.2.2.1 b a w q) (h'.1 a)
    · have := h'.2.2.1 b a w q
      have := h.1 b
      omega
  · rcases h.2.2.2 with ⟨e1, e2⟩ | e <;> rcases h'.2.2.2 with ⟨e3, e4⟩ | e'
    · exact Or.inl ⟨e3.trans e1, e4.trans e2⟩
    · exact Or.inr e'
    · exact Or.inr (e3.trans e)
    · exact Or.inr e'
theorem zs_ad.sub (h : zs_ad K1 n L V V1 m m1) (hK : ∀ b a w, K b a w → K1 b a w) : zs_ad K n L V V1 m m1 := ⟨h.1, h.2.1, fun b a w q => h.2.2.1 b a w (hK b a w q), h.2.2.2⟩
theorem zs_ad.hit {a0 b0 : Int} {w x : Int} (hV : ∀ v, v ≤ n → V v ≤ L v) (ha : a0.toNat ≤ n) (hb : b0.toNat ≤ n) (hle : L b0.toNat + w ≤ L a0.toNat) (ex : V b0.toNat = x) (q : V a0.toNat < x + w) : zs_ad (zs_e1 b0.toNat a0.toNat w) n L V (va_up V a0.toNat (x + w)) m 1 := by
  have hb' := hV _ hb
  refine ⟨fun v => ?_, fun v hv => ?_, ?_, Or.inr rfl⟩
  · unfold va_up
    by_cases c : v = a0.toNat
    · rw [if_pos c, c]; omega
    · rw [if_neg c]; exact Int.le_refl _
  · unfold va_up
    by_cases c : v = a0.toNat
    · rw [if_pos c, c]; omega
    · rw [if_neg c]; exact hV v hv
  · rintro b a w' ⟨rfl, rfl, rfl⟩
    unfold va_up
    rw [if_pos rfl]
    omega
theorem zs_ad.miss {a0 b0 : Int} {w : Int} (hV : ∀ v, v ≤ n → V v ≤ L v) (q : ¬ V a0.toNat < V b0.toNat + w) : zs_ad (zs_e1 b0.toNat a0.toNat w) n L V V m m := by
  refine ⟨fun v => Int.le_refl _, hV, ?_, Or.inl ⟨rfl, rfl⟩⟩
  rintro b a w' ⟨rfl, rfl, rfl⟩
  omega
theorem zs_tE1 {j r b a : Nat} {k c w d : Int} (hk : k ≤ 1) (hd : d = -64 * c + (if k = 0 then 1 else 0)) (h : zs_tE j r k c b a w) : zs_e1 j r d b a w := by
  rcases h with ⟨_, e1, e2, e3⟩ | ⟨q, _⟩
  · exact ⟨e1, e2, e3.trans hd.symm⟩
  · omega
theorem zs_tE3 {j r b a : Nat} {k c w d : Int} (hk : 3 ≤ k) (hd : d = 64 * c + (if k = 4 then 1 else 0)) (h : zs_tE j r k c b a w) : zs_e1 r j d b a w := by
  rcases h with ⟨q, _⟩ | ⟨_, e1, e2, e3⟩
  · omega
  · exact ⟨e1, e2, e3.trans hd.symm⟩
theorem zs_tE2 {j r b a : Nat} {k c w : Int} (hk : k = 2) (h : zs_tE j r k c b a w) : zs_e1 j r (-64 * c + 0) b a w ∨ zs_e1 r j (64 * c + 0) b a w := by
  subst hk
  rcases h with ⟨_, e1, e2, e3⟩ | ⟨_, e1, e2, e3⟩
  · exact Or.inl ⟨e1, e2, e3.trans (by rw [if_neg (by decide)])⟩
  · exact Or.inr ⟨e1, e2, e3.trans (by rw [if_neg (by decide)])⟩
theorem zs_tsE_0 {T : Nat → Int} {o : Int} {R : Nat → Nat} {j b a : Nat} {w : Int} {i : Int} (hi : i ≤ 0) : ¬ zs_tsE i T o R j b a w := fun ⟨k, k0, k1, _⟩ => by omega
theorem zs_tsE_s {T : Nat → Int} {o : Int} {R : Nat → Nat} {j b a : Nat} {w : Int} {i : Int} (h : zs_tsE (i + 1) T o R j b a w) : zs_tsE i T o R j b a w ∨ zs_tE j (R (T (o + 3 * i).toNat).toNat) (T (o + 3 * i + 1).toNat) (T (o + 3 * i + 2).toNat) b a w := by
  obtain ⟨k, k0, k1, q⟩ := h
  by_cases e : k = i
  · subst e; exact Or.inr q
  · exact Or.inl ⟨k, k0, by omega, q⟩
theorem zs_liP_s {ln lt at0 : Nat → Int} {R : Nat → Nat} {j b a : Nat} {w : Int} {i : Int} (h : zs_liP (i + 1) ln lt at0 R j b a w) : zs_liP i ln lt at0 R j b a w ∨ zs_tsE (ln (6 * i + at0 i.toNat).toNat) lt (6 * (6 * i + at0 i.toNat)) R j b a w := by
  obtain ⟨k, k0, k1, q⟩ := h
  by_cases e : k = i
  · subst e; exact Or.inr q
  · exact Or.inl ⟨k, k0, by omega, q⟩
end ZAD
