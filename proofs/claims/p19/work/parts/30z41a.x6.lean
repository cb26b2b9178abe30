theorem zo_eqt {f z : Nat → Int} {s s' : Int} (h : f = zo_fw s.toNat z) (e : s = s') : f = zo_fw s'.toNat z := by rw [← e]; exact h
theorem zo_fw_I {f z : Nat → Int} {k x y a b c v : Int} (E : f = zo_fw (16 * k + 4 * x + y).toNat z) (hk : 0 ≤ k ∧ k < 4) (hx : 0 ≤ x ∧ x < 4) (hy : 0 ≤ y ∧ y < 4) (ea : f (4 * x + k).toNat = a) (eb : f (4 * k + y).toNat = b) (ec : f (4 * x + y).toNat = c) (hv : v = min (zo_sum a b) c) : va_up f (4 * x + y).toNat v = zo_fw (16 * k + 4 * x + (y + 1)).toNat z := by
  rw [show (16 * k + 4 * x + (y + 1)).toNat = 16 * k.toNat + 4 * x.toNat + y.toNat + 1 by omega, zo_fw_succ (by omega) (by omega), show 16 * k.toNat + 4 * x.toNat + y.toNat = (16 * k + 4 * x + y).toNat by omega, ← E]
  unfold zo_f1
  rw [show 4 * x.toNat + k.toNat = (4 * x + k).toNat by omega, show 4 * k.toNat + y.toNat = (4 * k + y).toNat by omega, show 4 * x.toNat + y.toNat = (4 * x + y).toNat by omega, ea, eb, ec, hv]
theorem zo_dgI {f z : Nat → Int} {x : Int} (E : f = zo_fw 64 z) (h : ∀ x, x < 4 → zo_fw 64 z (4 * x + x) = 1) (h0 : 0 ≤ x) (h1 : x < 4) : f (5 * x).toNat = 1 := by
  rw [E, show (5 * x).toNat = 4 * x.toNat + x.toNat by omega]
  exact h _ (by omega)
theorem zo_dgF {f z : Nat → Int} {i : Int} (E : f = zo_fw 64 z) (hi : 4 ≤ i) (h : ∀ x : Int, 0 ≤ x → x < i → f (5 * x).toNat = 1) : ∀ x, x < 4 → zo_fw 64 z (4 * x + x) = 1 := by
  intro x hx
  have := h x (by omega) (by omega)
  rw [E, show (5 * (x : Int)).toNat = 4 * x + x by omega] at this
  exact this
theorem zo_bind_le {z w : Nat → Int} {k : Nat} {b : Int} (hk : k < 16) : zo_le w (va_up z k (min b (z k))) ↔ zo_le w z ∧ w k ≤ b := by
  constructor
  · intro h
    have h1 := h k hk
    rw [z_upS] at h1
    refine ⟨fun j hj => ?_, by omega⟩
    have h2 := h j hj
    unfold va_up at h2
    split at h2
    · rename_i q
      subst q
      omega
    · exact h2
  · rintro ⟨h, h1⟩ j hj
    unfold va_up
    split
    · rename_i q
      subst q
      have := h j hj
      omega
    · exact h j hj
section ZBND
variable {a n m z0 : Nat → Int} {x s c b b' U : Int}
theorem zo_bc (q : n = va_up a (4 * x + 0 : Int).toNat (min b (a (4 * x + 0 : Int).toNat))) (hx : 1 ≤ x ∧ x ≤ 3) (hs : s ≤ 1) (hb : b = 2 * c + (if s = 0 then 0 else 1)) : ∀ w, zo_le w n ↔ zo_le w a ∧ zo_ts x s c w := by
  intro w
  rw [q, zo_bind_le (by omega), show (4 * x + 0 : Int).toNat = 4 * x.toNat by omega, hb]
  exact ⟨fun h => ⟨h.1, fun _ => h.2, fun q => absurd q (by omega)⟩, fun h => ⟨h.1, h.2.1 (by omega)⟩⟩
theorem zo_bf (q : n = va_up a (4 * 0 + x : Int).toNat (min b (a (4 * 0 + x : Int).toNat))) (hx : 1 ≤ x ∧ x ≤ 3) (hs : 3 ≤ s) (hb : b = -2 * c + (if s = 4 then 0 else 1)) : ∀ w, zo_le w n ↔ zo_le w a ∧ zo_ts x s c w := by
  intro w
  rw [q, zo_bind_le (by omega), show (4 * 0 + x : Int).toNat = x.toNat by omega, hb]
  exact ⟨fun h => ⟨h.1, fun q => absurd q (by omega), fun _ => h.2⟩, fun h => ⟨h.1, h.2.2 (by omega)⟩⟩
theorem zo_bcf (q : n = va_up a (4 * x + 0 : Int).toNat (min b (a (4 * x + 0 : Int).toNat))) (q' : m = va_up n (4 * 0 + x : Int).toNat (min b' (n (4 * 0 + x : Int).toNat))) (hx : 1 ≤ x ∧ x ≤ 3) (hs : s = 2) (hb : b = 2 * c + (if s = 0 then 0 else 1)) (hb' : b' = -2 * c + (if s = 4 then 0 else 1)) : ∀ w, zo_le w m ↔ zo_le w a ∧ zo_ts x s c w := by
  intro w
  rw [q', zo_bind_le (by omega), q, zo_bind_le (by omega), show (4 * x + 0 : Int).toNat = 4 * x.toNat by omega, show (4 * 0 + x : Int).toNat = x.toNat by omega, hb, hb']
  exact ⟨fun h => ⟨h.1.1, fun _ => h.1.2, fun _ => h.2⟩, fun h => ⟨⟨h.1, h.2.1 (by omega)⟩, h.2.2 (by omega)⟩⟩
theorem zo_bdd.ceil (hU : 2001 ≤ U) (h : zo_bdd U z0 a) (q : n = va_up a (4 * x + 0 : Int).toNat (min b (a (4 * x + 0 : Int).toNat))) (hx : 1 ≤ x ∧ x ≤ 3) (hb : 0 ≤ b ∧ b ≤ 2001) : zo_bdd U z0 n := by
  obtain ⟨h1, h2, h3, h4, h5, h6⟩ := h
  have e : ∀ k, n k = if k = 4 * x.toNat then min b (a k) else a k := fun k => by
    rw [q, show (4 * x + 0 : Int).toNat = 4 * x.toNat by omega]
    unfold va_up
    split
    · rename_i r
      rw [r]
    · rfl
  refine ⟨fun k hk => ?_, fun i j hi h1j hj hf => ?_, fun i hi hf => ?_, fun j hj => ?_, fun y hy => ?_, fun k hk => ?_⟩
  · have := h1 k hk
    rw [e]
    split <;> omega
  · rw [e, if_neg (by omega)] at hf
    exact h2 i j hi h1j hj hf
  · rw [e] at hf ⊢
    split
    · omega
    · rename_i r
      rw [if_neg r] at hf
      exact h3 i hi hf
  · rw [e, if_neg (by omega)]
    exact h4 j hj
  · rw [e, if_neg (by omega)]
    exact h5 y hy
  · have := h6 k hk
    rw [e]
    split <;> omega
theorem zo_bdd.floor (h : zo_bdd U z0 a) (q : n = va_up a (4 * 0 + x : Int).toNat (min b (a (4 * 0 + x : Int).toNat))) (hx : 1 ≤ x ∧ x ≤ 3) (hb : -2000 ≤ b ∧ b ≤ 1) : zo_bdd U z0 n := by
  obtain ⟨h1, h2, h3, h4, h5, h6⟩ := h
  have e : ∀ k, n k = if k = x.toNat then min b (a k) else a k := fun k => by
    rw [q, show (4 * 0 + x : Int).toNat = x.toNat by omega]
    unfold va_up
    split
    · rename_i r
      rw [r]
    · rfl
  refine ⟨fun k hk => ?_, fun i j hi h1j hj hf => ?_, fun i hi hf => ?_, fun j hj => ?_, fun y hy => ?_, fun k hk => ?_⟩
  · have := h1 k hk
    rw [e]
    split <;> omega
  · by_cases r : 4 * i + j = x.toNat
    · have := h4 j hj
      have e2 : 4 * i + j = j := by omega
      rw [e2]
      have := h2 i j hi h1j hj (by rw [e2]; omega)
      rw [e2] at this
      exact this
    · rw [e, if_neg r] at hf
      exact h2 i j hi h1j hj hf
  · rw [e, if_neg (by omega)] at hf ⊢
    exact h3 i hi hf
  · have := h4 j hj
    rw [e]
    split <;> omega
  · rw [e, if_neg (by omega)]
    exact h5 y hy
  · have := h6 k hk
    rw [e]
    split <;> omega
end ZBND
theorem zo_Z.bdd {U V L : Int} {z : Nat → Int} (h : zo_Z U V L z) (hUV : U ≤ V) (hL : L ≤ 89000) : zo_bdd V z z :=
  ⟨zo_le.rf z, fun _ _ _ _ _ hf => hf, fun i hi hf => h.up hUV _ (by omega) hf, fun j hj => (h.2.2 j hj).2, h.1.1, fun k hk => by have := h.dn k hk; omega⟩
theorem zo_SAs {K : (Nat → Int) → Prop} {f n T : Nat → Int} {i o : Int} (SA : ∀ w, zo_le w f ↔ K w ∧ zo_sat i T o w) (q : ∀ w, zo_le w n ↔ zo_le w f ∧ zo_ts (T (o + 3 * i).toNat) (T (o + 3 * i + 1).toNat) (T (o + 3 * i + 2).toNat) w) (hi : 0 ≤ i) : ∀ w, zo_le w n ↔ K w ∧ zo_sat (i + 1) T o w := by
  intro w
  rw [q w, SA w, zo_sat_succ hi, and_assoc]
theorem zo_SAn {z f at0 ln lt : Nat → Int} {i k : Int} (SA : ∀ w, zo_le w f ↔ (zo_le w z ∧ ∀ m : Int, 0 ≤ m → m < i → zo_sat (ln (6 * m + at0 m.toNat).toNat) lt (6 * (6 * m + at0 m.toNat)) w) ∧ zo_sat k lt (6 * (6 * i + at0 i.toNat)) w) (hk : k = ln (6 * i + at0 i.toNat).toNat) (hi : 0 ≤ i) : ∀ w, zo_le w f ↔ zo_le w z ∧ ∀ m : Int, 0 ≤ m → m < i + 1 → zo_sat (ln (6 * m + at0 m.toNat).toNat) lt (6 * (6 * m + at0 m.toNat)) w := by
  subst hk
  intro w
  rw [SA w, and_assoc]
  exact and_congr_right fun _ => ⟨fun h => z_snoc h.1 h.2, fun h => ⟨fun m h0 h1 => h m h0 (by omega), h i hi (by omega)⟩⟩
def zo_sl (ln lt at0 : Nat → Int) (w : Nat → Int) : Prop := ∀ m : Int, 0 ≤ m → m < 3 → zo_sat (ln (6 * m + at0 m.toNat).toNat) lt (6 * (6 * m + at0 m.toNat)) w
/-- what keeping a list's tests answers -/
theorem zo_GCid {z : Nat → Int} (h : zo_C z) : zo_GC (fun w => zo_le w z) z := ⟨h, zo_le.rf z, fun _ _ k => k⟩
theorem zo_keep {U V L o i n r : Int} {z f c T : Nat → Int} (hZ : zo_Z U V L z) (hUV : U + 2002 ≤ V) (hV : V ≤ 24000) (SA : ∀ w, zo_le w f ↔ zo_le w z ∧ zo_sat i T o w) (hi : i = n) (htr : zo_tr n T o) (hn : 0 ≤ n ∧ n ≤ 2) (h : r = 1 ∧ zo_GC (fun w => zo_le w f) c ∨ r = 0 ∧ zo_none (fun w => zo_le w f)) : r = 1 ∧ zo_GC (fun w => zo_le w z ∧ zo_sat n T o w) c ∧ zo_Z U V (L + 4006) c ∨ r = 0 ∧ zo_none (fun w => zo_le w z ∧ zo_sat n T o w) := by
  subst hi
  rcases h with ⟨h1, h2⟩ | ⟨h1, h2⟩
  · have g := h2.iff (fun w _ => SA w)
    refine Or.inl ⟨h1, g, ?_⟩
    have t := zo_GC.tests (T := T) (o := o) (zo_le.dc z) (zo_GCid hZ.1) hZ hUV (by omega) i.toNat (by rw [show ((i.toNat : Nat) : Int) = i by omega]; exact htr)
    rw [show ((i.toNat : Nat) : Int) = i by omega] at t
    rcases t with ⟨d, g2, z2⟩ | t
    · exact (z2.congr (fun k hk => g2.uniq g k hk)).mono (Int.le_refl _) (Int.le_refl _) (by omega)
    · exact absurd g.2.1 (t c g.1)
  · exact Or.inr ⟨h1, h2.iff (fun w _ => SA w)⟩
theorem zo_keepL {U V L i r : Int} {z f c at0 ln lt : Nat → Int} (hZ : zo_Z U V L z) (hUV : U + 2002 ≤ V) (hV : V ≤ 24000) (SA : ∀ w, zo_le w f ↔ zo_le w z ∧ ∀ m : Int, 0 ≤ m → m < i → zo_sat (ln (6 * m + at0 m.toNat).toNat) lt (6 * (6 * m + at0 m.toNat)) w) (hi : i = 3) (hlr : ∀ k : Int, 0 ≤ k → k < 18 → zo_tr (ln k.toNat) lt (6 * k)) (ha : ∀ j, 0 ≤ at0 j ∧ at0 j ≤ 5) (hn : ∀ j, 0 ≤ ln j ∧ ln j ≤ 2) (h : r = 1 ∧ zo_GC (fun w => zo_le w f) c ∨ r = 0 ∧ zo_none (fun w => zo_le w f)) : r = 1 ∧ zo_GC (fun w => zo_le w z ∧ zo_sl ln lt at0 w) c ∧ zo_Z U V (L + 12018) c ∨ r = 0 ∧ zo_none (fun w => zo_le w z ∧ zo_sl ln lt at0 w) := by
  subst hi
  rcases h with ⟨h1, h2⟩ | ⟨h1, h2⟩
  · have g := h2.iff (fun w _ => SA w)
    refine Or.inl ⟨h1, g, ?_⟩
    have step : ∀ (K : (Nat → Int) → Prop) (d : Nat → Int) (L' : Int) (m : Int), zo_dc K → zo_GC K d → zo_Z U V L' d → 0 ≤ m → m < 3 → (∃ d', zo_GC (fun w => K w ∧ zo_sat (ln (6 * m + at0 m.toNat).toNat) lt (6 * (6 * m + at0 m.toNat)) w) d' ∧ zo_Z U V (L' + 4006) d') ∨ zo_none (fun w => K w ∧ zo_sat (ln (6 * m + at0 m.toNat).toNat) lt (6 * (6 * m + at0 m.toNat)) w) := by
      intro K d L' m hK hd hz h0 h1
      have a := ha m.toNat
      have n := hn (6 * m + at0 m.toNat).toNat
      have tr := hlr (6 * m + at0 m.toNat) (by omega) (by omega)
      have t := zo_GC.tests (T := lt) (o := 6 * (6 * m + at0 m.toNat)) hK hd hz hUV (by omega) (ln (6 * m + at0 m.toNat).toNat).toNat (by rw [show (((ln (6 * m + at0 m.toNat).toNat).toNat : Nat) : Int) = ln (6 * m + at0 m.toNat).toNat by omega]; exact tr)
      rw [show (((ln (6 * m + at0 m.toNat).toNat).toNat : Nat) : Int) = ln (6 * m + at0 m.toNat).toNat by omega] at t
      rcases t with ⟨d', g2, z2⟩ | t
      · exact Or.inl ⟨d', g2, z2.mono (Int.le_refl _) (Int.le_refl _) (by omega)⟩
      · exact Or.inr t
    have tr : ∀ m : Int, 0 ≤ m → m < 3 → zo_dc (zo_sat (ln (6 * m + at0 m.toNat).toNat) lt (6 * (6 * m + at0 m.toNat))) := fun m h0 h1 => zo_sat.dc (hlr _ (by have := ha m.toNat; omega) (by have := ha m.toNat; omega))
    have G := g.2.1
    rcases step _ z L 0 (zo_le.dc z) (zo_GCid hZ.1) hZ (by omega) (by omega) with ⟨d1, g1, z1⟩ | t
    · rcases step _ d1 _ 1 ((zo_le.dc z).and (tr 0 (by omega) (by omega))) g1 z1 (by omega) (by omega) with ⟨d2, g2, z2⟩ | t
      · rcases step _ d2 _ 2 (((zo_le.dc z).and (tr 0 (by omega) (by omega))).and (tr 1 (by omega) (by omega))) g2 z2 (by omega) (by omega) with ⟨d3, g3, z3⟩ | t
        · have g3' := g3.iff (K' := fun w => zo_le w z ∧ ∀ m : Int, 0 ≤ m → m < 3 → zo_sat (ln (6 * m + at0 m.toNat).toNat) lt (6 * (6 * m + at0 m.toNat)) w) (fun w _ => ⟨fun k => ⟨k.1.1.1, fun m h0 h1 => by
            rcases (show m = 0 ∨ m = 1 ∨ m = 2 by omega) with rfl | rfl | rfl
            · exact k.1.1.2
            · exact k.1.2
            · exact k.2⟩, fun k => ⟨⟨⟨k.1, k.2 0 (by omega) (by omega)⟩, k.2 1 (by omega) (by omega)⟩, k.2 2 (by omega) (by omega)⟩⟩)
          exact (z3.congr (fun k hk => g3'.uniq g k hk)).mono (Int.le_refl _) (Int.le_refl _) (by omega)
        · exact absurd ⟨⟨⟨G.1, G.2 0 (by omega) (by omega)⟩, G.2 1 (by omega) (by omega)⟩, G.2 2 (by omega) (by omega)⟩ (t c g.1)
      · exact absurd ⟨⟨G.1, G.2 0 (by omega) (by omega)⟩, G.2 1 (by omega) (by omega)⟩ (t c g.1)
    · exact absurd ⟨G.1, G.2 0 (by omega) (by omega)⟩ (t c g.1)
  · exact Or.inr ⟨h1, h2.iff (fun w _ => SA w)⟩
set_option maxRecDepth 20000 in
theorem cx_X11_sum (l : Launch) {D : va_G} {A : Nat → Prop} {ad : Nat → Nat} {ks : z_Ks} {N : Nat} {S : Nat → va_E} {Y : Nat → Option va_E} (a b : Int) (ha : -300000000 ≤ a ∧ a ≤ 100000) (hb : -300000000 ≤ b ∧ b ≤ 100000) : z_Met l yX11_sum cX11_sum 2 (some .int) 0 0 0 0 D A N ad ks [z_v a, z_v b] S Y (fun r S' Y' => S' = S ∧ Y = Y' ∧ ∃ z : Int, r = some (z_v z) ∧ (z = zo_sum a b)) := by
  refine z_start2 (by decide) (Nat.le_of_ble_eq_true rfl) ?_
  intro p e R s m args below meth c Q C hRf hRc hRs hRl hQ hrt hnm
  refine z_loc (L' := [(0, z_v a), (1, z_v b)]) [0, 1] rfl ?_
  refine z_iloadn C 0 dX11_sum_0 rfl rfl ?_
  refine z_ldc (n := 100000) C kc_11_113 (by decide) dX11_sum_1 ?_
  refine z_icmp_eq (t := 12) C dX11_sum_3 (by decide) (by omega) (by omega) (fun c1 => ?_) (fun c1 => ?_)
  · skip
    refine z_ldc (n := 100000) C kc_11_113 (by decide) dX11_sum_12 ?_
    rw [hQ]
    exact z_iret C hrt dX11_sum_14 (⟨rfl, rfl, _, rfl, by unfold zo_sum; rw [if_pos (by omega)]⟩) (by omega) (by omega)
  · skip
    refine z_iloadn C 1 dX11_sum_6 rfl rfl ?_
    refine z_ldc (n := 100000) C kc_11_113 (by decide) dX11_sum_7 ?_
    refine z_icmp_ne (t := 15) C dX11_sum_9 (by decide) (by omega) (by omega) (fun c2 => ?_) (fun c2 => ?_)
    · skip
      refine z_iconst C dX11_sum_15 ?_
      refine z_iloadn C 0 dX11_sum_16 rfl rfl ?_
      refine z_iconst C dX11_sum_17 ?_
      obtain ⟨b3, hb3, rb3⟩ := z_bits (z_i a >>> (z_i 1 &&& 31))
      refine z_ishr C hb3 dX11_sum_18 ?_
      have qb3 := z_bitsE hb3 rb3
      have hs18 : b3 = a / 2 := by rw [← qb3]; exact zo_shr (by omega)
      refine z_iloadn C 1 dX11_sum_19 rfl rfl ?_
      refine z_iconst C dX11_sum_20 ?_
      obtain ⟨b4, hb4, rb4⟩ := z_bits (z_i b >>> (z_i 1 &&& 31))
      refine z_ishr C hb4 dX11_sum_21 ?_
      have qb4 := z_bitsE hb4 rb4
      have hs21 : b4 = b / 2 := by rw [← qb4]; exact zo_shr (by omega)
      refine z_iadd C dX11_sum_22 ?_
      refine z_imul C dX11_sum_23 ?_
      refine z_iloadn C 0 dX11_sum_24 rfl rfl ?_
      refine z_iloadn C 1 dX11_sum_25 rfl rfl ?_
      obtain ⟨b5, hb5, rb5⟩ := z_bits (z_i a &&& z_i b)
      refine z_iand C hb5 dX11_sum_26 ?_
      have qb5 := z_bitsE hb5 rb5
      refine z_iconst C dX11_sum_27 ?_
      obtain ⟨b6, hb6, rb6⟩ := z_bits (z_i b5 &&& z_i 1)
      refine z_iand C hb6 dX11_sum_28 ?_
      have qb6 := z_bitsE hb6 rb6
      have hs28 : b6 = min (a % 2) (b % 2) := by rw [← qb6, ← qb5]; exact zo_and3 (by omega) (by omega)
      refine z_iadd C dX11_sum_29 ?_
      rw [hQ]
      exact z_iret C hrt dX11_sum_30 (⟨rfl, rfl, _, rfl, by unfold zo_sum zo_fs; rw [if_neg (by omega)]; omega⟩) (by omega) (by omega)
    · skip
      refine z_ldc (n := 100000) C kc_11_113 (by decide) dX11_sum_12 ?_
      rw [hQ]
      exact z_iret C hrt dX11_sum_14 (⟨rfl, rfl, _, rfl, by unfold zo_sum; rw [if_pos (by omega)]⟩) (by omega) (by omega)
set_option maxRecDepth 20000 in
theorem cx_X11_close (l : Launch) {D : va_G} {A : Nat → Prop} {ad : Nat → Nat} {ks : z_Ks} {s_edges s_isNeeded s_explored s_states s_isMoved s_runs s_runTime s_runMoves : Int} {w_h : Int64} {a_machine a_from a_to a_channel a_resets a_guards a_guardOf a_limits a_limitOf a_places a_zones a_parent a_moveE a_moveF a_moves a_z a_ahead a_at a_amounts a_way a_moments a_runAt a_runClock : Nat → Int} {Y : Nat → Option va_E} (Ha_z : (∀ j, z_rg (a_z j))) (htop : zo_top a_z) (h0 : ∀ x, x < 4 → a_z (4 * x + x) = 1) (hlo : ∀ j, j < 16 → -90000 ≤ a_z j) (hbd : (∀ x, x < 4 → zo_fw 64 a_z (4 * x + x) = 1) → ∀ k, k < 4 → zo_BD k (zo_fw (16 * k) a_z)) : z_Met l yX11_close cX11_close 5 (some .boolean) 1 21 0 0 D A 24 ad ks [.ref (ad 0)] (z_zm ad ks s_edges s_isNeeded s_explored s_states s_isMoved s_runs s_runTime s_runMoves w_h a_machine a_from a_to a_channel a_resets a_guards a_guardOf a_limits a_limitOf a_places a_zones a_parent a_moveE a_moveF a_moves a_z a_ahead a_at a_amounts a_way a_moments a_runAt a_runClock) Y (fun r S' Y' => ∃ na_z : Nat → Int, S' = (z_zm ad ks s_edges s_isNeeded s_explored s_states s_isMoved s_runs s_runTime s_runMoves w_h a_machine a_from a_to a_channel a_resets a_guards a_guardOf a_limits a_limitOf a_places a_zones a_parent a_moveE a_moveF a_moves na_z a_ahead a_at a_amounts a_way a_moments a_runAt a_runClock) ∧ Y = Y' ∧ (∀ j, z_rg (na_z j)) ∧ na_z = zo_fw 64 a_z ∧ ∃ z : Int, r = some (z_v z) ∧ (z = 1 ∧ zo_GC (fun w => zo_le w a_z) na_z ∨ z = 0 ∧ zo_none (fun w => zo_le w a_z))) := by
  refine z_start2 (by decide) (Nat.le_of_ble_eq_true rfl) ?_
  intro p e R s m args below meth c Q C hRf hRc hRs hRl hQ hrt hnm
  refine z_loc (L' := [(0, .ref (ad 0))]) [0] rfl ?_
  refine z_iconst C dX11_close_0 ?_
  refine z_istoren (L' := [(1, z_v 0), (0, .ref (ad 0))]) C dX11_close_1 rfl (by decide) rfl ?_
  have L2 : ∀ (n : Nat), ∀ (i1 : Int) (fa_z : Nat → Int), ((∀ j, z_rg (fa_z j))) → (fa_z = zo_fw (16 * i1 : Int).toNat a_z) → (0 ≤ i1 ∧ i1 ≤ 4) → ((4 : Int) - i1).toNat < n → z_V p l e R s m args below meth c Q D A 24 ad 5 (z_zm ad ks s_edges s_isNeeded s_explored s_states s_isMoved s_runs s_runTime s_runMoves w_h a_machine a_from a_to a_channel a_resets a_guards a_guardOf a_limits a_limitOf a_places a_zones a_parent a_moveE a_moveF a_moves fa_z a_ahead a_at a_amounts a_way a_moments a_runAt a_runClock) Y 0 0 2 [(0, .ref (ad 0)), (1, z_v i1)] [] := by
    intro n
    induction n with
    | zero => intro i1 fa_z Hfa_z E I1 hm; exact absurd hm (Nat.not_lt_zero _)
    | succ n ih2 =>
      intro i1 fa_z Hfa_z E I1 hm
      refine z_iloadn C 1 dX11_close_2 rfl rfl ?_
      refine z_iconst C dX11_close_3 ?_
      refine z_icmp_ge (t := 104) C dX11_close_4 (by decide) (by omega) (by omega) (fun c1 => ?_) (fun c1 => ?_)
      · skip
        have E64 : fa_z = zo_fw 64 a_z := zo_eqt (s' := 64) E (by omega)
        refine z_iconst C dX11_close_104 ?_
        refine z_istoren (L' := [(1, z_v 1), (0, .ref (ad 0))]) C dX11_close_105 rfl (by decide) rfl ?_
        refine z_iconst C dX11_close_106 ?_
        refine z_istoren (L' := [(2, z_v 0), (1, z_v 1), (0, .ref (ad 0))]) C dX11_close_107 rfl (by decide) rfl ?_
        have L108 : ∀ (n : Nat), ∀ (i1 : Int) (i2 : Int), (z_K3 i1 (∀ x : Int, 0 ≤ x → x < i2 → fa_z (5 * x).toNat = 1) (∀ x, x < 4 → zo_fw 64 a_z (4 * x + x) = 1)) → (0 ≤ i2 ∧ i2 ≤ 4) → (i1 = 0 ∨ i1 = 1) → ((4 : Int) - i2).toNat < n → z_V p l e R s m args below meth c Q D A 24 ad 5 (z_zm ad ks s_edges s_isNeeded s_explored s_states s_isMoved s_runs s_runTime s_runMoves w_h a_machine a_from a_to a_channel a_resets a_guards a_guardOf a_limits a_limitOf a_places a_zones a_parent a_moveE a_moveF a_moves fa_z a_ahead a_at a_amounts a_way a_moments a_runAt a_runClock) Y 0 0 108 [(0, .ref (ad 0)), (1, z_v i1), (2, z_v i2)] [] := by
          intro n
          induction n with
          | zero => intro i1 i2 K I2 B1 hm; exact absurd hm (Nat.not_lt_zero _)
          | succ n ih108 =>
            intro i1 i2 K I2 B1 hm
            refine z_iloadn C 2 dX11_close_108 rfl rfl ?_
            refine z_iconst C dX11_close_109 ?_
            refine z_icmp_ge (t := 141) C dX11_close_110 (by decide) (by omega) (by omega) (fun c2 => ?_) (fun c2 => ?_)
            · skip
              refine z_iloadn C 1 dX11_close_141 rfl rfl ?_
              rw [hQ]
              exact z_zret C hrt (by omega) dX11_close_142 (⟨fa_z, rfl, rfl, Hfa_z, E64, _, rfl, by have hfin := K.fin (zo_dgF E64 (by omega)); rcases hfin with ⟨hf1, hf2⟩ | ⟨hf1, hf2⟩; exact Or.inl ⟨hf1, by rw [E64]; exact zo_fw_GC htop h0 hbd hf2⟩; exact Or.inr ⟨hf1, zo_fw_no htop h0 hf2⟩⟩) (by omega) (by omega)
            · skip
              refine z_iloadn C 1 dX11_close_113 rfl rfl ?_
              refine z_if_eq (t := 133) C dX11_close_114 (by decide) (by omega) (fun c3 => ?_) (fun c3 => ?_)
              · skip
                refine z_iconst C dX11_close_133 ?_
                refine z_istoren (L' := [(1, z_v 0), (0, .ref (ad 0)), (2, z_v i2)]) C dX11_close_134 rfl (by decide) rfl ?_
                refine z_iinc (L' := [(2, z_v (i2 + 1)), (1, z_v 0), (0, .ref (ad 0))]) C 2 dX11_close_135 rfl (by decide) rfl ?_
                refine z_goto (t := 108) C dX11_close_138 (by decide) ?_
                refine z_loc (L' := [(0, .ref (ad 0)), (1, z_v 0), (2, z_v (i2 + 1))]) [2, 1, 0] rfl ?_
                exact ih108 0 (i2 + 1) (by first | exact K.one (by omega) (fun a => z_snoc a (by omega)) | exact K.zero (Or.inl (by omega)) | exact K.zero (Or.inr (fun L => absurd (zo_dgI (x := i2) E64 L (by omega) (by omega)) (by omega)))) (by omega) (by omega) (by omega)
              · skip
                refine z_aloadn C 0 dX11_close_117 rfl rfl ?_
                refine z_get C 0 (by decide) rfl rfl z_it11 19 (by decide) rfl fl_11_59 rfl dX11_close_118 ?_
                refine z_iconst C dX11_close_121 ?_
                refine z_iloadn C 2 dX11_close_122 rfl rfl ?_
                refine z_imul C dX11_close_123 ?_
                refine z_iald C 16 (by decide) rfl (by decide) (by omega) (by omega) dX11_close_124 ?_
                have rx4 := Hfa_z ((5 * i2) : Int).toNat
                generalize ex4 : fa_z ((5 * i2) : Int).toNat = x4 at rx4 ⊢
                refine z_iconst C dX11_close_125 ?_
                refine z_icmp_ne (t := 133) C dX11_close_126 (by decide) (by omega) (by omega) (fun c5 => ?_) (fun c5 => ?_)
                · skip
                  refine z_iconst C dX11_close_133 ?_
                  refine z_istoren (L' := [(1, z_v 0), (0, .ref (ad 0)), (2, z_v i2)]) C dX11_close_134 rfl (by decide) rfl ?_
                  refine z_iinc (L' := [(2, z_v (i2 + 1)), (1, z_v 0), (0, .ref (ad 0))]) C 2 dX11_close_135 rfl (by decide) rfl ?_
                  refine z_goto (t := 108) C dX11_close_138 (by decide) ?_
                  refine z_loc (L' := [(0, .ref (ad 0)), (1, z_v 0), (2, z_v (i2 + 1))]) [2, 1, 0] rfl ?_
                  exact ih108 0 (i2 + 1) (by first | exact K.one (by omega) (fun a => z_snoc a (by omega)) | exact K.zero (Or.inl (by omega)) | exact K.zero (Or.inr (fun L => absurd (zo_dgI (x := i2) E64 L (by omega) (by omega)) (by omega)))) (by omega) (by omega) (by omega)
                · skip
                  refine z_iconst C dX11_close_129 ?_
                  refine z_goto (t := 134) C dX11_close_130 (by decide) ?_
                  refine z_istoren (L' := [(1, z_v 1), (0, .ref (ad 0)), (2, z_v i2)]) C dX11_close_134 rfl (by decide) rfl ?_
                  refine z_iinc (L' := [(2, z_v (i2 + 1)), (1, z_v 1), (0, .ref (ad 0))]) C 2 dX11_close_135 rfl (by decide) rfl ?_
                  refine z_goto (t := 108) C dX11_close_138 (by decide) ?_
                  refine z_loc (L' := [(0, .ref (ad 0)), (1, z_v 1), (2, z_v (i2 + 1))]) [2, 1, 0] rfl ?_
                  exact ih108 1 (i2 + 1) (by first | exact K.one (by omega) (fun a => z_snoc a (by omega)) | exact K.zero (Or.inl (by omega)) | exact K.zero (Or.inr (fun L => absurd (zo_dgI (x := i2) E64 L (by omega) (by omega)) (by omega)))) (by omega) (by omega) (by omega)
        refine z_loc (L' := [(0, .ref (ad 0)), (1, z_v 1), (2, z_v 0)]) [2, 1, 0] rfl ?_
        exact (L108 (((4 : Int) - 0).toNat + 1)) 1 0 (z_K3.ini z_vac) (by omega) (by omega) (Nat.lt_succ_self _)
      · skip
        refine z_iconst C dX11_close_7 ?_
        refine z_istoren (L' := [(2, z_v 0), (0, .ref (ad 0)), (1, z_v i1)]) C dX11_close_8 rfl (by decide) rfl ?_
        have L9 : ∀ (n : Nat), ∀ (i2 : Int) (fa_z : Nat → Int), ((∀ j, z_rg (fa_z j))) → (fa_z = zo_fw (16 * i1 + 4 * i2 : Int).toNat a_z) → (0 ≤ i2 ∧ i2 ≤ 4) → ((4 : Int) - i2).toNat < n → z_V p l e R s m args below meth c Q D A 24 ad 5 (z_zm ad ks s_edges s_isNeeded s_explored s_states s_isMoved s_runs s_runTime s_runMoves w_h a_machine a_from a_to a_channel a_resets a_guards a_guardOf a_limits a_limitOf a_places a_zones a_parent a_moveE a_moveF a_moves fa_z a_ahead a_at a_amounts a_way a_moments a_runAt a_runClock) Y 0 0 9 [(0, .ref (ad 0)), (1, z_v i1), (2, z_v i2)] [] := by
          intro n
          induction n with
          | zero => intro i2 fa_z Hfa_z E I2 hm; exact absurd hm (Nat.not_lt_zero _)
          | succ n ih9 =>
            intro i2 fa_z Hfa_z E I2 hm
            refine z_iloadn C 2 dX11_close_9 rfl rfl ?_
            refine z_iconst C dX11_close_10 ?_
            refine z_icmp_ge (t := 98) C dX11_close_11 (by decide) (by omega) (by omega) (fun c6 => ?_) (fun c6 => ?_)
            · skip
              refine z_iinc (L' := [(1, z_v (i1 + 1)), (0, .ref (ad 0)), (2, z_v i2)]) C 1 dX11_close_98 rfl (by decide) rfl ?_
              refine z_goto (t := 2) C dX11_close_101 (by decide) ?_
              refine z_loc (L' := [(0, .ref (ad 0)), (1, z_v (i1 + 1))]) [1, 0] rfl ?_
              exact ih2 (i1 + 1) fa_z Hfa_z (zo_eqt E (by omega)) (by omega) (by omega)
            · skip
              refine z_iconst C dX11_close_14 ?_
              refine z_istoren (L' := [(3, z_v 0), (0, .ref (ad 0)), (1, z_v i1), (2, z_v i2)]) C dX11_close_15 rfl (by decide) rfl ?_
              have L16 : ∀ (n : Nat), ∀ (i3 : Int) (fa_z : Nat → Int), ((∀ j, z_rg (fa_z j))) → (fa_z = zo_fw (16 * i1 + 4 * i2 + i3 : Int).toNat a_z) → (0 ≤ i3 ∧ i3 ≤ 4) → ((4 : Int) - i3).toNat < n → z_V p l e R s m args below meth c Q D A 24 ad 5 (z_zm ad ks s_edges s_isNeeded s_explored s_states s_isMoved s_runs s_runTime s_runMoves w_h a_machine a_from a_to a_channel a_resets a_guards a_guardOf a_limits a_limitOf a_places a_zones a_parent a_moveE a_moveF a_moves fa_z a_ahead a_at a_amounts a_way a_moments a_runAt a_runClock) Y 0 0 16 [(0, .ref (ad 0)), (1, z_v i1), (2, z_v i2), (3, z_v i3)] [] := by
                intro n
                induction n with
                | zero => intro i3 fa_z Hfa_z E I3 hm; exact absurd hm (Nat.not_lt_zero _)
                | succ n ih16 =>
                  intro i3 fa_z Hfa_z E I3 hm
                  have LO : ∀ j, j < 16 → -250000000 ≤ fa_z j ∧ fa_z j ≤ 100000 := fun j hj => by rw [E]; exact ⟨zo_fw_low hlo _ (by omega) j hj, htop.fw _ j hj⟩
                  refine z_iloadn C 3 dX11_close_16 rfl rfl ?_
                  refine z_iconst C dX11_close_17 ?_
                  refine z_icmp_ge (t := 92) C dX11_close_18 (by decide) (by omega) (by omega) (fun c7 => ?_) (fun c7 => ?_)
                  · skip
                    refine z_iinc (L' := [(2, z_v (i2 + 1)), (0, .ref (ad 0)), (1, z_v i1), (3, z_v i3)]) C 2 dX11_close_92 rfl (by decide) rfl ?_
                    refine z_goto (t := 9) C dX11_close_95 (by decide) ?_
                    refine z_loc (L' := [(0, .ref (ad 0)), (1, z_v i1), (2, z_v (i2 + 1))]) [1, 2, 0] rfl ?_
                    exact ih9 (i2 + 1) fa_z Hfa_z (zo_eqt E (by omega)) (by omega) (by omega)
                  · skip
                    refine z_aloadn C 0 dX11_close_21 rfl rfl ?_
                    refine z_get C 0 (by decide) rfl rfl z_it11 19 (by decide) rfl fl_11_59 rfl dX11_close_22 ?_
                    refine z_iconst C dX11_close_25 ?_
                    refine z_iloadn C 2 dX11_close_26 rfl rfl ?_
                    refine z_imul C dX11_close_27 ?_
                    refine z_iloadn C 1 dX11_close_28 rfl rfl ?_
                    refine z_iadd C dX11_close_29 ?_
                    refine z_iald C 16 (by decide) rfl (by decide) (by omega) (by omega) dX11_close_30 ?_
                    have rx8 := Hfa_z (((4 * i2) + i1) : Int).toNat
                    generalize ex8 : fa_z (((4 * i2) + i1) : Int).toNat = x8 at rx8 ⊢
                    have lx8 := LO (((4 * i2) + i1) : Int).toNat (by omega)
                    refine z_aloadn C 0 dX11_close_31 rfl rfl ?_
                    refine z_get C 0 (by decide) rfl rfl z_it11 19 (by decide) rfl fl_11_59 rfl dX11_close_32 ?_
                    refine z_iconst C dX11_close_35 ?_
                    refine z_iloadn C 1 dX11_close_36 rfl rfl ?_
                    refine z_imul C dX11_close_37 ?_
                    refine z_iloadn C 3 dX11_close_38 rfl rfl ?_
                    refine z_iadd C dX11_close_39 ?_
                    refine z_iald C 16 (by decide) rfl (by decide) (by omega) (by omega) dX11_close_40 ?_
                    have rx9 := Hfa_z (((4 * i1) + i3) : Int).toNat
                    generalize ex9 : fa_z (((4 * i1) + i3) : Int).toNat = x9 at rx9 ⊢
                    have lx9 := LO (((4 * i1) + i3) : Int).toNat (by omega)
                    refine z_callS C (cx_X11_sum l x8 x9 (by omega) (by omega)) mv_11_114 pd_X11_sum ⟨by omega, by omega⟩ ⟨by omega, by omega⟩ rfl (Nat.le_of_ble_eq_true rfl) dX11_close_41 ?_
                    rintro _ _ _ ⟨rfl, rfl, z12, rfl, hz12⟩
                    have hr41 := zo_sum_rg hz12 (by omega) (by omega)
                    refine z_istore (L' := [(4, z_v z12), (0, .ref (ad 0)), (1, z_v i1), (2, z_v i2), (3, z_v i3)]) C dX11_close_44 (by decide) rfl ?_
                    refine z_aloadn C 1 dX11_close_46 rfl rfl ?_
                    refine z_get C 0 (by decide) rfl rfl z_it11 19 (by decide) rfl fl_11_59 rfl dX11_close_47 ?_
                    refine z_iconst C dX11_close_50 ?_
                    refine z_iloadn C 3 dX11_close_51 rfl rfl ?_
                    refine z_imul C dX11_close_52 ?_
                    refine z_iloadn C 4 dX11_close_53 rfl rfl ?_
                    refine z_iadd C dX11_close_54 ?_
                    refine z_iload C 0 dX11_close_55 rfl ?_
                    refine z_aloadn C 1 dX11_close_57 rfl rfl ?_
                    refine z_get C 0 (by decide) rfl rfl z_it11 19 (by decide) rfl fl_11_59 rfl dX11_close_58 ?_
                    refine z_iconst C dX11_close_61 ?_
                    refine z_iloadn C 3 dX11_close_62 rfl rfl ?_
                    refine z_imul C dX11_close_63 ?_
                    refine z_iloadn C 4 dX11_close_64 rfl rfl ?_
                    refine z_iadd C dX11_close_65 ?_
                    refine z_iald C 16 (by decide) rfl (by decide) (by omega) (by omega) dX11_close_66 ?_
                    have rx13 := Hfa_z (((4 * i2) + i3) : Int).toNat
                    generalize ex13 : fa_z (((4 * i2) + i3) : Int).toNat = x13 at rx13 ⊢
                    have lx13 := LO (((4 * i2) + i3) : Int).toNat (by omega)
                    refine z_icmp_ge (t := 75) C dX11_close_67 (by decide) (by omega) (by omega) (fun c14 => ?_) (fun c14 => ?_)
                    · skip
                      refine z_aloadn C 1 dX11_close_75 rfl rfl ?_
                      refine z_get C 0 (by decide) rfl rfl z_it11 19 (by decide) rfl fl_11_59 rfl dX11_close_76 ?_
                      refine z_iconst C dX11_close_79 ?_
                      refine z_iloadn C 3 dX11_close_80 rfl rfl ?_
                      refine z_imul C dX11_close_81 ?_
                      refine z_iloadn C 4 dX11_close_82 rfl rfl ?_
                      refine z_iadd C dX11_close_83 ?_
                      refine z_iald C 16 (by decide) rfl (by decide) (by omega) (by omega) dX11_close_84 ?_
                      rw [ex13]
                      refine z_iast C 16 (by decide) rfl (by decide) (by omega) (by omega) dX11_close_85 ?_
                      refine z_ext (S' := (z_zm ad ks s_edges s_isNeeded s_explored s_states s_isMoved s_runs s_runTime s_runMoves w_h a_machine a_from a_to a_channel a_resets a_guards a_guardOf a_limits a_limitOf a_places a_zones a_parent a_moveE a_moveF a_moves (va_up fa_z (((4 * i2) + i3) : Int).toNat x13) a_ahead a_at a_amounts a_way a_moments a_runAt a_runClock)) upM_a_z ?_
                      have h15 : ∀ j, z_rg ((va_up fa_z (((4 * i2) + i3) : Int).toNat x13) j) := z_upP (P := fun j v => z_rg (v)) Hfa_z (by omega)
                      refine z_iinc (L' := [(3, z_v (i3 + 1)), (4, z_v z12), (0, .ref (ad 0)), (1, z_v i1), (2, z_v i2)]) C 4 dX11_close_86 rfl (by decide) rfl ?_
                      refine z_goto (t := 16) C dX11_close_89 (by decide) ?_
                      refine z_loc (L' := [(0, .ref (ad 0)), (1, z_v i1), (2, z_v i2), (3, z_v (i3 + 1))]) [2, 3, 4, 0] rfl ?_
                      exact ih16 (i3 + 1) (va_up fa_z (((4 * i2) + i3) : Int).toNat x13) h15 (zo_fw_I E (by omega) (by omega) (by omega) (by assumption) (by assumption) (by assumption) (by omega)) (by omega) (by omega)
                    · skip
                      refine z_iload C 0 dX11_close_70 rfl ?_
                      refine z_goto (t := 85) C dX11_close_72 (by decide) ?_
                      refine z_iast C 16 (by decide) rfl (by decide) (by omega) (by omega) dX11_close_85 ?_
                      refine z_ext (S' := (z_zm ad ks s_edges s_isNeeded s_explored s_states s_isMoved s_runs s_runTime s_runMoves w_h a_machine a_from a_to a_channel a_resets a_guards a_guardOf a_limits a_limitOf a_places a_zones a_parent a_moveE a_moveF a_moves (va_up fa_z (((4 * i2) + i3) : Int).toNat z12) a_ahead a_at a_amounts a_way a_moments a_runAt a_runClock)) upM_a_z ?_
                      have h16 : ∀ j, z_rg ((va_up fa_z (((4 * i2) + i3) : Int).toNat z12) j) := z_upP (P := fun j v => z_rg (v)) Hfa_z (by omega)
                      refine z_iinc (L' := [(3, z_v (i3 + 1)), (4, z_v z12), (0, .ref (ad 0)), (1, z_v i1), (2, z_v i2)]) C 4 dX11_close_86 rfl (by decide) rfl ?_
                      refine z_goto (t := 16) C dX11_close_89 (by decide) ?_
                      refine z_loc (L' := [(0, .ref (ad 0)), (1, z_v i1), (2, z_v i2), (3, z_v (i3 + 1))]) [2, 3, 4, 0] rfl ?_
                      exact ih16 (i3 + 1) (va_up fa_z (((4 * i2) + i3) : Int).toNat z12) h16 (zo_fw_I E (by omega) (by omega) (by omega) (by assumption) (by assumption) (by assumption) (by omega)) (by omega) (by omega)
              refine z_loc (L' := [(0, .ref (ad 0)), (1, z_v i1), (2, z_v i2), (3, z_v 0)]) [1, 2, 3, 0] rfl ?_
              exact (L16 (((4 : Int) - 0).toNat + 1)) 0 fa_z Hfa_z (zo_eqt E (by omega)) (by omega) (Nat.lt_succ_self _)
        refine z_loc (L' := [(0, .ref (ad 0)), (1, z_v i1), (2, z_v 0)]) [1, 2, 0] rfl ?_
        exact (L9 (((4 : Int) - 0).toNat + 1)) 0 fa_z Hfa_z (zo_eqt E (by omega)) (by omega) (Nat.lt_succ_self _)
  refine z_loc (L' := [(0, .ref (ad 0)), (1, z_v 0)]) [1, 0] rfl ?_
  exact (L2 (((4 : Int) - 0).toNat + 1)) 0 a_z Ha_z (rfl) (by omega) (Nat.lt_succ_self _)
set_option maxRecDepth 20000 in
theorem cx_X11_bind (l : Launch) {D : va_G} {A : Nat → Prop} {ad : Nat → Nat} {ks : z_Ks} {s_edges s_isNeeded s_explored s_states s_isMoved s_runs s_runTime s_runMoves : Int} {w_h : Int64} {a_machine a_from a_to a_channel a_resets a_guards a_guardOf a_limits a_limitOf a_places a_zones a_parent a_moveE a_moveF a_moves a_z a_ahead a_at a_amounts a_way a_moments a_runAt a_runClock : Nat → Int} {Y : Nat → Option va_E} (x y b : Int) (Ha_z : (∀ j, z_rg (a_z j))) (hx : 0 ≤ x ∧ x ≤ 3) (hy : 0 ≤ y ∧ y ≤ 3) (hb : z_rg b) : z_Met l yX11_bind cX11_bind 4 none 0 0 0 0 D A 24 ad ks [.ref (ad 0), z_v x, z_v y, z_v b] (z_zm ad ks s_edges s_isNeeded s_explored s_states s_isMoved s_runs s_runTime s_runMoves w_h a_machine a_from a_to a_channel a_resets a_guards a_guardOf a_limits a_limitOf a_places a_zones a_parent a_moveE a_moveF a_moves a_z a_ahead a_at a_amounts a_way a_moments a_runAt a_runClock) Y (fun r S' Y' => ∃ na_z : Nat → Int, S' = (z_zm ad ks s_edges s_isNeeded s_explored s_states s_isMoved s_runs s_runTime s_runMoves w_h a_machine a_from a_to a_channel a_resets a_guards a_guardOf a_limits a_limitOf a_places a_zones a_parent a_moveE a_moveF a_moves na_z a_ahead a_at a_amounts a_way a_moments a_runAt a_runClock) ∧ Y = Y' ∧ (∀ j, z_rg (na_z j)) ∧ na_z = va_up a_z (4 * x + y : Int).toNat (min b (a_z (4 * x + y : Int).toNat)) ∧ r = none) := by
  refine z_start2 (by decide) (Nat.le_of_ble_eq_true rfl) ?_
  intro p e R s m args below meth c Q C hRf hRc hRs hRl hQ hrt hnm
  refine z_loc (L' := [(0, .ref (ad 0)), (1, z_v x), (2, z_v y), (3, z_v b)]) [0, 1, 2, 3] rfl ?_
  refine z_aloadn C 0 dX11_bind_0 rfl rfl ?_
  refine z_get C 0 (by decide) rfl rfl z_it11 19 (by decide) rfl fl_11_59 rfl dX11_bind_1 ?_
  refine z_iconst C dX11_bind_4 ?_
  refine z_iloadn C 1 dX11_bind_5 rfl rfl ?_
  refine z_imul C dX11_bind_6 ?_
  refine z_iloadn C 2 dX11_bind_7 rfl rfl ?_
  refine z_iadd C dX11_bind_8 ?_
  refine z_iloadn C 3 dX11_bind_9 rfl rfl ?_
  refine z_aloadn C 0 dX11_bind_10 rfl rfl ?_
  refine z_get C 0 (by decide) rfl rfl z_it11 19 (by decide) rfl fl_11_59 rfl dX11_bind_11 ?_
  refine z_iconst C dX11_bind_14 ?_
  refine z_iloadn C 1 dX11_bind_15 rfl rfl ?_
  refine z_imul C dX11_bind_16 ?_
  refine z_iloadn C 2 dX11_bind_17 rfl rfl ?_
  refine z_iadd C dX11_bind_18 ?_
  refine z_iald C 16 (by decide) rfl (by decide) (by omega) (by omega) dX11_bind_19 ?_
  have rx1 := Ha_z (((4 * x) + y) : Int).toNat
  generalize ex1 : a_z (((4 * x) + y) : Int).toNat = x1 at rx1 ⊢
  refine z_icmp_ge (t := 27) C dX11_bind_20 (by decide) (by omega) (by omega) (fun c2 => ?_) (fun c2 => ?_)
  · skip
    refine z_aloadn C 0 dX11_bind_27 rfl rfl ?_
    refine z_get C 0 (by decide) rfl rfl z_it11 19 (by decide) rfl fl_11_59 rfl dX11_bind_28 ?_
    refine z_iconst C dX11_bind_31 ?_
    refine z_iloadn C 1 dX11_bind_32 rfl rfl ?_
    refine z_imul C dX11_bind_33 ?_
    refine z_iloadn C 2 dX11_bind_34 rfl rfl ?_
    refine z_iadd C dX11_bind_35 ?_
    refine z_iald C 16 (by decide) rfl (by decide) (by omega) (by omega) dX11_bind_36 ?_
    rw [ex1]
    refine z_iast C 16 (by decide) rfl (by decide) (by omega) (by omega) dX11_bind_37 ?_
    refine z_ext (S' := (z_zm ad ks s_edges s_isNeeded s_explored s_states s_isMoved s_runs s_runTime s_runMoves w_h a_machine a_from a_to a_channel a_resets a_guards a_guardOf a_limits a_limitOf a_places a_zones a_parent a_moveE a_moveF a_moves (va_up a_z (((4 * x) + y) : Int).toNat x1) a_ahead a_at a_amounts a_way a_moments a_runAt a_runClock)) upM_a_z ?_
    have h3 : ∀ j, z_rg ((va_up a_z (((4 * x) + y) : Int).toNat x1) j) := z_upP (P := fun j v => z_rg (v)) Ha_z (by omega)
    rw [hQ]
    exact z_vret C hrt dX11_bind_38 (⟨(va_up a_z (((4 * x) + y) : Int).toNat x1), rfl, rfl, h3, by congr 1; omega, rfl⟩) (by omega) (by omega)
  · skip
    refine z_iloadn C 3 dX11_bind_23 rfl rfl ?_
    refine z_goto (t := 37) C dX11_bind_24 (by decide) ?_
    refine z_iast C 16 (by decide) rfl (by decide) (by omega) (by omega) dX11_bind_37 ?_
    refine z_ext (S' := (z_zm ad ks s_edges s_isNeeded s_explored s_states s_isMoved s_runs s_runTime s_runMoves w_h a_machine a_from a_to a_channel a_resets a_guards a_guardOf a_limits a_limitOf a_places a_zones a_parent a_moveE a_moveF a_moves (va_up a_z (((4 * x) + y) : Int).toNat b) a_ahead a_at a_amounts a_way a_moments a_runAt a_runClock)) upM_a_z ?_
    have h4 : ∀ j, z_rg ((va_up a_z (((4 * x) + y) : Int).toNat b) j) := z_upP (P := fun j v => z_rg (v)) Ha_z (by omega)
    rw [hQ]
    exact z_vret C hrt dX11_bind_38 (⟨(va_up a_z (((4 * x) + y) : Int).toNat b), rfl, rfl, h4, by congr 1; omega, rfl⟩) (by omega) (by omega)
set_option maxRecDepth 20000 in
theorem cx_X11_test (l : Launch) {D : va_G} {A : Nat → Prop} {ad : Nat → Nat} {ks : z_Ks} {s_edges s_isNeeded s_explored s_states s_isMoved s_runs s_runTime s_runMoves : Int} {w_h : Int64} {a_machine a_from a_to a_channel a_resets a_guards a_guardOf a_limits a_limitOf a_places a_zones a_parent a_moveE a_moveF a_moves a_z a_ahead a_at a_amounts a_way a_moments a_runAt a_runClock : Nat → Int} {Y : Nat → Option va_E} (x so c0 : Int) (Ha_z : (∀ j, z_rg (a_z j))) (hx : 1 ≤ x ∧ x ≤ 3) (hs : 0 ≤ so ∧ so ≤ 4) (hc : 0 ≤ c0 ∧ c0 ≤ 1000) : z_Met l yX11_test cX11_test 4 none 1 23 0 0 D A 24 ad ks [.ref (ad 0), z_v x, z_v so, z_v c0] (z_zm ad ks s_edges s_isNeeded s_explored s_states s_isMoved s_runs s_runTime s_runMoves w_h a_machine a_from a_to a_channel a_resets a_guards a_guardOf a_limits a_limitOf a_places a_zones a_parent a_moveE a_moveF a_moves a_z a_ahead a_at a_amounts a_way a_moments a_runAt a_runClock) Y (fun r S' Y' => ∃ na_z : Nat → Int, S' = (z_zm ad ks s_edges s_isNeeded s_explored s_states s_isMoved s_runs s_runTime s_runMoves w_h a_machine a_from a_to a_channel a_resets a_guards a_guardOf a_limits a_limitOf a_places a_zones a_parent a_moveE a_moveF a_moves na_z a_ahead a_at a_amounts a_way a_moments a_runAt a_runClock) ∧ Y = Y' ∧ (∀ j, z_rg (na_z j)) ∧ (∀ w, zo_le w na_z ↔ zo_le w a_z ∧ zo_ts x so c0 w) ∧ (∀ U z0, 2001 ≤ U → zo_bdd U z0 a_z → zo_bdd U z0 na_z) ∧ r = none) := by
  refine z_start2 (by decide) (Nat.le_of_ble_eq_true rfl) ?_
  intro p e R s m args below meth c Q C hRf hRc hRs hRl hQ hrt hnm
  refine z_loc (L' := [(0, .ref (ad 0)), (1, z_v x), (2, z_v so), (3, z_v c0)]) [0, 1, 2, 3] rfl ?_
  refine z_iloadn C 2 dX11_test_0 rfl rfl ?_
  refine z_iconst C dX11_test_1 ?_
  refine z_icmp_ge (t := 24) C dX11_test_2 (by decide) (by omega) (by omega) (fun c1 => ?_) (fun c1 => ?_)
  · skip
    refine z_iloadn C 2 dX11_test_24 rfl rfl ?_
    refine z_iconst C dX11_test_25 ?_
    refine z_icmp_le (t := 50) C dX11_test_26 (by decide) (by omega) (by omega) (fun c2 => ?_) (fun c2 => ?_)
    · skip
      rw [hQ]
      exact z_vret C hrt dX11_test_50 (⟨a_z, rfl, rfl, Ha_z, by first | exact zo_bcf q21_0 q47_0 hx (by omega) (by omega) (by omega) | exact zo_bc q21_0 hx (by omega) (by omega) | exact zo_bf q47_0 hx (by omega) (by omega) | (exfalso; omega), by first | exact fun U z0 hU h => (h.ceil hU q21_0 hx (by omega)).floor q47_0 hx (by omega) | exact fun U z0 hU h => h.ceil hU q21_0 hx (by omega) | exact fun U z0 hU h => h.floor q47_0 hx (by omega) | (exfalso; omega), rfl⟩) (by omega) (by omega)
    · skip
      refine z_aloadn C 0 dX11_test_29 rfl rfl ?_
      refine z_iconst C dX11_test_30 ?_
      refine z_iloadn C 1 dX11_test_31 rfl rfl ?_
      refine z_bipush C dX11_test_32 (by decide) ?_
      refine z_iloadn C 3 dX11_test_34 rfl rfl ?_
      refine z_imul C dX11_test_35 ?_
      refine z_iloadn C 2 dX11_test_36 rfl rfl ?_
      refine z_iconst C dX11_test_37 ?_
      refine z_icmp_ne (t := 45) C dX11_test_38 (by decide) (by omega) (by omega) (fun c3 => ?_) (fun c3 => ?_)
      · skip
        refine z_iconst C dX11_test_45 ?_
        refine z_iadd C dX11_test_46 ?_
        refine z_callV C (cx_X11_bind l 0 x (((-2) * c0) + 1) Ha_z (by omega) (by omega) (by omega)) mv_11_118 (z_atS 0 11 (by decide) rfl rfl rfl) pd_X11_bind ⟨by omega, by omega⟩ ⟨by omega, by omega⟩ rfl (Nat.le_of_ble_eq_true rfl) dX11_test_47 ?_
        rintro _ _ _ ⟨n4, rfl, rfl, h7, q47_0, rfl⟩
        rw [hQ]
        exact z_vret C hrt dX11_test_50 (⟨n4, rfl, rfl, h7, by first | exact zo_bcf q21_0 q47_0 hx (by omega) (by omega) (by omega) | exact zo_bc q21_0 hx (by omega) (by omega) | exact zo_bf q47_0 hx (by omega) (by omega) | (exfalso; omega), by first | exact fun U z0 hU h => (h.ceil hU q21_0 hx (by omega)).floor q47_0 hx (by omega) | exact fun U z0 hU h => h.ceil hU q21_0 hx (by omega) | exact fun U z0 hU h => h.floor q47_0 hx (by omega) | (exfalso; omega), rfl⟩) (by omega) (by omega)
      · skip
        refine z_iconst C dX11_test_41 ?_
        refine z_goto (t := 46) C dX11_test_42 (by decide) ?_
        refine z_iadd C dX11_test_46 ?_
        refine z_callV C (cx_X11_bind l 0 x (((-2) * c0) + 0) Ha_z (by omega) (by omega) (by omega)) mv_11_118 (z_atS 0 11 (by decide) rfl rfl rfl) pd_X11_bind ⟨by omega, by omega⟩ ⟨by omega, by omega⟩ rfl (Nat.le_of_ble_eq_true rfl) dX11_test_47 ?_
        rintro _ _ _ ⟨n8, rfl, rfl, h11, q47_0, rfl⟩
        rw [hQ]
        exact z_vret C hrt dX11_test_50 (⟨n8, rfl, rfl, h11, by first | exact zo_bcf q21_0 q47_0 hx (by omega) (by omega) (by omega) | exact zo_bc q21_0 hx (by omega) (by omega) | exact zo_bf q47_0 hx (by omega) (by omega) | (exfalso; omega), by first | exact fun U z0 hU h => (h.ceil hU q21_0 hx (by omega)).floor q47_0 hx (by omega) | exact fun U z0 hU h => h.ceil hU q21_0 hx (by omega) | exact fun U z0 hU h => h.floor q47_0 hx (by omega) | (exfalso; omega), rfl⟩) (by omega) (by omega)
  · skip
    refine z_aloadn C 0 dX11_test_5 rfl rfl ?_
    refine z_iloadn C 1 dX11_test_6 rfl rfl ?_
    refine z_iconst C dX11_test_7 ?_
    refine z_iconst C dX11_test_8 ?_
    refine z_iloadn C 3 dX11_test_9 rfl rfl ?_
    refine z_imul C dX11_test_10 ?_
    refine z_iloadn C 2 dX11_test_11 rfl rfl ?_
    refine z_if_ne (t := 19) C dX11_test_12 (by decide) (by omega) (fun c12 => ?_) (fun c12 => ?_)
    · skip
      refine z_iconst C dX11_test_19 ?_
      refine z_iadd C dX11_test_20 ?_
      refine z_callV C (cx_X11_bind l x 0 ((2 * c0) + 1) Ha_z (by omega) (by omega) (by omega)) mv_11_118 (z_atS 0 11 (by decide) rfl rfl rfl) pd_X11_bind ⟨by omega, by omega⟩ ⟨by omega, by omega⟩ rfl (Nat.le_of_ble_eq_true rfl) dX11_test_21 ?_
      rintro _ _ _ ⟨n13, rfl, rfl, h16, q21_0, rfl⟩
      refine z_iloadn C 2 dX11_test_24 rfl rfl ?_
      refine z_iconst C dX11_test_25 ?_
      refine z_icmp_le (t := 50) C dX11_test_26 (by decide) (by omega) (by omega) (fun c17 => ?_) (fun c17 => ?_)
      · skip
        rw [hQ]
        exact z_vret C hrt dX11_test_50 (⟨n13, rfl, rfl, h16, by first | exact zo_bcf q21_0 q47_0 hx (by omega) (by omega) (by omega) | exact zo_bc q21_0 hx (by omega) (by omega) | exact zo_bf q47_0 hx (by omega) (by omega) | (exfalso; omega), by first | exact fun U z0 hU h => (h.ceil hU q21_0 hx (by omega)).floor q47_0 hx (by omega) | exact fun U z0 hU h => h.ceil hU q21_0 hx (by omega) | exact fun U z0 hU h => h.floor q47_0 hx (by omega) | (exfalso; omega), rfl⟩) (by omega) (by omega)
      · skip
        refine z_aloadn C 0 dX11_test_29 rfl rfl ?_
        refine z_iconst C dX11_test_30 ?_
        refine z_iloadn C 1 dX11_test_31 rfl rfl ?_
        refine z_bipush C dX11_test_32 (by decide) ?_
        refine z_iloadn C 3 dX11_test_34 rfl rfl ?_
        refine z_imul C dX11_test_35 ?_
        refine z_iloadn C 2 dX11_test_36 rfl rfl ?_
        refine z_iconst C dX11_test_37 ?_
        refine z_icmp_ne (t := 45) C dX11_test_38 (by decide) (by omega) (by omega) (fun c18 => ?_) (fun c18 => ?_)
        · skip
          refine z_iconst C dX11_test_45 ?_
          refine z_iadd C dX11_test_46 ?_
          refine z_callV C (cx_X11_bind l 0 x (((-2) * c0) + 1) h16 (by omega) (by omega) (by omega)) mv_11_118 (z_atS 0 11 (by decide) rfl rfl rfl) pd_X11_bind ⟨by omega, by omega⟩ ⟨by omega, by omega⟩ rfl (Nat.le_of_ble_eq_true rfl) dX11_test_47 ?_
          rintro _ _ _ ⟨n19, rfl, rfl, h22, q47_0, rfl⟩
          rw [hQ]
          exact z_vret C hrt dX11_test_50 (⟨n19, rfl, rfl, h22, by first | exact zo_bcf q21_0 q47_0 hx (by omega) (by omega) (by omega) | exact zo_bc q21_0 hx (by omega) (by omega) | exact zo_bf q47_0 hx (by omega) (by omega) | (exfalso; omega), by first | exact fun U z0 hU h => (h.ceil hU q21_0 hx (by omega)).floor q47_0 hx (by omega) | exact fun U z0 hU h => h.ceil hU q21_0 hx (by omega) | exact fun U z0 hU h => h.floor q47_0 hx (by omega) | (exfalso; omega), rfl⟩) (by omega) (by omega)
        · skip
          refine z_iconst C dX11_test_41 ?_
          refine z_goto (t := 46) C dX11_test_42 (by decide) ?_
          refine z_iadd C dX11_test_46 ?_
          refine z_callV C (cx_X11_bind l 0 x (((-2) * c0) + 0) h16 (by omega) (by omega) (by omega)) mv_11_118 (z_atS 0 11 (by decide) rfl rfl rfl) pd_X11_bind ⟨by omega, by omega⟩ ⟨by omega, by omega⟩ rfl (Nat.le_of_ble_eq_true rfl) dX11_test_47 ?_
          rintro _ _ _ ⟨n23, rfl, rfl, h26, q47_0, rfl⟩
          rw [hQ]
          exact z_vret C hrt dX11_test_50 (⟨n23, rfl, rfl, h26, by first | exact zo_bcf q21_0 q47_0 hx (by omega) (by omega) (by omega) | exact zo_bc q21_0 hx (by omega) (by omega) | exact zo_bf q47_0 hx (by omega) (by omega) | (exfalso; omega), by first | exact fun U z0 hU h => (h.ceil hU q21_0 hx (by omega)).floor q47_0 hx (by omega) | exact fun U z0 hU h => h.ceil hU q21_0 hx (by omega) | exact fun U z0 hU h => h.floor q47_0 hx (by omega) | (exfalso; omega), rfl⟩) (by omega) (by omega)
    · skip
      refine z_iconst C dX11_test_15 ?_
      refine z_goto (t := 20) C dX11_test_16 (by decide) ?_
      refine z_iadd C dX11_test_20 ?_
      refine z_callV C (cx_X11_bind l x 0 ((2 * c0) + 0) Ha_z (by omega) (by omega) (by omega)) mv_11_118 (z_atS 0 11 (by decide) rfl rfl rfl) pd_X11_bind ⟨by omega, by omega⟩ ⟨by omega, by omega⟩ rfl (Nat.le_of_ble_eq_true rfl) dX11_test_21 ?_
      rintro _ _ _ ⟨n27, rfl, rfl, h30, q21_0, rfl⟩
      refine z_iloadn C 2 dX11_test_24 rfl rfl ?_
      refine z_iconst C dX11_test_25 ?_
      refine z_icmp_le (t := 50) C dX11_test_26 (by decide) (by omega) (by omega) (fun c31 => ?_) (fun c31 => ?_)
      · skip
        rw [hQ]
        exact z_vret C hrt dX11_test_50 (⟨n27, rfl, rfl, h30, by first | exact zo_bcf q21_0 q47_0 hx (by omega) (by omega) (by omega) | exact zo_bc q21_0 hx (by omega) (by omega) | exact zo_bf q47_0 hx (by omega) (by omega) | (exfalso; omega), by first | exact fun U z0 hU h => (h.ceil hU q21_0 hx (by omega)).floor q47_0 hx (by omega) | exact fun U z0 hU h => h.ceil hU q21_0 hx (by omega) | exact fun U z0 hU h => h.floor q47_0 hx (by omega) | (exfalso; omega), rfl⟩) (by omega) (by omega)
      · skip
        refine z_aloadn C 0 dX11_test_29 rfl rfl ?_
        refine z_iconst C dX11_test_30 ?_
        refine z_iloadn C 1 dX11_test_31 rfl rfl ?_
        refine z_bipush C dX11_test_32 (by decide) ?_
        refine z_iloadn C 3 dX11_test_34 rfl rfl ?_
        refine z_imul C dX11_test_35 ?_
        refine z_iloadn C 2 dX11_test_36 rfl rfl ?_
        refine z_iconst C dX11_test_37 ?_
        refine z_icmp_ne (t := 45) C dX11_test_38 (by decide) (by omega) (by omega) (fun c32 => ?_) (fun c32 => ?_)
        · skip
          refine z_iconst C dX11_test_45 ?_
          refine z_iadd C dX11_test_46 ?_
          refine z_callV C (cx_X11_bind l 0 x (((-2) * c0) + 1) h30 (by omega) (by omega) (by omega)) mv_11_118 (z_atS 0 11 (by decide) rfl rfl rfl) pd_X11_bind ⟨by omega, by omega⟩ ⟨by omega, by omega⟩ rfl (Nat.le_of_ble_eq_true rfl) dX11_test_47 ?_
          rintro _ _ _ ⟨n33, rfl, rfl, h36, q47_0, rfl⟩
          rw [hQ]
          exact z_vret C hrt dX11_test_50 (⟨n33, rfl, rfl, h36, by first | exact zo_bcf q21_0 q47_0 hx (by omega) (by omega) (by omega) | exact zo_bc q21_0 hx (by omega) (by omega) | exact zo_bf q47_0 hx (by omega) (by omega) | (exfalso; omega), by first | exact fun U z0 hU h => (h.ceil hU q21_0 hx (by omega)).floor q47_0 hx (by omega) | exact fun U z0 hU h => h.ceil hU q21_0 hx (by omega) | exact fun U z0 hU h => h.floor q47_0 hx (by omega) | (exfalso; omega), rfl⟩) (by omega) (by omega)
        · skip
          refine z_iconst C dX11_test_41 ?_
          refine z_goto (t := 46) C dX11_test_42 (by decide) ?_
          refine z_iadd C dX11_test_46 ?_
          refine z_callV C (cx_X11_bind l 0 x (((-2) * c0) + 0) h30 (by omega) (by omega) (by omega)) mv_11_118 (z_atS 0 11 (by decide) rfl rfl rfl) pd_X11_bind ⟨by omega, by omega⟩ ⟨by omega, by omega⟩ rfl (Nat.le_of_ble_eq_true rfl) dX11_test_47 ?_
          rintro _ _ _ ⟨n37, rfl, rfl, h40, q47_0, rfl⟩
          rw [hQ]
          exact z_vret C hrt dX11_test_50 (⟨n37, rfl, rfl, h40, by first | exact zo_bcf q21_0 q47_0 hx (by omega) (by omega) (by omega) | exact zo_bc q21_0 hx (by omega) (by omega) | exact zo_bf q47_0 hx (by omega) (by omega) | (exfalso; omega), by first | exact fun U z0 hU h => (h.ceil hU q21_0 hx (by omega)).floor q47_0 hx (by omega) | exact fun U z0 hU h => h.ceil hU q21_0 hx (by omega) | exact fun U z0 hU h => h.floor q47_0 hx (by omega) | (exfalso; omega), rfl⟩) (by omega) (by omega)
set_option maxRecDepth 20000 in
theorem cx_X11_keepGuards (l : Launch) {D : va_G} {A : Nat → Prop} {ad : Nat → Nat} {ks : z_Ks} {s_edges s_isNeeded s_explored s_states s_isMoved s_runs s_runTime s_runMoves : Int} {w_h : Int64} {a_machine a_from a_to a_channel a_resets a_guards a_guardOf a_limits a_limitOf a_places a_zones a_parent a_moveE a_moveF a_moves a_z a_ahead a_at a_amounts a_way a_moments a_runAt a_runClock : Nat → Int} {Y : Nat → Option va_E} {U V L : Int} (e0 : Int) (Ha_guards : (∀ j, 0 ≤ a_guards j ∧ a_guards j ≤ 2)) (Ha_guardOf : (∀ j, (j % 3 = 0 → a_guardOf j ≤ 3) ∧ 0 ≤ a_guardOf j ∧ a_guardOf j ≤ 1000)) (Ha_z : (∀ j, z_rg (a_z j))) (he : 0 ≤ e0 ∧ e0 ≤ 19) (htr : zo_tr (a_guards e0.toNat) a_guardOf (6 * e0)) (hZ : zo_Z U V L a_z) (hUV : 2001 ≤ U ∧ U + 2002 ≤ V ∧ V ≤ 24000) (hL : 0 ≤ L ∧ L ≤ 80000) : z_Met l yX11_keepGuards cX11_keepGuards 4 (some .boolean) 2 46 0 0 D A 24 ad ks [.ref (ad 0), z_v e0] (z_zm ad ks s_edges s_isNeeded s_explored s_states s_isMoved s_runs s_runTime s_runMoves w_h a_machine a_from a_to a_channel a_resets a_guards a_guardOf a_limits a_limitOf a_places a_zones a_parent a_moveE a_moveF a_moves a_z a_ahead a_at a_amounts a_way a_moments a_runAt a_runClock) Y (fun r S' Y' => ∃ na_z : Nat → Int, S' = (z_zm ad ks s_edges s_isNeeded s_explored s_states s_isMoved s_runs s_runTime s_runMoves w_h a_machine a_from a_to a_channel a_resets a_guards a_guardOf a_limits a_limitOf a_places a_zones a_parent a_moveE a_moveF a_moves na_z a_ahead a_at a_amounts a_way a_moments a_runAt a_runClock) ∧ Y = Y' ∧ (∀ j, z_rg (na_z j)) ∧ ∃ z : Int, r = some (z_v z) ∧ (z = 1 ∧ zo_GC (fun w => zo_le w a_z ∧ zo_sat (a_guards e0.toNat) a_guardOf (6 * e0) w) na_z ∧ zo_Z U V (L + 4006) na_z ∨ z = 0 ∧ zo_none (fun w => zo_le w a_z ∧ zo_sat (a_guards e0.toNat) a_guardOf (6 * e0) w))) := by
  refine z_start2 (by decide) (Nat.le_of_ble_eq_true rfl) ?_
  intro p e R s m args below meth c Q C hRf hRc hRs hRl hQ hrt hnm
  refine z_loc (L' := [(0, .ref (ad 0)), (1, z_v e0)]) [0, 1] rfl ?_
  refine z_iconst C dX11_keepGuards_0 ?_
  refine z_istoren (L' := [(2, z_v 0), (0, .ref (ad 0)), (1, z_v e0)]) C dX11_keepGuards_1 rfl (by decide) rfl ?_
  have L2 : ∀ (n : Nat), ∀ (i2 : Int) (fa_z : Nat → Int), ((∀ j, z_rg (fa_z j))) → (i2 ≤ a_guards e0.toNat) → (∀ w, zo_le w fa_z ↔ zo_le w a_z ∧ zo_sat i2 a_guardOf (6 * e0) w) → (zo_bdd V a_z fa_z) → (0 ≤ i2 ∧ i2 ≤ 2) → ((2 : Int) - i2).toNat < n → z_V p l e R s m args below meth c Q D A 24 ad 4 (z_zm ad ks s_edges s_isNeeded s_explored s_states s_isMoved s_runs s_runTime s_runMoves w_h a_machine a_from a_to a_channel a_resets a_guards a_guardOf a_limits a_limitOf a_places a_zones a_parent a_moveE a_moveF a_moves fa_z a_ahead a_at a_amounts a_way a_moments a_runAt a_runClock) Y 0 0 2 [(0, .ref (ad 0)), (1, z_v e0), (2, z_v i2)] [] := by
    intro n
    induction n with
    | zero => intro i2 fa_z Hfa_z J2 SA BB I2 hm; exact absurd hm (Nat.not_lt_zero _)
    | succ n ih2 =>
      intro i2 fa_z Hfa_z J2 SA BB I2 hm
      refine z_iloadn C 2 dX11_keepGuards_2 rfl rfl ?_
      refine z_aloadn C 0 dX11_keepGuards_3 rfl rfl ?_
      refine z_get C 0 (by decide) rfl rfl z_it11 6 (by decide) rfl fl_11_25 rfl dX11_keepGuards_4 ?_
      refine z_iloadn C 1 dX11_keepGuards_7 rfl rfl ?_
      refine z_iald C 6 (by decide) rfl (by decide) (by omega) (by omega) dX11_keepGuards_8 ?_
      have rx1 := Ha_guards (e0 : Int).toNat
      generalize ex1 : a_guards (e0 : Int).toNat = x1 at rx1 ⊢
      refine z_icmp_ge (t := 53) C dX11_keepGuards_9 (by decide) (by omega) (by omega) (fun c2 => ?_) (fun c2 => ?_)
      · skip
        refine z_aloadn C 0 dX11_keepGuards_53 rfl rfl ?_
        refine z_callV C (cx_X11_close l Hfa_z (BB.top hZ.1) BB.2.2.2.2.1 BB.2.2.2.2.2 (BB.BD hZ.1 (hZ.up (by omega)) (by omega) (by omega))) mv_11_125 (z_atS 0 11 (by decide) rfl rfl rfl) pd_X11_close ⟨by omega, by omega⟩ ⟨by omega, by omega⟩ rfl (Nat.le_of_ble_eq_true rfl) dX11_keepGuards_54 ?_
        rintro _ _ _ ⟨n3, rfl, rfl, h6, q54_0, z7, rfl, hz7⟩
        have hcl := hz7
        rw [hQ]
        exact z_zret C hrt (by omega) dX11_keepGuards_57 (⟨n3, rfl, rfl, h6, _, rfl, zo_keep hZ (by omega) (by omega) SA (by omega) htr (by have := Ha_guards e0.toNat; omega) hcl⟩) (by omega) (by omega)
      · skip
        refine z_bipush C dX11_keepGuards_12 (by decide) ?_
        refine z_iloadn C 1 dX11_keepGuards_14 rfl rfl ?_
        refine z_imul C dX11_keepGuards_15 ?_
        refine z_iconst C dX11_keepGuards_16 ?_
        refine z_iloadn C 2 dX11_keepGuards_17 rfl rfl ?_
        refine z_imul C dX11_keepGuards_18 ?_
        refine z_iadd C dX11_keepGuards_19 ?_
        refine z_istoren (L' := [(3, z_v ((6 * e0) + (3 * i2))), (0, .ref (ad 0)), (1, z_v e0), (2, z_v i2)]) C dX11_keepGuards_20 rfl (by decide) rfl ?_
        have htj := htr i2 (by omega) (by omega)
        refine z_aloadn C 1 dX11_keepGuards_21 rfl rfl ?_
        refine z_aloadn C 1 dX11_keepGuards_22 rfl rfl ?_
        refine z_get C 0 (by decide) rfl rfl z_it11 7 (by decide) rfl fl_11_28 rfl dX11_keepGuards_23 ?_
        refine z_iloadn C 0 dX11_keepGuards_26 rfl rfl ?_
        refine z_iald C 7 (by decide) rfl (by decide) (by omega) (by omega) dX11_keepGuards_27 ?_
        have rx8 := Ha_guardOf (((6 * e0) + (3 * i2)) : Int).toNat
        generalize ex8 : a_guardOf (((6 * e0) + (3 * i2)) : Int).toNat = x8 at rx8 ⊢
        refine z_aloadn C 1 dX11_keepGuards_28 rfl rfl ?_
        refine z_get C 0 (by decide) rfl rfl z_it11 7 (by decide) rfl fl_11_28 rfl dX11_keepGuards_29 ?_
        refine z_iloadn C 0 dX11_keepGuards_32 rfl rfl ?_
        refine z_iconst C dX11_keepGuards_33 ?_
        refine z_iadd C dX11_keepGuards_34 ?_
        refine z_iald C 7 (by decide) rfl (by decide) (by omega) (by omega) dX11_keepGuards_35 ?_
        have rx9 := Ha_guardOf ((((6 * e0) + (3 * i2)) + 1) : Int).toNat
        generalize ex9 : a_guardOf ((((6 * e0) + (3 * i2)) + 1) : Int).toNat = x9 at rx9 ⊢
        refine z_aloadn C 1 dX11_keepGuards_36 rfl rfl ?_
        refine z_get C 0 (by decide) rfl rfl z_it11 7 (by decide) rfl fl_11_28 rfl dX11_keepGuards_37 ?_
        refine z_iloadn C 0 dX11_keepGuards_40 rfl rfl ?_
        refine z_iconst C dX11_keepGuards_41 ?_
        refine z_iadd C dX11_keepGuards_42 ?_
        refine z_iald C 7 (by decide) rfl (by decide) (by omega) (by omega) dX11_keepGuards_43 ?_
        have rx10 := Ha_guardOf ((((6 * e0) + (3 * i2)) + 2) : Int).toNat
        generalize ex10 : a_guardOf ((((6 * e0) + (3 * i2)) + 2) : Int).toNat = x10 at rx10 ⊢
        refine z_callV C (cx_X11_test l x8 x9 x10 Hfa_z (by omega) (by omega) (by omega)) mv_11_122 (z_atS 0 11 (by decide) rfl rfl rfl) pd_X11_test ⟨by omega, by omega⟩ ⟨by omega, by omega⟩ rfl (Nat.le_of_ble_eq_true rfl) dX11_keepGuards_44 ?_
        rintro _ _ _ ⟨n11, rfl, rfl, h14, q44_0, q44_1, rfl⟩
        refine z_iinc (L' := [(2, z_v (i2 + 1)), (3, z_v ((6 * e0) + (3 * i2))), (0, .ref (ad 0)), (1, z_v e0)]) C 3 dX11_keepGuards_47 rfl (by decide) rfl ?_
        refine z_goto (t := 2) C dX11_keepGuards_50 (by decide) ?_
        refine z_loc (L' := [(0, .ref (ad 0)), (1, z_v e0), (2, z_v (i2 + 1))]) [2, 3, 0] rfl ?_
        exact ih2 (i2 + 1) n11 h14 (by omega) (by subst_vars; exact zo_SAs SA q44_0 (by omega)) (q44_1 V a_z (by omega) BB) (by omega) (by omega)
  refine z_loc (L' := [(0, .ref (ad 0)), (1, z_v e0), (2, z_v 0)]) [1, 2, 0] rfl ?_
  exact (L2 (((2 : Int) - 0).toNat + 1)) 0 a_z Ha_z (by have hj2 := Ha_guards e0.toNat; omega) (fun w => ⟨fun h => ⟨h, zo_sat_0 (by omega)⟩, fun h => h.1⟩) (hZ.bdd (by omega) (by omega)) (by omega) (Nat.lt_succ_self _)
set_option maxRecDepth 20000 in
theorem cx_X11_keepLimits (l : Launch) {D : va_G} {A : Nat → Prop} {ad : Nat → Nat} {ks : z_Ks} {s_edges s_isNeeded s_explored s_states s_isMoved s_runs s_runTime s_runMoves : Int} {w_h : Int64} {a_machine a_from a_to a_channel a_resets a_guards a_guardOf a_limits a_limitOf a_places a_zones a_parent a_moveE a_moveF a_moves a_z a_ahead a_at a_amounts a_way a_moments a_runAt a_runClock : Nat → Int} {Y : Nat → Option va_E} {U V L : Int} (Ha_at : (∀ j, 0 ≤ a_at j ∧ a_at j ≤ 5)) (Ha_limits : (∀ j, 0 ≤ a_limits j ∧ a_limits j ≤ 2)) (Ha_limitOf : (∀ j, (j % 3 = 0 → a_limitOf j ≤ 3) ∧ 0 ≤ a_limitOf j ∧ a_limitOf j ≤ 1000)) (Ha_z : (∀ j, z_rg (a_z j))) (hlr : ∀ k : Int, 0 ≤ k → k < 18 → zo_tr (a_limits k.toNat) a_limitOf (6 * k)) (hZ : zo_Z U V L a_z) (hUV : 2001 ≤ U ∧ U + 2002 ≤ V ∧ V ≤ 24000) (hL : 0 ≤ L ∧ L ≤ 80000) : z_Met l yX11_keepLimits cX11_keepLimits 5 (some .boolean) 2 46 0 0 D A 24 ad ks [.ref (ad 0)] (z_zm ad ks s_edges s_isNeeded s_explored s_states s_isMoved s_runs s_runTime s_runMoves w_h a_machine a_from a_to a_channel a_resets a_guards a_guardOf a_limits a_limitOf a_places a_zones a_parent a_moveE a_moveF a_moves a_z a_ahead a_at a_amounts a_way a_moments a_runAt a_runClock) Y (fun r S' Y' => ∃ na_z : Nat → Int, S' = (z_zm ad ks s_edges s_isNeeded s_explored s_states s_isMoved s_runs s_runTime s_runMoves w_h a_machine a_from a_to a_channel a_resets a_guards a_guardOf a_limits a_limitOf a_places a_zones a_parent a_moveE a_moveF a_moves na_z a_ahead a_at a_amounts a_way a_moments a_runAt a_runClock) ∧ Y = Y' ∧ (∀ j, z_rg (na_z j)) ∧ ∃ z : Int, r = some (z_v z) ∧ (z = 1 ∧ zo_GC (fun w => zo_le w a_z ∧ zo_sl a_limits a_limitOf a_at w) na_z ∧ zo_Z U V (L + 12018) na_z ∨ z = 0 ∧ zo_none (fun w => zo_le w a_z ∧ zo_sl a_limits a_limitOf a_at w))) := by
  refine z_start2 (by decide) (Nat.le_of_ble_eq_true rfl) ?_
  intro p e R s m args below meth c Q C hRf hRc hRs hRl hQ hrt hnm
  refine z_loc (L' := [(0, .ref (ad 0))]) [0] rfl ?_
  refine z_iconst C dX11_keepLimits_0 ?_
  refine z_istoren (L' := [(1, z_v 0), (0, .ref (ad 0))]) C dX11_keepLimits_1 rfl (by decide) rfl ?_
  have L2 : ∀ (n : Nat), ∀ (i1 : Int) (fa_z : Nat → Int), ((∀ j, z_rg (fa_z j))) → (∀ w, zo_le w fa_z ↔ zo_le w a_z ∧ ∀ m : Int, 0 ≤ m → m < i1 → zo_sat (a_limits (6 * m + a_at m.toNat).toNat) a_limitOf (6 * (6 * m + a_at m.toNat)) w) → (zo_bdd V a_z fa_z) → (0 ≤ i1 ∧ i1 ≤ 3) → ((3 : Int) - i1).toNat < n → z_V p l e R s m args below meth c Q D A 24 ad 5 (z_zm ad ks s_edges s_isNeeded s_explored s_states s_isMoved s_runs s_runTime s_runMoves w_h a_machine a_from a_to a_channel a_resets a_guards a_guardOf a_limits a_limitOf a_places a_zones a_parent a_moveE a_moveF a_moves fa_z a_ahead a_at a_amounts a_way a_moments a_runAt a_runClock) Y 0 0 2 [(0, .ref (ad 0)), (1, z_v i1)] [] := by
    intro n
    induction n with
    | zero => intro i1 fa_z Hfa_z SA BB I1 hm; exact absurd hm (Nat.not_lt_zero _)
    | succ n ih2 =>
      intro i1 fa_z Hfa_z SA BB I1 hm
      refine z_iloadn C 1 dX11_keepLimits_2 rfl rfl ?_
      refine z_iconst C dX11_keepLimits_3 ?_
      refine z_icmp_ge (t := 82) C dX11_keepLimits_4 (by decide) (by omega) (by omega) (fun c1 => ?_) (fun c1 => ?_)
      · skip
        refine z_aloadn C 0 dX11_keepLimits_82 rfl rfl ?_
        refine z_callV C (cx_X11_close l Hfa_z (BB.top hZ.1) BB.2.2.2.2.1 BB.2.2.2.2.2 (BB.BD hZ.1 (hZ.up (by omega)) (by omega) (by omega))) mv_11_125 (z_atS 0 11 (by decide) rfl rfl rfl) pd_X11_close ⟨by omega, by omega⟩ ⟨by omega, by omega⟩ rfl (Nat.le_of_ble_eq_true rfl) dX11_keepLimits_83 ?_
        rintro _ _ _ ⟨n2, rfl, rfl, h5, q83_0, z6, rfl, hz6⟩
        have hcl := hz6
        rw [hQ]
        exact z_zret C hrt (by omega) dX11_keepLimits_86 (⟨n2, rfl, rfl, h5, _, rfl, zo_keepL hZ (by omega) (by omega) SA (by omega) hlr Ha_at Ha_limits hcl⟩) (by omega) (by omega)
      · skip
        refine z_bipush C dX11_keepLimits_7 (by decide) ?_
        refine z_iloadn C 1 dX11_keepLimits_9 rfl rfl ?_
        refine z_imul C dX11_keepLimits_10 ?_
        refine z_aloadn C 0 dX11_keepLimits_11 rfl rfl ?_
        refine z_get C 0 (by decide) rfl rfl z_it11 21 (by decide) rfl fl_11_65 rfl dX11_keepLimits_12 ?_
        refine z_iloadn C 1 dX11_keepLimits_15 rfl rfl ?_
        refine z_iald C 18 (by decide) rfl (by decide) (by omega) (by omega) dX11_keepLimits_16 ?_
        have rx7 := Ha_at (i1 : Int).toNat
        generalize ex7 : a_at (i1 : Int).toNat = x7 at rx7 ⊢
        have e16 := ex7
        refine z_iadd C dX11_keepLimits_17 ?_
        refine z_istoren (L' := [(2, z_v ((6 * i1) + x7)), (0, .ref (ad 0)), (1, z_v i1)]) C dX11_keepLimits_18 rfl (by decide) rfl ?_
        refine z_iconst C dX11_keepLimits_19 ?_
        refine z_istoren (L' := [(3, z_v 0), (2, z_v ((6 * i1) + x7)), (0, .ref (ad 0)), (1, z_v i1)]) C dX11_keepLimits_20 rfl (by decide) rfl ?_
        have L21 : ∀ (n : Nat), ∀ (i3 : Int) (fa_z : Nat → Int), ((∀ j, z_rg (fa_z j))) → (i3 ≤ a_limits (6 * i1 + a_at (i1 : Int).toNat).toNat) → (∀ w, zo_le w fa_z ↔ (zo_le w a_z ∧ ∀ m : Int, 0 ≤ m → m < i1 → zo_sat (a_limits (6 * m + a_at m.toNat).toNat) a_limitOf (6 * (6 * m + a_at m.toNat)) w) ∧ zo_sat i3 a_limitOf (6 * (6 * i1 + a_at (i1 : Int).toNat)) w) → (zo_bdd V a_z fa_z) → (0 ≤ i3 ∧ i3 ≤ 2) → ((2 : Int) - i3).toNat < n → z_V p l e R s m args below meth c Q D A 24 ad 5 (z_zm ad ks s_edges s_isNeeded s_explored s_states s_isMoved s_runs s_runTime s_runMoves w_h a_machine a_from a_to a_channel a_resets a_guards a_guardOf a_limits a_limitOf a_places a_zones a_parent a_moveE a_moveF a_moves fa_z a_ahead a_at a_amounts a_way a_moments a_runAt a_runClock) Y 0 0 21 [(0, .ref (ad 0)), (1, z_v i1), (2, z_v ((6 * i1) + x7)), (3, z_v i3)] [] := by
          intro n
          induction n with
          | zero => intro i3 fa_z Hfa_z J3 SA BB I3 hm; exact absurd hm (Nat.not_lt_zero _)
          | succ n ih21 =>
            intro i3 fa_z Hfa_z J3 SA BB I3 hm
            refine z_iloadn C 3 dX11_keepLimits_21 rfl rfl ?_
            refine z_aloadn C 0 dX11_keepLimits_22 rfl rfl ?_
            refine z_get C 0 (by decide) rfl rfl z_it11 8 (by decide) rfl fl_11_31 rfl dX11_keepLimits_23 ?_
            refine z_iloadn C 2 dX11_keepLimits_26 rfl rfl ?_
            refine z_iald C 8 (by decide) rfl (by decide) (by omega) (by omega) dX11_keepLimits_27 ?_
            have rx8 := Ha_limits (((6 * i1) + x7) : Int).toNat
            generalize ex8 : a_limits (((6 * i1) + x7) : Int).toNat = x8 at rx8 ⊢
            refine z_icmp_ge (t := 76) C dX11_keepLimits_28 (by decide) (by omega) (by omega) (fun c9 => ?_) (fun c9 => ?_)
            · skip
              refine z_iinc (L' := [(1, z_v (i1 + 1)), (0, .ref (ad 0)), (2, z_v ((6 * i1) + x7)), (3, z_v i3)]) C 1 dX11_keepLimits_76 rfl (by decide) rfl ?_
              refine z_goto (t := 2) C dX11_keepLimits_79 (by decide) ?_
              refine z_loc (L' := [(0, .ref (ad 0)), (1, z_v (i1 + 1))]) [1, 0] rfl ?_
              exact ih2 (i1 + 1) fa_z Hfa_z (by subst_vars; exact zo_SAn SA (by omega) (by omega)) (BB) (by omega) (by omega)
            · skip
              refine z_bipush C dX11_keepLimits_31 (by decide) ?_
              refine z_iloadn C 2 dX11_keepLimits_33 rfl rfl ?_
              refine z_imul C dX11_keepLimits_34 ?_
              refine z_iconst C dX11_keepLimits_35 ?_
              refine z_iloadn C 3 dX11_keepLimits_36 rfl rfl ?_
              refine z_imul C dX11_keepLimits_37 ?_
              refine z_iadd C dX11_keepLimits_38 ?_
              refine z_istore (L' := [(4, z_v ((6 * ((6 * i1) + x7)) + (3 * i3))), (0, .ref (ad 0)), (1, z_v i1), (2, z_v ((6 * i1) + x7)), (3, z_v i3)]) C dX11_keepLimits_39 (by decide) rfl ?_
              have htj := hlr (6 * i1 + a_at (i1 : Int).toNat) (by omega) (by omega) i3 (by omega) (by subst_vars; omega)
              rw [e16] at htj
              refine z_aloadn C 1 dX11_keepLimits_41 rfl rfl ?_
              refine z_aloadn C 1 dX11_keepLimits_42 rfl rfl ?_
              refine z_get C 0 (by decide) rfl rfl z_it11 9 (by decide) rfl fl_11_34 rfl dX11_keepLimits_43 ?_
              refine z_iload C 0 dX11_keepLimits_46 rfl ?_
              refine z_iald C 9 (by decide) rfl (by decide) (by omega) (by omega) dX11_keepLimits_48 ?_
              have rx10 := Ha_limitOf (((6 * ((6 * i1) + x7)) + (3 * i3)) : Int).toNat
              generalize ex10 : a_limitOf (((6 * ((6 * i1) + x7)) + (3 * i3)) : Int).toNat = x10 at rx10 ⊢
              refine z_aloadn C 1 dX11_keepLimits_49 rfl rfl ?_
              refine z_get C 0 (by decide) rfl rfl z_it11 9 (by decide) rfl fl_11_34 rfl dX11_keepLimits_50 ?_
              refine z_iload C 0 dX11_keepLimits_53 rfl ?_
              refine z_iconst C dX11_keepLimits_55 ?_
              refine z_iadd C dX11_keepLimits_56 ?_
              refine z_iald C 9 (by decide) rfl (by decide) (by omega) (by omega) dX11_keepLimits_57 ?_
              have rx11 := Ha_limitOf ((((6 * ((6 * i1) + x7)) + (3 * i3)) + 1) : Int).toNat
              generalize ex11 : a_limitOf ((((6 * ((6 * i1) + x7)) + (3 * i3)) + 1) : Int).toNat = x11 at rx11 ⊢
              refine z_aloadn C 1 dX11_keepLimits_58 rfl rfl ?_
              refine z_get C 0 (by decide) rfl rfl z_it11 9 (by decide) rfl fl_11_34 rfl dX11_keepLimits_59 ?_
              refine z_iload C 0 dX11_keepLimits_62 rfl ?_
              refine z_iconst C dX11_keepLimits_64 ?_
              refine z_iadd C dX11_keepLimits_65 ?_
              refine z_iald C 9 (by decide) rfl (by decide) (by omega) (by omega) dX11_keepLimits_66 ?_
              have rx12 := Ha_limitOf ((((6 * ((6 * i1) + x7)) + (3 * i3)) + 2) : Int).toNat
              generalize ex12 : a_limitOf ((((6 * ((6 * i1) + x7)) + (3 * i3)) + 2) : Int).toNat = x12 at rx12 ⊢
              refine z_callV C (cx_X11_test l x10 x11 x12 Hfa_z (by omega) (by omega) (by omega)) mv_11_122 (z_atS 0 11 (by decide) rfl rfl rfl) pd_X11_test ⟨by omega, by omega⟩ ⟨by omega, by omega⟩ rfl (Nat.le_of_ble_eq_true rfl) dX11_keepLimits_67 ?_
              rintro _ _ _ ⟨n13, rfl, rfl, h16, q67_0, q67_1, rfl⟩
              refine z_iinc (L' := [(3, z_v (i3 + 1)), (4, z_v ((6 * ((6 * i1) + x7)) + (3 * i3))), (0, .ref (ad 0)), (1, z_v i1), (2, z_v ((6 * i1) + x7))]) C 4 dX11_keepLimits_70 rfl (by decide) rfl ?_
              refine z_goto (t := 21) C dX11_keepLimits_73 (by decide) ?_
              refine z_loc (L' := [(0, .ref (ad 0)), (1, z_v i1), (2, z_v ((6 * i1) + x7)), (3, z_v (i3 + 1))]) [2, 3, 4, 0] rfl ?_
              exact ih21 (i3 + 1) n13 h16 (by subst_vars; omega) (by subst_vars; exact zo_SAs SA q67_0 (by omega)) (q67_1 V a_z (by omega) BB) (by omega) (by omega)
        refine z_loc (L' := [(0, .ref (ad 0)), (1, z_v i1), (2, z_v ((6 * i1) + x7)), (3, z_v 0)]) [2, 3, 1, 0] rfl ?_
        exact (L21 (((2 : Int) - 0).toNat + 1)) 0 fa_z Hfa_z (by have hj3 := Ha_limits (6 * i1 + a_at (i1 : Int).toNat).toNat; omega) (fun w => by rw [SA w]; exact ⟨fun h => ⟨h, zo_sat_0 (by omega)⟩, fun h => h.1⟩) (BB) (by omega) (Nat.lt_succ_self _)
  refine z_loc (L' := [(0, .ref (ad 0)), (1, z_v 0)]) [1, 0] rfl ?_
  exact (L2 (((3 : Int) - 0).toNat + 1)) 0 a_z Ha_z (fun w => ⟨fun h => ⟨h, z_vac⟩, fun h => h.1⟩) (hZ.bdd (by omega) (by omega)) (by omega) (Nat.lt_succ_self _)
