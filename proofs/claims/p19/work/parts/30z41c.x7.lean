theorem z_TX.tr {ks : z_Ks} {Y : Nat → Option va_E} {q t : Nat} {n o : Int} {T : Nat → Int} (h : z_TX ks Y q t n T o) : zo_tr n T o := by
  intro j h0 h1
  obtain ⟨_, _, g, w, b⟩ := h
  obtain ⟨x, c, s, m, _, _, ⟨e1, e2, e3⟩, r⟩ := b j h0 h1
  rw [e1, e2, e3]
  omega
theorem zo_no {r U V L : Int} {K K2 : (Nat → Int) → Prop} {c : Nat → Int} (h : (r = 1 ∧ zo_GC K c ∧ zo_Z U V L c) ∨ (r = 0 ∧ zo_none K)) (hr : r = 0) (e : ∀ w, K2 w → K w) : zo_none K2 := h.elim (fun q => by omega) (fun q => q.2.and (fun w _ => e w))
section ZG
variable {A : (Nat → Int) → Prop} {T n : Nat → Int} {o i c s m b b' N : Int}
def zo_tq (T : Nat → Int) (o i c s m : Int) : Prop := (T (o + 3 * i).toNat = c ∧ T (o + 3 * i + 1).toNat = s ∧ T (o + 3 * i + 2).toNat = m) ∧ (1 ≤ c ∧ c ≤ 3) ∧ (0 ≤ s ∧ s ≤ 4) ∧ 0 ≤ m ∧ m ≤ 1000
theorem zo_tq.ts (h : zo_tq T o i c s m) (w : Nat → Int) : zo_ts (T (o + 3 * i).toNat) (T (o + 3 * i + 1).toNat) (T (o + 3 * i + 2).toNat) w ↔ (s ≤ 2 → w (4 * c.toNat) ≤ 2 * m + (if s = 0 then 0 else 1)) ∧ (2 ≤ s → w c.toNat ≤ -2 * m + (if s = 4 then 0 else 1)) := by rw [h.1.1, h.1.2.1, h.1.2.2]; exact Iff.rfl
theorem zo_G1 (g : zo_GC (fun w => (A w ∧ zo_sat i T o w) ∧ w (4 * c.toNat) ≤ b) n) (t : zo_tq T o i c s m) (hi : 0 ≤ i) (hs : s ≤ 1) (hb : (s = 0 → b = 2 * m) ∧ (s ≠ 0 → b = 2 * m + 1)) : zo_GC (fun w => A w ∧ zo_sat (i + 1) T o w) n := g.iff (fun w _ => by
  rw [zo_sat_succ hi, t.ts w, show 2 * m + (if s = 0 then (0 : Int) else 1) = b by split <;> omega, and_assoc]
  exact ⟨fun k => ⟨k.1, k.2.1, fun _ => k.2.2, fun q => absurd q (by omega)⟩, fun k => ⟨k.1, k.2.1, k.2.2.1 (by omega)⟩⟩)
theorem zo_G2 (g : zo_GC (fun w => ((A w ∧ zo_sat i T o w) ∧ w (4 * c.toNat) ≤ b) ∧ w c.toNat ≤ b') n) (t : zo_tq T o i c s m) (hi : 0 ≤ i) (hs : s = 2) (hb : b = 2 * m + 1) (hb' : b' = -2 * m + 1) : zo_GC (fun w => A w ∧ zo_sat (i + 1) T o w) n := g.iff (fun w _ => by
  rw [zo_sat_succ hi, t.ts w, show 2 * m + (if s = 0 then (0 : Int) else 1) = b by split <;> omega, show -2 * m + (if s = 4 then (0 : Int) else 1) = b' by split <;> omega]
  exact ⟨fun k => ⟨k.1.1.1, k.1.1.2, fun _ => k.1.2, fun _ => k.2⟩, fun k => ⟨⟨⟨k.1, k.2.1⟩, k.2.2.1 (by omega)⟩, k.2.2.2 (by omega)⟩⟩)
theorem zo_G3 (g : zo_GC (fun w => (A w ∧ zo_sat i T o w) ∧ w c.toNat ≤ b) n) (t : zo_tq T o i c s m) (hi : 0 ≤ i) (hs : 3 ≤ s) (hb : (s = 4 → b = -2 * m) ∧ (s ≠ 4 → b = -2 * m + 1)) : zo_GC (fun w => A w ∧ zo_sat (i + 1) T o w) n := g.iff (fun w _ => by
  rw [zo_sat_succ hi, t.ts w, show -2 * m + (if s = 4 then (0 : Int) else 1) = b by split <;> omega, and_assoc]
  exact ⟨fun k => ⟨k.1, k.2.1, fun q => absurd q (by omega), fun _ => k.2.2⟩, fun k => ⟨k.1, k.2.1, k.2.2.2 (by omega)⟩⟩)
theorem zo_H1 (t : zo_tq T o i c s m) (hi : 0 ≤ i) (hn : i < N) (hs : s ≤ 2) (hb : (s = 0 → b = 2 * m) ∧ (s ≠ 0 → b = 2 * m + 1)) : ∀ w, (A w ∧ zo_sat N T o w) → (A w ∧ zo_sat i T o w) ∧ w (4 * c.toNat) ≤ b := fun w k => ⟨⟨k.1, fun j h0 h1 => k.2 j h0 (by omega)⟩, by
  have q := ((t.ts w).mp (k.2 i hi hn)).1 hs
  rw [show 2 * m + (if s = 0 then (0 : Int) else 1) = b by split <;> omega] at q
  exact q⟩
theorem zo_H3 (t : zo_tq T o i c s m) (hi : 0 ≤ i) (hn : i < N) (hs : 2 ≤ s) (hb : (s = 4 → b = -2 * m) ∧ (s ≠ 4 → b = -2 * m + 1)) : ∀ w, (A w ∧ zo_sat N T o w) → (A w ∧ zo_sat i T o w) ∧ w c.toNat ≤ b := fun w k => ⟨⟨k.1, fun j h0 h1 => k.2 j h0 (by omega)⟩, by
  have q := ((t.ts w).mp (k.2 i hi hn)).2 hs
  rw [show -2 * m + (if s = 4 then (0 : Int) else 1) = b by split <;> omega] at q
  exact q⟩
theorem zo_H2 (t : zo_tq T o i c s m) (hi : 0 ≤ i) (hn : i < N) (hs : s = 2) (hb : b = 2 * m + 1) (hb' : b' = -2 * m + 1) : ∀ w, (A w ∧ zo_sat N T o w) → ((A w ∧ zo_sat i T o w) ∧ w (4 * c.toNat) ≤ b) ∧ w c.toNat ≤ b' := fun w k => ⟨zo_H1 t hi hn (by omega) (by omega) w k, (zo_H3 t hi hn (by omega) (by omega) w k).2⟩
end ZG
set_option maxRecDepth 20000 in
theorem cx_X9_sum (l : Launch) {D : va_G} {A : Nat → Prop} {ad : Nat → Nat} {ks : z_Ks} {N : Nat} {S : Nat → va_E} {Y : Nat → Option va_E} (a b : Int) (ha : -300000000 ≤ a ∧ a ≤ 100000) (hb : -300000000 ≤ b ∧ b ≤ 100000) : z_Met l yX9_sum cX9_sum 2 (some .int) 0 0 0 0 D A N ad ks [z_v a, z_v b] S Y (fun r S' Y' => S' = S ∧ Y = Y' ∧ ∃ z : Int, r = some (z_v z) ∧ (z = zo_sum a b)) := by
  refine z_start2 (by decide) (Nat.le_of_ble_eq_true rfl) ?_
  intro p e R s m args below meth c Q C hRf hRc hRs hRl hQ hrt hnm
  refine z_loc (L' := [(0, z_v a), (1, z_v b)]) [0, 1] rfl ?_
  refine z_iloadn C 0 dX9_sum_0 rfl rfl ?_
  refine z_ldc (n := 100000) C kc_9_15 (by decide) dX9_sum_1 ?_
  refine z_icmp_eq (t := 12) C dX9_sum_3 (by decide) (by omega) (by omega) (fun c1 => ?_) (fun c1 => ?_)
  · skip
    refine z_ldc (n := 100000) C kc_9_15 (by decide) dX9_sum_12 ?_
    rw [hQ]
    exact z_iret C hrt dX9_sum_14 (⟨rfl, rfl, _, rfl, by unfold zo_sum; rw [if_pos (by omega)]⟩) (by omega) (by omega)
  · skip
    refine z_iloadn C 1 dX9_sum_6 rfl rfl ?_
    refine z_ldc (n := 100000) C kc_9_15 (by decide) dX9_sum_7 ?_
    refine z_icmp_ne (t := 15) C dX9_sum_9 (by decide) (by omega) (by omega) (fun c2 => ?_) (fun c2 => ?_)
    · skip
      refine z_iloadn C 0 dX9_sum_15 rfl rfl ?_
      refine z_iloadn C 1 dX9_sum_16 rfl rfl ?_
      refine z_iadd C dX9_sum_17 ?_
      refine z_iloadn C 0 dX9_sum_18 rfl rfl ?_
      refine z_iloadn C 1 dX9_sum_19 rfl rfl ?_
      obtain ⟨b3, hb3, rb3⟩ := z_bits (z_i a ||| z_i b)
      refine z_ior C hb3 dX9_sum_20 ?_
      have qb3 := z_bitsE hb3 rb3
      refine z_iconst C dX9_sum_21 ?_
      obtain ⟨b4, hb4, rb4⟩ := z_bits (z_i b3 &&& z_i 1)
      refine z_iand C hb4 dX9_sum_22 ?_
      have qb4 := z_bitsE hb4 rb4
      have hs22 : b4 = max (a % 2) (b % 2) := by rw [← qb4, ← qb3]; exact zo_or1 (by omega) (by omega)
      refine z_isub C dX9_sum_23 ?_
      rw [hQ]
      exact z_iret C hrt dX9_sum_24 (⟨rfl, rfl, _, rfl, by unfold zo_sum zo_fs; rw [if_neg (by omega)]; omega⟩) (by omega) (by omega)
    · skip
      refine z_ldc (n := 100000) C kc_9_15 (by decide) dX9_sum_12 ?_
      rw [hQ]
      exact z_iret C hrt dX9_sum_14 (⟨rfl, rfl, _, rfl, by unfold zo_sum; rw [if_pos (by omega)]⟩) (by omega) (by omega)
set_option maxRecDepth 20000 in
theorem cx_X9_narrow (l : Launch) {D : va_G} {A : Nat → Prop} {ad : Nat → Nat} {ks : z_Ks} {s_edgeCount s_moveCount s_isNeeded s_timesDone s_size s_isGoing s_allTime s_stepCount s_gapCount : Int} {g_edges g_moves g_limits : Nat → Option Nat} {a_sfacts a_sbounds a_facts a_zone a_most a_places a_amounts a_nextPlaces a_nextAmounts a_earliest a_visited a_lastSet a_gapFrom a_gapTo a_gapLeast a_askedPlaces a_askedAmounts : Nat → Int} {Y : Nat → Option va_E} {U V L : Int} (x y b : Int) (Ha_zone : (∀ j, z_rg (a_zone j))) (hx : 0 ≤ x ∧ x ≤ 3) (hy : 0 ≤ y ∧ y ≤ 3) (hb : -2000 ≤ b ∧ b ≤ 2001) (hZ : zo_Z U V L a_zone) (hUV : U ≤ V ∧ V ≤ 24000) (hL : 0 ≤ L ∧ L ≤ 89000) : z_Met l yX9_narrow cX9_narrow 8 (some .boolean) 1 21 0 0 D A 27 ad ks [.ref (ad 10), z_v x, z_v y, z_v b] (z_zc ad ks s_edgeCount s_moveCount s_isNeeded s_timesDone s_size s_isGoing s_allTime s_stepCount s_gapCount g_edges g_moves g_limits a_sfacts a_sbounds a_facts a_zone a_most a_places a_amounts a_nextPlaces a_nextAmounts a_earliest a_visited a_lastSet a_gapFrom a_gapTo a_gapLeast a_askedPlaces a_askedAmounts) Y (fun r S' Y' => ∃ na_zone : Nat → Int, S' = (z_zc ad ks s_edgeCount s_moveCount s_isNeeded s_timesDone s_size s_isGoing s_allTime s_stepCount s_gapCount g_edges g_moves g_limits a_sfacts a_sbounds a_facts na_zone a_most a_places a_amounts a_nextPlaces a_nextAmounts a_earliest a_visited a_lastSet a_gapFrom a_gapTo a_gapLeast a_askedPlaces a_askedAmounts) ∧ Y = Y' ∧ (∀ j, z_rg (na_zone j)) ∧ ∃ z : Int, r = some (z_v z) ∧ (zo_nR a_zone na_zone x.toNat y.toNat b z)) := by
  refine z_start2 (by decide) (Nat.le_of_ble_eq_true rfl) ?_
  intro p e R s m args below meth c Q C hRf hRc hRs hRl hQ hrt hnm
  refine z_loc (L' := [(0, .ref (ad 10)), (1, z_v x), (2, z_v y), (3, z_v b)]) [0, 1, 2, 3] rfl ?_
  have ixy : 4 * x.toNat + y.toNat = (4 * x + y : Int).toNat := by omega
  have iyx : 4 * y.toNat + x.toNat = (4 * y + x : Int).toNat := by omega
  have hR : ∀ k, k < 16 → -90000 ≤ a_zone k ∧ a_zone k ≤ 100000 ∧ (a_zone k < 100000 → a_zone k ≤ 24000) := fun k hk => ⟨by have := hZ.dn k hk; omega, hZ.1.2.1 k hk, fun q => by have := hZ.up (by omega) k hk q; omega⟩
  refine z_iloadn C 3 dX9_narrow_0 rfl rfl ?_
  refine z_aloadn C 0 dX9_narrow_1 rfl rfl ?_
  refine z_get C 10 (by decide) rfl rfl z_it9 0 (by decide) rfl fl_9_9 rfl dX9_narrow_2 ?_
  refine z_iconst C dX9_narrow_5 ?_
  refine z_iloadn C 1 dX9_narrow_6 rfl rfl ?_
  refine z_imul C dX9_narrow_7 ?_
  refine z_iloadn C 2 dX9_narrow_8 rfl rfl ?_
  refine z_iadd C dX9_narrow_9 ?_
  refine z_iald C 11 (by decide) rfl (by decide) (by omega) (by omega) dX9_narrow_10 ?_
  have rx1 := Ha_zone (((4 * x) + y) : Int).toNat
  generalize ex1 : a_zone (((4 * x) + y) : Int).toNat = x1 at rx1 ⊢
  have lx1 := hR (((4 * x) + y) : Int).toNat (by omega)
  refine z_icmp_lt (t := 16) C dX9_narrow_11 (by decide) (by omega) (by omega) (fun c2 => ?_) (fun c2 => ?_)
  · skip
    refine z_iloadn C 3 dX9_narrow_16 rfl rfl ?_
    refine z_aloadn C 0 dX9_narrow_17 rfl rfl ?_
    refine z_get C 10 (by decide) rfl rfl z_it9 0 (by decide) rfl fl_9_9 rfl dX9_narrow_18 ?_
    refine z_iconst C dX9_narrow_21 ?_
    refine z_iloadn C 2 dX9_narrow_22 rfl rfl ?_
    refine z_imul C dX9_narrow_23 ?_
    refine z_iloadn C 1 dX9_narrow_24 rfl rfl ?_
    refine z_iadd C dX9_narrow_25 ?_
    refine z_iald C 11 (by decide) rfl (by decide) (by omega) (by omega) dX9_narrow_26 ?_
    have rx3 := Ha_zone (((4 * y) + x) : Int).toNat
    generalize ex3 : a_zone (((4 * y) + x) : Int).toNat = x3 at rx3 ⊢
    have lx3 := hR (((4 * y) + x) : Int).toNat (by omega)
    have e26 := ex3
    refine z_callS C (cx_X9_sum l b x3 (by omega) (by omega)) mv_9_22 pd_X9_sum ⟨by omega, by omega⟩ ⟨by omega, by omega⟩ rfl (Nat.le_of_ble_eq_true rfl) dX9_narrow_27 ?_
    rintro _ _ _ ⟨rfl, rfl, z6, rfl, hz6⟩
    have hs27 := hz6
    have hr27 := zo_sum_rg hs27 (by omega) (by omega)
    refine z_iconst C dX9_narrow_30 ?_
    refine z_icmp_ge (t := 36) C dX9_narrow_31 (by decide) (by omega) (by omega) (fun c7 => ?_) (fun c7 => ?_)
    · skip
      have hnn : a_zone (4 * y.toNat + x.toNat) < 100000 → 1 ≤ zo_fs b (a_zone (4 * y.toNat + x.toNat)) := by rw [iyx, e26]; exact zo_sum_ok hs27 (by omega) (by omega)
      refine z_iconst C dX9_narrow_36 ?_
      refine z_istore (L' := [(4, z_v 0), (0, .ref (ad 10)), (1, z_v x), (2, z_v y), (3, z_v b)]) C dX9_narrow_37 (by decide) rfl ?_
      have L39 : ∀ (n : Nat), ∀ (i4 : Int) (fa_zone : Nat → Int), ((∀ j, z_rg (fa_zone j))) → (zo_ni a_zone x.toNat y.toNat b i4 0 fa_zone) → (0 ≤ i4 ∧ i4 ≤ 4) → ((4 : Int) - i4).toNat < n → z_V p l e R s m args below meth c Q D A 27 ad 8 (z_zc ad ks s_edgeCount s_moveCount s_isNeeded s_timesDone s_size s_isGoing s_allTime s_stepCount s_gapCount g_edges g_moves g_limits a_sfacts a_sbounds a_facts fa_zone a_most a_places a_amounts a_nextPlaces a_nextAmounts a_earliest a_visited a_lastSet a_gapFrom a_gapTo a_gapLeast a_askedPlaces a_askedAmounts) Y 0 0 39 [(0, .ref (ad 10)), (1, z_v x), (2, z_v y), (3, z_v b), (4, z_v i4)] [] := by
        intro n
        induction n with
        | zero => intro i4 fa_zone Hfa_zone NI I4 hm; exact absurd hm (Nat.not_lt_zero _)
        | succ n ih39 =>
          intro i4 fa_zone Hfa_zone NI I4 hm
          refine z_iload C 4 dX9_narrow_39 rfl ?_
          refine z_iconst C dX9_narrow_41 ?_
          refine z_icmp_ge (t := 142) C dX9_narrow_42 (by decide) (by omega) (by omega) (fun c8 => ?_) (fun c8 => ?_)
          · skip
            refine z_iconst C dX9_narrow_142 ?_
            rw [hQ]
            exact z_zret C hrt (by omega) dX9_narrow_143 (⟨fa_zone, rfl, rfl, Hfa_zone, _, rfl, Or.inr (Or.inl ⟨rfl, by rw [ixy]; omega, hnn, zo_ni.fin NI (by omega)⟩)⟩) (by omega) (by omega)
          · skip
            refine z_aloadn C 0 dX9_narrow_45 rfl rfl ?_
            refine z_get C 10 (by decide) rfl rfl z_it9 0 (by decide) rfl fl_9_9 rfl dX9_narrow_46 ?_
            refine z_iconst C dX9_narrow_49 ?_
            refine z_iload C 4 dX9_narrow_50 rfl ?_
            refine z_imul C dX9_narrow_52 ?_
            refine z_iloadn C 1 dX9_narrow_53 rfl rfl ?_
            refine z_iadd C dX9_narrow_54 ?_
            refine z_iald C 11 (by decide) rfl (by decide) (by omega) (by omega) dX9_narrow_55 ?_
            have rx9 := Hfa_zone (((4 * i4) + x) : Int).toNat
            generalize ex9 : fa_zone (((4 * i4) + x) : Int).toNat = x9 at rx9 ⊢
            have e55 := ex9
            have c55 := zo_ni.col (show x = ((x.toNat : Nat) : Int) by omega) NI (by omega) (by omega)
            have lx9 := hR (((4 * i4) + x) : Int).toNat (by omega)
            refine z_iloadn C 3 dX9_narrow_56 rfl rfl ?_
            refine z_callS C (cx_X9_sum l x9 b (by omega) (by omega)) mv_9_22 pd_X9_sum ⟨by omega, by omega⟩ ⟨by omega, by omega⟩ rfl (Nat.le_of_ble_eq_true rfl) dX9_narrow_57 ?_
            rintro _ _ _ ⟨rfl, rfl, z12, rfl, hz12⟩
            have hs57 := hz12
            have hr57 := zo_sum_rg hs57 (by omega) (by omega)
            refine z_istore (L' := [(5, z_v z12), (0, .ref (ad 10)), (1, z_v x), (2, z_v y), (3, z_v b), (4, z_v i4)]) C dX9_narrow_60 (by decide) rfl ?_
            refine z_iload C 0 dX9_narrow_62 rfl ?_
            refine z_ldc (n := 100000) C kc_9_15 (by decide) dX9_narrow_64 ?_
            refine z_icmp_ne (t := 72) C dX9_narrow_66 (by decide) (by omega) (by omega) (fun c13 => ?_) (fun c13 => ?_)
            · skip
              have hf57 := zo_sum_fi hs57 (by omega) (by omega) (by omega)
              rw [← e55, c55] at hf57
              refine z_iconst C dX9_narrow_72 ?_
              refine z_istore (L' := [(6, z_v 0), (5, z_v z12), (0, .ref (ad 10)), (1, z_v x), (2, z_v y), (3, z_v b), (4, z_v i4)]) C dX9_narrow_73 (by decide) rfl ?_
              have L75 : ∀ (n : Nat), ∀ (i6 : Int) (fa_zone : Nat → Int), ((∀ j, z_rg (fa_zone j))) → (zo_ni a_zone x.toNat y.toNat b i4 i6 fa_zone) → (0 ≤ i6 ∧ i6 ≤ 4) → ((4 : Int) - i6).toNat < n → z_V p l e R s m args below meth c Q D A 27 ad 8 (z_zc ad ks s_edgeCount s_moveCount s_isNeeded s_timesDone s_size s_isGoing s_allTime s_stepCount s_gapCount g_edges g_moves g_limits a_sfacts a_sbounds a_facts fa_zone a_most a_places a_amounts a_nextPlaces a_nextAmounts a_earliest a_visited a_lastSet a_gapFrom a_gapTo a_gapLeast a_askedPlaces a_askedAmounts) Y 0 0 75 [(0, .ref (ad 10)), (1, z_v x), (2, z_v y), (3, z_v b), (4, z_v i4), (5, z_v z12), (6, z_v i6)] [] := by
                intro n
                induction n with
                | zero => intro i6 fa_zone Hfa_zone NI I6 hm; exact absurd hm (Nat.not_lt_zero _)
                | succ n ih75 =>
                  intro i6 fa_zone Hfa_zone NI I6 hm
                  refine z_iload C 6 dX9_narrow_75 rfl ?_
                  refine z_iconst C dX9_narrow_77 ?_
                  refine z_icmp_ge (t := 136) C dX9_narrow_78 (by decide) (by omega) (by omega) (fun c14 => ?_) (fun c14 => ?_)
                  · skip
                    refine z_iinc (L' := [(4, z_v (i4 + 1)), (0, .ref (ad 10)), (1, z_v x), (2, z_v y), (3, z_v b), (5, z_v z12), (6, z_v i6)]) C 4 dX9_narrow_136 rfl (by decide) rfl ?_
                    refine z_goto (t := 39) C dX9_narrow_139 (by decide) ?_
                    refine z_loc (L' := [(0, .ref (ad 10)), (1, z_v x), (2, z_v y), (3, z_v b), (4, z_v (i4 + 1))]) [1, 2, 3, 4, 0] rfl ?_
                    exact ih39 (i4 + 1) fa_zone Hfa_zone (by first | exact zo_ni.next NI (by omega) | exact zo_ni.skip (show x = ((x.toNat : Nat) : Int) by omega) NI (by omega) (by rw [← c55, e55]; exact zo_sum_op hs57 (by omega) (by omega) (by omega))) (by omega) (by omega)
                  · skip
                    refine z_iload C 5 dX9_narrow_81 rfl ?_
                    refine z_aloadn C 0 dX9_narrow_83 rfl rfl ?_
                    refine z_get C 10 (by decide) rfl rfl z_it9 0 (by decide) rfl fl_9_9 rfl dX9_narrow_84 ?_
                    refine z_iconst C dX9_narrow_87 ?_
                    refine z_iloadn C 2 dX9_narrow_88 rfl rfl ?_
                    refine z_imul C dX9_narrow_89 ?_
                    refine z_iload C 6 dX9_narrow_90 rfl ?_
                    refine z_iadd C dX9_narrow_92 ?_
                    refine z_iald C 11 (by decide) rfl (by decide) (by omega) (by omega) dX9_narrow_93 ?_
                    have rx15 := Hfa_zone (((4 * y) + i6) : Int).toNat
                    generalize ex15 : fa_zone (((4 * y) + i6) : Int).toNat = x15 at rx15 ⊢
                    have e93 := ex15
                    have c93 := zo_ni.row (show y = ((y.toNat : Nat) : Int) by omega) NI hnn (by omega) (by omega)
                    have lx15 := hR (((4 * y) + i6) : Int).toNat (by omega)
                    have g57 := zo_fs_le (a_zone (4 * i4 + x : Int).toNat) b
                    have g58 := zo_fs_ge (a_zone (4 * i4 + x : Int).toNat) b
                    have l57 := hR (4 * i4 + x : Int).toNat (by omega)
                    refine z_callS C (cx_X9_sum l z12 x15 (by omega) (by omega)) mv_9_22 pd_X9_sum ⟨by omega, by omega⟩ ⟨by omega, by omega⟩ rfl (Nat.le_of_ble_eq_true rfl) dX9_narrow_94 ?_
                    rintro _ _ _ ⟨rfl, rfl, z18, rfl, hz18⟩
                    have hs94 := hz18
                    have hr94 := zo_sum_rg hs94 (by omega) (by omega)
                    rw [← e93, c93] at hs94
                    refine z_istore (L' := [(7, z_v z18), (0, .ref (ad 10)), (1, z_v x), (2, z_v y), (3, z_v b), (4, z_v i4), (5, z_v z12), (6, z_v i6)]) C dX9_narrow_97 (by decide) rfl ?_
                    refine z_iload C 0 dX9_narrow_99 rfl ?_
                    refine z_aloadn C 1 dX9_narrow_101 rfl rfl ?_
                    refine z_get C 10 (by decide) rfl rfl z_it9 0 (by decide) rfl fl_9_9 rfl dX9_narrow_102 ?_
                    refine z_iconst C dX9_narrow_105 ?_
                    refine z_iload C 5 dX9_narrow_106 rfl ?_
                    refine z_imul C dX9_narrow_108 ?_
                    refine z_iload C 7 dX9_narrow_109 rfl ?_
                    refine z_iadd C dX9_narrow_111 ?_
                    refine z_iald C 11 (by decide) rfl (by decide) (by omega) (by omega) dX9_narrow_112 ?_
                    have rx19 := Hfa_zone (((4 * i4) + i6) : Int).toNat
                    generalize ex19 : fa_zone (((4 * i4) + i6) : Int).toNat = x19 at rx19 ⊢
                    have c112 := zo_ni.cur NI (by omega) (by omega)
                    have lx19 := hR (((4 * i4) + i6) : Int).toNat (by omega)
                    refine z_icmp_ge (t := 130) C dX9_narrow_113 (by decide) (by omega) (by omega) (fun c20 => ?_) (fun c20 => ?_)
                    · skip
                      refine z_iinc (L' := [(6, z_v (i6 + 1)), (7, z_v z18), (0, .ref (ad 10)), (1, z_v x), (2, z_v y), (3, z_v b), (4, z_v i4), (5, z_v z12)]) C 7 dX9_narrow_130 rfl (by decide) rfl ?_
                      refine z_goto (t := 75) C dX9_narrow_133 (by decide) ?_
                      refine z_loc (L' := [(0, .ref (ad 10)), (1, z_v x), (2, z_v y), (3, z_v b), (4, z_v i4), (5, z_v z12), (6, z_v (i6 + 1))]) [2, 3, 4, 5, 6, 7, 0] rfl ?_
                      exact ih75 (i6 + 1) fa_zone Hfa_zone (by first | exact zo_ni.step (show x = ((x.toNat : Nat) : Int) by omega) (show y = ((y.toNat : Nat) : Int) by omega) NI (by omega) (by omega) (by omega) (fun k hk => by have := hR k hk; omega) (by omega) (by omega) hf57.1 hf57.2 hs94 (Or.inl ⟨by omega, rfl⟩) | exact zo_ni.step (show x = ((x.toNat : Nat) : Int) by omega) (show y = ((y.toNat : Nat) : Int) by omega) NI (by omega) (by omega) (by omega) (fun k hk => by have := hR k hk; omega) (by omega) (by omega) hf57.1 hf57.2 hs94 (Or.inr ⟨by omega, rfl⟩)) (by omega) (by omega)
                    · skip
                      refine z_aloadn C 1 dX9_narrow_116 rfl rfl ?_
                      refine z_get C 10 (by decide) rfl rfl z_it9 0 (by decide) rfl fl_9_9 rfl dX9_narrow_117 ?_
                      refine z_iconst C dX9_narrow_120 ?_
                      refine z_iload C 5 dX9_narrow_121 rfl ?_
                      refine z_imul C dX9_narrow_123 ?_
                      refine z_iload C 7 dX9_narrow_124 rfl ?_
                      refine z_iadd C dX9_narrow_126 ?_
                      refine z_iload C 0 dX9_narrow_127 rfl ?_
                      refine z_iast C 11 (by decide) rfl (by decide) (by omega) (by omega) dX9_narrow_129 ?_
                      refine z_ext (S' := (z_zc ad ks s_edgeCount s_moveCount s_isNeeded s_timesDone s_size s_isGoing s_allTime s_stepCount s_gapCount g_edges g_moves g_limits a_sfacts a_sbounds a_facts (va_up fa_zone (((4 * i4) + i6) : Int).toNat z18) a_most a_places a_amounts a_nextPlaces a_nextAmounts a_earliest a_visited a_lastSet a_gapFrom a_gapTo a_gapLeast a_askedPlaces a_askedAmounts)) upC_a_zone ?_
                      have h21 : ∀ j, z_rg ((va_up fa_zone (((4 * i4) + i6) : Int).toNat z18) j) := z_upP (P := fun j v => z_rg (v)) Hfa_zone (by omega)
                      refine z_iinc (L' := [(6, z_v (i6 + 1)), (7, z_v z18), (0, .ref (ad 10)), (1, z_v x), (2, z_v y), (3, z_v b), (4, z_v i4), (5, z_v z12)]) C 7 dX9_narrow_130 rfl (by decide) rfl ?_
                      refine z_goto (t := 75) C dX9_narrow_133 (by decide) ?_
                      refine z_loc (L' := [(0, .ref (ad 10)), (1, z_v x), (2, z_v y), (3, z_v b), (4, z_v i4), (5, z_v z12), (6, z_v (i6 + 1))]) [2, 3, 4, 5, 6, 7, 0] rfl ?_
                      exact ih75 (i6 + 1) (va_up fa_zone (((4 * i4) + i6) : Int).toNat z18) h21 (by first | exact zo_ni.step (show x = ((x.toNat : Nat) : Int) by omega) (show y = ((y.toNat : Nat) : Int) by omega) NI (by omega) (by omega) (by omega) (fun k hk => by have := hR k hk; omega) (by omega) (by omega) hf57.1 hf57.2 hs94 (Or.inl ⟨by omega, rfl⟩) | exact zo_ni.step (show x = ((x.toNat : Nat) : Int) by omega) (show y = ((y.toNat : Nat) : Int) by omega) NI (by omega) (by omega) (by omega) (fun k hk => by have := hR k hk; omega) (by omega) (by omega) hf57.1 hf57.2 hs94 (Or.inr ⟨by omega, rfl⟩)) (by omega) (by omega)
              refine z_loc (L' := [(0, .ref (ad 10)), (1, z_v x), (2, z_v y), (3, z_v b), (4, z_v i4), (5, z_v z12), (6, z_v 0)]) [2, 3, 4, 5, 6, 1, 0] rfl ?_
              exact (L75 (((4 : Int) - 0).toNat + 1)) 0 fa_zone Hfa_zone (NI) (by omega) (Nat.lt_succ_self _)
            · skip
              refine z_goto (t := 136) C dX9_narrow_69 (by decide) ?_
              refine z_iinc (L' := [(4, z_v (i4 + 1)), (5, z_v z12), (0, .ref (ad 10)), (1, z_v x), (2, z_v y), (3, z_v b)]) C 5 dX9_narrow_136 rfl (by decide) rfl ?_
              refine z_goto (t := 39) C dX9_narrow_139 (by decide) ?_
              refine z_loc (L' := [(0, .ref (ad 10)), (1, z_v x), (2, z_v y), (3, z_v b), (4, z_v (i4 + 1))]) [2, 3, 4, 5, 0] rfl ?_
              exact ih39 (i4 + 1) fa_zone Hfa_zone (by first | exact zo_ni.next NI (by omega) | exact zo_ni.skip (show x = ((x.toNat : Nat) : Int) by omega) NI (by omega) (by rw [← c55, e55]; exact zo_sum_op hs57 (by omega) (by omega) (by omega))) (by omega) (by omega)
      refine z_loc (L' := [(0, .ref (ad 10)), (1, z_v x), (2, z_v y), (3, z_v b), (4, z_v 0)]) [1, 2, 3, 4, 0] rfl ?_
      exact (L39 (((4 : Int) - 0).toNat + 1)) 0 a_zone Ha_zone (zo_ni.ini) (by omega) (Nat.lt_succ_self _)
    · skip
      refine z_iconst C dX9_narrow_34 ?_
      rw [hQ]
      exact z_zret C hrt (by omega) dX9_narrow_35 (⟨a_zone, rfl, rfl, Ha_zone, _, rfl, by have hq := zo_sum_no hs27 (by omega) (by omega); exact Or.inr (Or.inr ⟨rfl, by rw [ixy]; omega, by rw [iyx, e26]; exact hq.1, by rw [iyx, e26]; exact hq.2⟩)⟩) (by omega) (by omega)
  · skip
    refine z_iconst C dX9_narrow_14 ?_
    rw [hQ]
    exact z_zret C hrt (by omega) dX9_narrow_15 (⟨a_zone, rfl, rfl, Ha_zone, _, rfl, Or.inl ⟨rfl, by rw [ixy]; omega, rfl⟩⟩) (by omega) (by omega)
set_option maxRecDepth 20000 in
theorem cx_X6_narrow (l : Launch) {D : va_G} {A : Nat → Prop} {ad : Nat → Nat} {ks : z_Ks} {s_edgeCount s_moveCount s_isNeeded s_timesDone s_size s_isGoing s_allTime s_stepCount s_gapCount : Int} {g_edges g_moves g_limits : Nat → Option Nat} {a_sfacts a_sbounds a_facts a_zone a_most a_places a_amounts a_nextPlaces a_nextAmounts a_earliest a_visited a_lastSet a_gapFrom a_gapTo a_gapLeast a_askedPlaces a_askedAmounts : Nat → Int} {Y : Nat → Option va_E} {U V L : Int} {t : Nat} {n0 o0 : Int} {T : Nat → Int} (q : Nat) (Ha_zone : (∀ j, z_rg (a_zone j))) (hq : z_TX ks Y q t n0 T o0) (hZ : zo_Z U V L a_zone) (hUV : U + 2002 ≤ V ∧ V ≤ 24000) (hL : 0 ≤ L ∧ L ≤ 80000) : z_Met l yX6_narrow cX6_narrow 4 (some .boolean) 2 48 0 0 D A 27 ad ks [.ref q, .ref (ad 10)] (z_zc ad ks s_edgeCount s_moveCount s_isNeeded s_timesDone s_size s_isGoing s_allTime s_stepCount s_gapCount g_edges g_moves g_limits a_sfacts a_sbounds a_facts a_zone a_most a_places a_amounts a_nextPlaces a_nextAmounts a_earliest a_visited a_lastSet a_gapFrom a_gapTo a_gapLeast a_askedPlaces a_askedAmounts) Y (fun r S' Y' => ∃ na_zone : Nat → Int, S' = (z_zc ad ks s_edgeCount s_moveCount s_isNeeded s_timesDone s_size s_isGoing s_allTime s_stepCount s_gapCount g_edges g_moves g_limits a_sfacts a_sbounds a_facts na_zone a_most a_places a_amounts a_nextPlaces a_nextAmounts a_earliest a_visited a_lastSet a_gapFrom a_gapTo a_gapLeast a_askedPlaces a_askedAmounts) ∧ Y = Y' ∧ (∀ j, z_rg (na_zone j)) ∧ ∃ z : Int, r = some (z_v z) ∧ (z = 1 ∧ zo_GC (fun w => zo_le w a_zone ∧ zo_sat n0 T o0 w) na_zone ∧ zo_Z U V (L + 4006) na_zone ∨ z = 0 ∧ zo_none (fun w => zo_le w a_zone ∧ zo_sat n0 T o0 w))) := by
  refine z_start2 (by decide) (Nat.le_of_ble_eq_true rfl) ?_
  intro p e R s m args below meth c Q C hRf hRc hRs hRl hQ hrt hnm
  refine z_loc (L' := [(0, .ref q), (1, .ref (ad 10))]) [0, 1] rfl ?_
  have htr : zo_tr n0 T o0 := hq.tr
  have hn0 := hq.2.1
  refine z_iconst C dX6_narrow_0 ?_
  refine z_istoren (L' := [(2, z_v 0), (0, .ref q), (1, .ref (ad 10))]) C dX6_narrow_1 rfl (by decide) rfl ?_
  have L2 : ∀ (n : Nat), ∀ (i2 : Int) (fa_zone : Nat → Int), ((∀ j, z_rg (fa_zone j))) → (i2 ≤ n0) → (zo_GC (fun w => zo_le w a_zone ∧ zo_sat i2 T o0 w) fa_zone) → (zo_Z U V (L + 2003 * i2) fa_zone) → (0 ≤ i2 ∧ i2 ≤ 2) → ((2 : Int) - i2).toNat < n → z_V p l e R s m args below meth c Q D A 27 ad 4 (z_zc ad ks s_edgeCount s_moveCount s_isNeeded s_timesDone s_size s_isGoing s_allTime s_stepCount s_gapCount g_edges g_moves g_limits a_sfacts a_sbounds a_facts fa_zone a_most a_places a_amounts a_nextPlaces a_nextAmounts a_earliest a_visited a_lastSet a_gapFrom a_gapTo a_gapLeast a_askedPlaces a_askedAmounts) Y 0 0 2 [(0, .ref q), (1, .ref (ad 10)), (2, z_v i2)] [] := by
    intro n
    induction n with
    | zero => intro i2 fa_zone Hfa_zone J2 GI ZI I2 hm; exact absurd hm (Nat.not_lt_zero _)
    | succ n ih2 =>
      intro i2 fa_zone Hfa_zone J2 GI ZI I2 hm
      refine z_iloadn C 2 dX6_narrow_2 rfl rfl ?_
      refine z_aloadn C 0 dX6_narrow_3 rfl rfl ?_
      obtain ⟨yd1, ad1, gd1, wd1, bd1⟩ := id hq
      refine z_getY C yd1 rfl z_it6 1 (by decide) rfl fl_6_17 rfl dX6_narrow_4 ?_
      refine z_icmp_ge (t := 73) C dX6_narrow_7 (by decide) (by omega) (by omega) (fun c2 => ?_) (fun c2 => ?_)
      · skip
        refine z_iconst C dX6_narrow_73 ?_
        rw [hQ]
        exact z_zret C hrt (by omega) dX6_narrow_74 (⟨fa_zone, rfl, rfl, Hfa_zone, _, rfl, Or.inl ⟨rfl, by rw [show n0 = i2 by omega]; exact GI, ZI.mono (Int.le_refl _) (Int.le_refl _) (by omega)⟩⟩) (by omega) (by omega)
      · skip
        refine z_aloadn C 0 dX6_narrow_10 rfl rfl ?_
        refine z_getY C yd1 rfl z_it6 0 (by decide) rfl fl_6_11 rfl dX6_narrow_11 ?_
        refine z_iloadn C 2 dX6_narrow_14 rfl rfl ?_
        obtain ⟨q3, cq3, sq3, nq3, eq3, yq3, ⟨ecq3, esq3, enq3⟩, rq3⟩ := bd1 i2 (by omega) (by omega)
        obtain ⟨cQ, hcQ⟩ : ∃ v : Int, v = cq3 := ⟨_, rfl⟩
        obtain ⟨sQ, hsQ⟩ : ∃ v : Int, v = sq3 := ⟨_, rfl⟩
        obtain ⟨mQ, hmQ⟩ : ∃ v : Int, v = nq3 := ⟨_, rfl⟩
        have tQ : (T (o0 + 3 * i2).toNat = cQ ∧ T (o0 + 3 * i2 + 1).toNat = sQ ∧ T (o0 + 3 * i2 + 2).toNat = mQ) ∧ (1 ≤ cQ ∧ cQ ≤ 3) ∧ (0 ≤ sQ ∧ sQ ≤ 4) ∧ 0 ≤ mQ ∧ mQ ≤ 1000 := by rw [hcQ, hsQ, hmQ]; exact ⟨⟨ecq3, esq3, enq3⟩, by omega, by omega, by omega⟩
        have dcI : zo_dc (fun w => zo_le w a_zone ∧ zo_sat i2 T o0 w) := (zo_le.dc a_zone).and (zo_sat.dc (fun j h0 h1 => htr j h0 (by omega)))
        refine z_aaldT C 4 wd1 rfl (by decide) (by omega) (by omega) eq3 dX6_narrow_15 ?_
        refine z_astoren (L' := [(3, .ref q3), (0, .ref q), (1, .ref (ad 10)), (2, z_v i2)]) C dX6_narrow_16 rfl (by decide) rfl ?_
        refine z_aloadn C 0 dX6_narrow_17 rfl rfl ?_
        refine z_callV C (cx_X5_isCeiling l q3 yq3 (by omega)) mv_6_28 (z_atY 5 yq3 rfl rfl) pd_X5_isCeiling ⟨by omega, by omega⟩ ⟨by omega, by omega⟩ rfl (Nat.le_of_ble_eq_true rfl) dX6_narrow_18 ?_
        rintro _ _ _ ⟨rfl, rfl, z6, rfl, hz6⟩
        refine z_if_eq (t := 42) C dX6_narrow_21 (by decide) (by omega) (fun c7 => ?_) (fun c7 => ?_)
        · skip
          first | (have G34 := zo_kl G34x (by omega)) | skip
          refine z_aloadn C 0 dX6_narrow_42 rfl rfl ?_
          refine z_callV C (cx_X5_isFloor l q3 yq3 (by omega)) mv_6_42 (z_atY 5 yq3 rfl rfl) pd_X5_isFloor ⟨by omega, by omega⟩ ⟨by omega, by omega⟩ rfl (Nat.le_of_ble_eq_true rfl) dX6_narrow_43 ?_
          rintro _ _ _ ⟨rfl, rfl, z10, rfl, hz10⟩
          refine z_if_eq (t := 67) C dX6_narrow_46 (by decide) (by omega) (fun c11 => ?_) (fun c11 => ?_)
          · skip
            first | (have F59 := zo_kl F59x (by omega)) | skip
            refine z_iinc (L' := [(2, z_v (i2 + 1)), (3, .ref q3), (0, .ref q), (1, .ref (ad 10))]) C 3 dX6_narrow_67 rfl (by decide) rfl ?_
            refine z_goto (t := 2) C dX6_narrow_70 (by decide) ?_
            refine z_loc (L' := [(0, .ref q), (1, .ref (ad 10)), (2, z_v (i2 + 1))]) [2, 3, 0] rfl ?_
            exact ih2 (i2 + 1) fa_zone Hfa_zone (by omega) (by first | exact zo_G2 F59.2.1 tQ (by omega) (by omega) (by omega) (by omega) | exact zo_G3 F59.2.1 tQ (by omega) (by omega) (by omega) | exact zo_G1 G34.2.1 tQ (by omega) (by omega) (by omega) | (exfalso; omega)) (by first | exact F59.2.2.mono (Int.le_refl _) (Int.le_refl _) (by omega) | exact G34.2.2.mono (Int.le_refl _) (Int.le_refl _) (by omega) | (exfalso; omega)) (by omega) (by omega)
          · skip
            refine z_aloadn C 2 dX6_narrow_49 rfl rfl ?_
            refine z_iconst C dX6_narrow_50 ?_
            refine z_aloadn C 0 dX6_narrow_51 rfl rfl ?_
            refine z_getY C yq3 rfl z_it5 0 (by decide) rfl fl_6_21 rfl dX6_narrow_52 ?_
            refine z_aloadn C 0 dX6_narrow_55 rfl rfl ?_
            refine z_callV C (cx_X5_floor l q3 yq3 (by omega)) mv_6_45 (z_atY 5 yq3 rfl rfl) pd_X5_floor ⟨by omega, by omega⟩ ⟨by omega, by omega⟩ rfl (Nat.le_of_ble_eq_true rfl) dX6_narrow_56 ?_
            rintro _ _ _ ⟨rfl, rfl, z14, rfl, hz14⟩
            obtain ⟨L9, hL9, Z59⟩ : ∃ L9 : Int, (0 ≤ L9 ∧ L9 ≤ L + 2003 * i2) ∧ zo_Z U V L9 fa_zone := by first | exact ⟨_, ⟨by omega, Int.le_refl _⟩, G34.2.2⟩ | exact ⟨_, ⟨by omega, Int.le_refl _⟩, ZI⟩
            refine z_callV C (cx_X9_narrow l 0 cq3 z14 Hfa_zone (by omega) (by omega) (by omega) Z59 (by omega) (by omega)) mv_6_36 (z_atS 10 9 (by decide) rfl rfl rfl) pd_X9_narrow ⟨by omega, by omega⟩ ⟨by omega, by omega⟩ rfl (Nat.le_of_ble_eq_true rfl) dX6_narrow_59 ?_
            rintro _ _ _ ⟨n15, rfl, rfl, h18, z19, rfl, hz19⟩
            have hn59 := hz19
            rw [← hcQ] at hn59
            have bn59 := hn59.bt
            first | (have F59x := zo_nR.floor hn59 (dcI.and (zo_bdc (by omega))) G34.2.1 Z59 (by omega) (by omega) (by omega) (by omega)) | (have F59x := zo_nR.floor hn59 dcI GI Z59 (by omega) (by omega) (by omega) (by omega))
            refine z_if_ne (t := 67) C dX6_narrow_62 (by decide) (by omega) (fun c20 => ?_) (fun c20 => ?_)
            · skip
              first | (have F59 := zo_kl F59x (by omega)) | skip
              refine z_iinc (L' := [(2, z_v (i2 + 1)), (3, .ref q3), (0, .ref q), (1, .ref (ad 10))]) C 3 dX6_narrow_67 rfl (by decide) rfl ?_
              refine z_goto (t := 2) C dX6_narrow_70 (by decide) ?_
              refine z_loc (L' := [(0, .ref q), (1, .ref (ad 10)), (2, z_v (i2 + 1))]) [2, 3, 0] rfl ?_
              exact ih2 (i2 + 1) n15 h18 (by omega) (by first | exact zo_G2 F59.2.1 tQ (by omega) (by omega) (by omega) (by omega) | exact zo_G3 F59.2.1 tQ (by omega) (by omega) (by omega) | exact zo_G1 G34.2.1 tQ (by omega) (by omega) (by omega) | (exfalso; omega)) (by first | exact F59.2.2.mono (Int.le_refl _) (Int.le_refl _) (by omega) | exact G34.2.2.mono (Int.le_refl _) (Int.le_refl _) (by omega) | (exfalso; omega)) (by omega) (by omega)
            · skip
              refine z_iconst C dX6_narrow_65 ?_
              rw [hQ]
              exact z_zret C hrt (by omega) dX6_narrow_66 (⟨n15, rfl, rfl, h18, _, rfl, by first | exact Or.inr ⟨rfl, zo_no F59x (by omega) (zo_H2 tQ (by omega) (by omega) (by omega) (by omega) (by omega))⟩ | exact Or.inr ⟨rfl, zo_no F59x (by omega) (zo_H3 tQ (by omega) (by omega) (by omega) (by omega))⟩⟩) (by omega) (by omega)
        · skip
          refine z_aloadn C 2 dX6_narrow_24 rfl rfl ?_
          refine z_aloadn C 0 dX6_narrow_25 rfl rfl ?_
          refine z_getY C yq3 rfl z_it5 0 (by decide) rfl fl_6_21 rfl dX6_narrow_26 ?_
          refine z_iconst C dX6_narrow_29 ?_
          refine z_aloadn C 0 dX6_narrow_30 rfl rfl ?_
          refine z_callV C (cx_X5_ceiling l q3 yq3 (by omega)) mv_6_32 (z_atY 5 yq3 rfl rfl) pd_X5_ceiling ⟨by omega, by omega⟩ ⟨by omega, by omega⟩ rfl (Nat.le_of_ble_eq_true rfl) dX6_narrow_31 ?_
          rintro _ _ _ ⟨rfl, rfl, z23, rfl, hz23⟩
          refine z_callV C (cx_X9_narrow l cq3 0 z23 Hfa_zone (by omega) (by omega) (by omega) ZI (by omega) (by omega)) mv_6_36 (z_atS 10 9 (by decide) rfl rfl rfl) pd_X9_narrow ⟨by omega, by omega⟩ ⟨by omega, by omega⟩ rfl (Nat.le_of_ble_eq_true rfl) dX6_narrow_34 ?_
          rintro _ _ _ ⟨n24, rfl, rfl, h27, z28, rfl, hz28⟩
          have hn34 := hz28
          rw [← hcQ] at hn34
          have bn34 := hn34.bt
          have G34x := zo_nR.ceil hn34 dcI GI ZI (by omega) (by omega) (by omega) (by omega)
          refine z_if_ne (t := 42) C dX6_narrow_37 (by decide) (by omega) (fun c29 => ?_) (fun c29 => ?_)
          · skip
            first | (have G34 := zo_kl G34x (by omega)) | skip
            refine z_aloadn C 0 dX6_narrow_42 rfl rfl ?_
            refine z_callV C (cx_X5_isFloor l q3 yq3 (by omega)) mv_6_42 (z_atY 5 yq3 rfl rfl) pd_X5_isFloor ⟨by omega, by omega⟩ ⟨by omega, by omega⟩ rfl (Nat.le_of_ble_eq_true rfl) dX6_narrow_43 ?_
            rintro _ _ _ ⟨rfl, rfl, z32, rfl, hz32⟩
            refine z_if_eq (t := 67) C dX6_narrow_46 (by decide) (by omega) (fun c33 => ?_) (fun c33 => ?_)
            · skip
              first | (have F59 := zo_kl F59x (by omega)) | skip
              refine z_iinc (L' := [(2, z_v (i2 + 1)), (3, .ref q3), (0, .ref q), (1, .ref (ad 10))]) C 3 dX6_narrow_67 rfl (by decide) rfl ?_
              refine z_goto (t := 2) C dX6_narrow_70 (by decide) ?_
              refine z_loc (L' := [(0, .ref q), (1, .ref (ad 10)), (2, z_v (i2 + 1))]) [2, 3, 0] rfl ?_
              exact ih2 (i2 + 1) n24 h27 (by omega) (by first | exact zo_G2 F59.2.1 tQ (by omega) (by omega) (by omega) (by omega) | exact zo_G3 F59.2.1 tQ (by omega) (by omega) (by omega) | exact zo_G1 G34.2.1 tQ (by omega) (by omega) (by omega) | (exfalso; omega)) (by first | exact F59.2.2.mono (Int.le_refl _) (Int.le_refl _) (by omega) | exact G34.2.2.mono (Int.le_refl _) (Int.le_refl _) (by omega) | (exfalso; omega)) (by omega) (by omega)
            · skip
              refine z_aloadn C 2 dX6_narrow_49 rfl rfl ?_
              refine z_iconst C dX6_narrow_50 ?_
              refine z_aloadn C 0 dX6_narrow_51 rfl rfl ?_
              refine z_getY C yq3 rfl z_it5 0 (by decide) rfl fl_6_21 rfl dX6_narrow_52 ?_
              refine z_aloadn C 0 dX6_narrow_55 rfl rfl ?_
              refine z_callV C (cx_X5_floor l q3 yq3 (by omega)) mv_6_45 (z_atY 5 yq3 rfl rfl) pd_X5_floor ⟨by omega, by omega⟩ ⟨by omega, by omega⟩ rfl (Nat.le_of_ble_eq_true rfl) dX6_narrow_56 ?_
              rintro _ _ _ ⟨rfl, rfl, z36, rfl, hz36⟩
              obtain ⟨L9, hL9, Z59⟩ : ∃ L9 : Int, (0 ≤ L9 ∧ L9 ≤ L + 2003 * i2) ∧ zo_Z U V L9 n24 := by first | exact ⟨_, ⟨by omega, Int.le_refl _⟩, G34.2.2⟩ | exact ⟨_, ⟨by omega, Int.le_refl _⟩, ZI⟩
              refine z_callV C (cx_X9_narrow l 0 cq3 z36 h27 (by omega) (by omega) (by omega) Z59 (by omega) (by omega)) mv_6_36 (z_atS 10 9 (by decide) rfl rfl rfl) pd_X9_narrow ⟨by omega, by omega⟩ ⟨by omega, by omega⟩ rfl (Nat.le_of_ble_eq_true rfl) dX6_narrow_59 ?_
              rintro _ _ _ ⟨n37, rfl, rfl, h40, z41, rfl, hz41⟩
              have hn59 := hz41
              rw [← hcQ] at hn59
              have bn59 := hn59.bt
              first | (have F59x := zo_nR.floor hn59 (dcI.and (zo_bdc (by omega))) G34.2.1 Z59 (by omega) (by omega) (by omega) (by omega)) | (have F59x := zo_nR.floor hn59 dcI GI Z59 (by omega) (by omega) (by omega) (by omega))
              refine z_if_ne (t := 67) C dX6_narrow_62 (by decide) (by omega) (fun c42 => ?_) (fun c42 => ?_)
              · skip
                first | (have F59 := zo_kl F59x (by omega)) | skip
                refine z_iinc (L' := [(2, z_v (i2 + 1)), (3, .ref q3), (0, .ref q), (1, .ref (ad 10))]) C 3 dX6_narrow_67 rfl (by decide) rfl ?_
                refine z_goto (t := 2) C dX6_narrow_70 (by decide) ?_
                refine z_loc (L' := [(0, .ref q), (1, .ref (ad 10)), (2, z_v (i2 + 1))]) [2, 3, 0] rfl ?_
                exact ih2 (i2 + 1) n37 h40 (by omega) (by first | exact zo_G2 F59.2.1 tQ (by omega) (by omega) (by omega) (by omega) | exact zo_G3 F59.2.1 tQ (by omega) (by omega) (by omega) | exact zo_G1 G34.2.1 tQ (by omega) (by omega) (by omega) | (exfalso; omega)) (by first | exact F59.2.2.mono (Int.le_refl _) (Int.le_refl _) (by omega) | exact G34.2.2.mono (Int.le_refl _) (Int.le_refl _) (by omega) | (exfalso; omega)) (by omega) (by omega)
              · skip
                refine z_iconst C dX6_narrow_65 ?_
                rw [hQ]
                exact z_zret C hrt (by omega) dX6_narrow_66 (⟨n37, rfl, rfl, h40, _, rfl, by first | exact Or.inr ⟨rfl, zo_no F59x (by omega) (zo_H2 tQ (by omega) (by omega) (by omega) (by omega) (by omega))⟩ | exact Or.inr ⟨rfl, zo_no F59x (by omega) (zo_H3 tQ (by omega) (by omega) (by omega) (by omega))⟩⟩) (by omega) (by omega)
          · skip
            refine z_iconst C dX6_narrow_40 ?_
            rw [hQ]
            exact z_zret C hrt (by omega) dX6_narrow_41 (⟨n24, rfl, rfl, h27, _, rfl, Or.inr ⟨rfl, zo_no G34x (by omega) (zo_H1 tQ (by omega) (by omega) (by omega) (by omega))⟩⟩) (by omega) (by omega)
  refine z_loc (L' := [(0, .ref q), (1, .ref (ad 10)), (2, z_v 0)]) [1, 2, 0] rfl ?_
  exact (L2 (((2 : Int) - 0).toNat + 1)) 0 a_zone Ha_zone (by omega) ((zo_GCid hZ.1).iff (fun w _ => ⟨fun k => ⟨k, zo_sat_0 (by omega)⟩, fun k => k.1⟩)) (hZ.mono (Int.le_refl _) (Int.le_refl _) (by omega)) (by omega) (Nat.lt_succ_self _)
