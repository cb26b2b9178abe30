theorem zo_set_fin {X : Int} {y : Int} {g f : Nat → Int} (h : zo_ri X.toNat y g f) (hy : y = 4) (hX : 1 ≤ X ∧ X < 4) (g0 : g 0 = 1) : ∀ k, k < 16 → va_up f (5 * X).toNat 1 k = zo_rs g X.toNat k := by
  rw [show (5 * X).toNat = 4 * X.toNat + X.toNat by omega]
  exact h.fin hy (by omega) g0
theorem zo_one {K : (Nat → Int) → Prop} {c : Nat → Int} {r : Int} (h : r = 1 ∧ zo_GC K c ∨ r = 0 ∧ zo_none K) (g : ∃ d, zo_C d ∧ K d) : r = 1 := by
  obtain ⟨d, h1, h2⟩ := g
  exact h.elim (fun q => q.1) (fun q => absurd h2 (q.2 d h1))
def zo_later (ln lt at0 mo z c' : Nat → Int) : Prop := ∃ c, zo_GC (fun w => zo_le w (zo_tm z) ∧ zo_sl ln lt at0 w) c ∧ zo_GC (fun w => zo_le w (zo_wd mo c)) c'
theorem zo_tmI {f z : Nat → Int} {i : Int} (FT : ∀ k, k < 16 → f k = if (k = 4 ∧ 1 < i) ∨ (k = 8 ∧ 2 < i) ∨ (k = 12 ∧ 3 < i) then 100000 else z k) (hi : 1 ≤ i ∧ i ≤ 3) : ∀ k, k < 16 → va_up f (4 * i).toNat 100000 k = if (k = 4 ∧ 1 < i + 1) ∨ (k = 8 ∧ 2 < i + 1) ∨ (k = 12 ∧ 3 < i + 1) then 100000 else z k := by
  intro k hk
  unfold va_up
  by_cases c : k = (4 * i).toNat
  · rw [if_pos c, if_pos (by omega)]
  · rw [if_neg c, FT k hk]
    by_cases q : (k = 4 ∧ 1 < i) ∨ (k = 8 ∧ 2 < i) ∨ (k = 12 ∧ 3 < i)
    · rw [if_pos q, if_pos (by omega)]
    · rw [if_neg q, if_neg (by omega)]
theorem zo_tmF {f z : Nat → Int} {i : Int} (FT : ∀ k, k < 16 → f k = if (k = 4 ∧ 1 < i) ∨ (k = 8 ∧ 2 < i) ∨ (k = 12 ∧ 3 < i) then 100000 else z k) (hi : i = 4) : ∀ k, k < 16 → f k = zo_tm z k := by
  subst hi
  intro k hk
  rw [FT k hk]
  unfold zo_tm
  have e : ((k = 4 ∧ (1 : Int) < 4) ∨ (k = 8 ∧ (2 : Int) < 4) ∨ (k = 12 ∧ (3 : Int) < 4)) ↔ (k = 4 ∨ k = 8 ∨ k = 12) := by omega
  simp only [e]
theorem zo_kl {r U V L : Int} {K : (Nat → Int) → Prop} {c : Nat → Int} (h : r = 1 ∧ zo_GC K c ∧ zo_Z U V L c ∨ r = 0 ∧ zo_none K) (hr : r ≠ 0) : r = 1 ∧ zo_GC K c ∧ zo_Z U V L c := h.elim id (fun q => absurd q.1 hr)
theorem zo_le_iff {f g : Nat → Int} (e : ∀ k, k < 16 → f k = g k) (w : Nat → Int) : zo_le w f ↔ zo_le w g := ⟨fun q k hk => by rw [← e k hk]; exact q k hk, fun q k hk => by rw [e k hk]; exact q k hk⟩
theorem zo_tmG {f z c ln lt at0 : Nat → Int} (e : ∀ k, k < 16 → f k = zo_tm z k) (h : zo_GC (fun w => zo_le w f ∧ zo_sl ln lt at0 w) c) : zo_GC (fun w => zo_le w (zo_tm z) ∧ zo_sl ln lt at0 w) c := h.iff (fun w _ => by rw [zo_le_iff e])
theorem zo_tmN {r U V L : Int} {f z c d ln lt at0 mo : Nat → Int} (e : ∀ k, k < 16 → f k = zo_tm z k) (h : r = 1 ∧ zo_GC (fun w => zo_le w f ∧ zo_sl ln lt at0 w) c ∧ zo_Z U V L c ∨ r = 0 ∧ zo_none (fun w => zo_le w f ∧ zo_sl ln lt at0 w)) (hr : r = 0) : ¬ zo_later ln lt at0 mo z d := by
  rintro ⟨b, g, _⟩
  rcases h with h | h
  · omega
  · exact h.2 b g.1 ⟨(zo_le_iff e b).mpr g.2.1.1, g.2.1.2⟩
set_option maxRecDepth 20000 in
theorem cx_X11_set (l : Launch) {D : va_G} {A : Nat → Prop} {ad : Nat → Nat} {ks : z_Ks} {s_edges s_isNeeded s_explored s_states s_isMoved s_runs s_runTime s_runMoves : Int} {w_h : Int64} {a_machine a_from a_to a_channel a_resets a_guards a_guardOf a_limits a_limitOf a_places a_zones a_parent a_moveE a_moveF a_moves a_z a_ahead a_at a_amounts a_way a_moments a_runAt a_runClock : Nat → Int} {Y : Nat → Option va_E} (se : Int) (Ha_z : (∀ j, z_rg (a_z j))) (hs : z_rg se) (h00 : a_z 0 = 1) : z_Met l yX11_set cX11_set 4 none 0 0 0 0 D A 24 ad ks [.ref (ad 0), z_v se] (z_zm ad ks s_edges s_isNeeded s_explored s_states s_isMoved s_runs s_runTime s_runMoves w_h a_machine a_from a_to a_channel a_resets a_guards a_guardOf a_limits a_limitOf a_places a_zones a_parent a_moveE a_moveF a_moves a_z a_ahead a_at a_amounts a_way a_moments a_runAt a_runClock) Y (fun r S' Y' => ∃ na_z : Nat → Int, S' = (z_zm ad ks s_edges s_isNeeded s_explored s_states s_isMoved s_runs s_runTime s_runMoves w_h a_machine a_from a_to a_channel a_resets a_guards a_guardOf a_limits a_limitOf a_places a_zones a_parent a_moveE a_moveF a_moves na_z a_ahead a_at a_amounts a_way a_moments a_runAt a_runClock) ∧ Y = Y' ∧ (∀ j, z_rg (na_z j)) ∧ (∀ k, k < 16 → na_z k = zo_set se a_z k) ∧ r = none) := by
  refine z_start2 (by decide) (Nat.le_of_ble_eq_true rfl) ?_
  intro p e R s m args below meth c Q C hRf hRc hRs hRl hQ hrt hnm
  refine z_loc (L' := [(0, .ref (ad 0)), (1, z_v se)]) [0, 1] rfl ?_
  refine z_iconst C dX11_set_0 ?_
  refine z_istoren (L' := [(2, z_v 1), (0, .ref (ad 0)), (1, z_v se)]) C dX11_set_1 rfl (by decide) rfl ?_
  have L2 : ∀ (n : Nat), ∀ (i2 : Int) (fa_z : Nat → Int), ((∀ j, z_rg (fa_z j))) → (∀ k, k < 16 → fa_z k = zo_sp i2 se a_z k) → (1 ≤ i2 ∧ i2 ≤ 4) → ((4 : Int) - i2).toNat < n → z_V p l e R s m args below meth c Q D A 24 ad 4 (z_zm ad ks s_edges s_isNeeded s_explored s_states s_isMoved s_runs s_runTime s_runMoves w_h a_machine a_from a_to a_channel a_resets a_guards a_guardOf a_limits a_limitOf a_places a_zones a_parent a_moveE a_moveF a_moves fa_z a_ahead a_at a_amounts a_way a_moments a_runAt a_runClock) Y 0 0 2 [(0, .ref (ad 0)), (1, z_v se), (2, z_v i2)] [] := by
    intro n
    induction n with
    | zero => intro i2 fa_z Hfa_z FS I2 hm; exact absurd hm (Nat.not_lt_zero _)
    | succ n ih2 =>
      intro i2 fa_z Hfa_z FS I2 hm
      refine z_iloadn C 2 dX11_set_2 rfl rfl ?_
      refine z_iconst C dX11_set_3 ?_
      refine z_icmp_ge (t := 78) C dX11_set_4 (by decide) (by omega) (by omega) (fun c1 => ?_) (fun c1 => ?_)
      · skip
        rw [hQ]
        exact z_vret C hrt dX11_set_78 (⟨fa_z, rfl, rfl, Hfa_z, by rw [← zo_sp_4 (show i2 = 4 by omega)]; exact FS, rfl⟩) (by omega) (by omega)
      · skip
        refine z_iloadn C 1 dX11_set_7 rfl rfl ?_
        refine z_iloadn C 2 dX11_set_8 rfl rfl ?_
        obtain ⟨b2, hb2, rb2⟩ := z_bits (z_i se >>> (z_i i2 &&& 31))
        refine z_ishr C hb2 dX11_set_9 ?_
        have qb2 := z_bitsE hb2 rb2
        refine z_iconst C dX11_set_10 ?_
        obtain ⟨b3, hb3, rb3⟩ := z_bits (z_i b2 &&& z_i 1)
        refine z_iand C hb3 dX11_set_11 ?_
        have qb3 := z_bitsE hb3 rb3
        have hb11 : z_btv se i2 = b3 := by rw [← qb3, ← qb2]; rfl
        refine z_iconst C dX11_set_12 ?_
        refine z_icmp_ne (t := 72) C dX11_set_13 (by decide) (by omega) (by omega) (fun c4 => ?_) (fun c4 => ?_)
        · skip
          refine z_iinc (L' := [(2, z_v (i2 + 1)), (0, .ref (ad 0)), (1, z_v se)]) C 2 dX11_set_72 rfl (by decide) rfl ?_
          refine z_goto (t := 2) C dX11_set_75 (by decide) ?_
          refine z_loc (L' := [(0, .ref (ad 0)), (1, z_v se), (2, z_v (i2 + 1))]) [1, 2, 0] rfl ?_
          exact ih2 (i2 + 1) fa_z Hfa_z (by first | exact zo_sp_no FS (by omega) hb11 (by omega) | exact zo_sp_yes FS (by omega) hb11 (by omega) (zo_set_fin FI (by omega) (by omega) ((FS 0 (by omega)).trans (zo_sp_00 h00)))) (by omega) (by omega)
        · skip
          refine z_iconst C dX11_set_16 ?_
          refine z_istoren (L' := [(3, z_v 0), (0, .ref (ad 0)), (1, z_v se), (2, z_v i2)]) C dX11_set_17 rfl (by decide) rfl ?_
          have L18 : ∀ (n : Nat), ∀ (i3 : Int) (ga_z : Nat → Int), ((∀ j, z_rg (ga_z j))) → (zo_ri (i2 : Int).toNat i3 fa_z ga_z) → (0 ≤ i3 ∧ i3 ≤ 4) → ((4 : Int) - i3).toNat < n → z_V p l e R s m args below meth c Q D A 24 ad 4 (z_zm ad ks s_edges s_isNeeded s_explored s_states s_isMoved s_runs s_runTime s_runMoves w_h a_machine a_from a_to a_channel a_resets a_guards a_guardOf a_limits a_limitOf a_places a_zones a_parent a_moveE a_moveF a_moves ga_z a_ahead a_at a_amounts a_way a_moments a_runAt a_runClock) Y 0 0 18 [(0, .ref (ad 0)), (1, z_v se), (2, z_v i2), (3, z_v i3)] [] := by
            intro n
            induction n with
            | zero => intro i3 ga_z Hga_z FI I3 hm; exact absurd hm (Nat.not_lt_zero _)
            | succ n ih18 =>
              intro i3 ga_z Hga_z FI I3 hm
              refine z_iloadn C 3 dX11_set_18 rfl rfl ?_
              refine z_iconst C dX11_set_19 ?_
              refine z_icmp_ge (t := 63) C dX11_set_20 (by decide) (by omega) (by omega) (fun c5 => ?_) (fun c5 => ?_)
              · skip
                refine z_aloadn C 0 dX11_set_63 rfl rfl ?_
                refine z_get C 0 (by decide) rfl rfl z_it11 19 (by decide) rfl fl_11_59 rfl dX11_set_64 ?_
                refine z_iconst C dX11_set_67 ?_
                refine z_iloadn C 2 dX11_set_68 rfl rfl ?_
                refine z_imul C dX11_set_69 ?_
                refine z_iconst C dX11_set_70 ?_
                refine z_iast C 16 (by decide) rfl (by decide) (by omega) (by omega) dX11_set_71 ?_
                refine z_ext (S' := (z_zm ad ks s_edges s_isNeeded s_explored s_states s_isMoved s_runs s_runTime s_runMoves w_h a_machine a_from a_to a_channel a_resets a_guards a_guardOf a_limits a_limitOf a_places a_zones a_parent a_moveE a_moveF a_moves (va_up ga_z ((5 * i2) : Int).toNat 1) a_ahead a_at a_amounts a_way a_moments a_runAt a_runClock)) upM_a_z ?_
                have h6 : ∀ j, z_rg ((va_up ga_z ((5 * i2) : Int).toNat 1) j) := z_upP (P := fun j v => z_rg (v)) Hga_z (by omega)
                refine z_iinc (L' := [(2, z_v (i2 + 1)), (0, .ref (ad 0)), (1, z_v se), (3, z_v i3)]) C 2 dX11_set_72 rfl (by decide) rfl ?_
                refine z_goto (t := 2) C dX11_set_75 (by decide) ?_
                refine z_loc (L' := [(0, .ref (ad 0)), (1, z_v se), (2, z_v (i2 + 1))]) [1, 2, 0] rfl ?_
                exact ih2 (i2 + 1) (va_up ga_z ((5 * i2) : Int).toNat 1) h6 (by first | exact zo_sp_no FS (by omega) hb11 (by omega) | exact zo_sp_yes FS (by omega) hb11 (by omega) (zo_set_fin FI (by omega) (by omega) ((FS 0 (by omega)).trans (zo_sp_00 h00)))) (by omega) (by omega)
              · skip
                refine z_aloadn C 0 dX11_set_23 rfl rfl ?_
                refine z_get C 0 (by decide) rfl rfl z_it11 19 (by decide) rfl fl_11_59 rfl dX11_set_24 ?_
                refine z_iconst C dX11_set_27 ?_
                refine z_iloadn C 2 dX11_set_28 rfl rfl ?_
                refine z_imul C dX11_set_29 ?_
                refine z_iloadn C 3 dX11_set_30 rfl rfl ?_
                refine z_iadd C dX11_set_31 ?_
                refine z_aloadn C 0 dX11_set_32 rfl rfl ?_
                refine z_get C 0 (by decide) rfl rfl z_it11 19 (by decide) rfl fl_11_59 rfl dX11_set_33 ?_
                refine z_iloadn C 3 dX11_set_36 rfl rfl ?_
                refine z_iald C 16 (by decide) rfl (by decide) (by omega) (by omega) dX11_set_37 ?_
                have rx7 := Hga_z (i3 : Int).toNat
                generalize ex7 : ga_z (i3 : Int).toNat = x7 at rx7 ⊢
                refine z_iast C 16 (by decide) rfl (by decide) (by omega) (by omega) dX11_set_38 ?_
                refine z_ext (S' := (z_zm ad ks s_edges s_isNeeded s_explored s_states s_isMoved s_runs s_runTime s_runMoves w_h a_machine a_from a_to a_channel a_resets a_guards a_guardOf a_limits a_limitOf a_places a_zones a_parent a_moveE a_moveF a_moves (va_up ga_z (((4 * i2) + i3) : Int).toNat x7) a_ahead a_at a_amounts a_way a_moments a_runAt a_runClock)) upM_a_z ?_
                have h8 : ∀ j, z_rg ((va_up ga_z (((4 * i2) + i3) : Int).toNat x7) j) := z_upP (P := fun j v => z_rg (v)) Hga_z (by omega)
                refine z_aloadn C 0 dX11_set_39 rfl rfl ?_
                refine z_get C 0 (by decide) rfl rfl z_it11 19 (by decide) rfl fl_11_59 rfl dX11_set_40 ?_
                refine z_iconst C dX11_set_43 ?_
                refine z_iloadn C 3 dX11_set_44 rfl rfl ?_
                refine z_imul C dX11_set_45 ?_
                refine z_iloadn C 2 dX11_set_46 rfl rfl ?_
                refine z_iadd C dX11_set_47 ?_
                refine z_aloadn C 0 dX11_set_48 rfl rfl ?_
                refine z_get C 0 (by decide) rfl rfl z_it11 19 (by decide) rfl fl_11_59 rfl dX11_set_49 ?_
                refine z_iconst C dX11_set_52 ?_
                refine z_iloadn C 3 dX11_set_53 rfl rfl ?_
                refine z_imul C dX11_set_54 ?_
                refine z_iald C 16 (by decide) rfl (by decide) (by omega) (by omega) dX11_set_55 ?_
                have rx9 := h8 ((4 * i3) : Int).toNat
                generalize ex9 : (va_up ga_z (((4 * i2) + i3) : Int).toNat x7) ((4 * i3) : Int).toNat = x9 at rx9 ⊢
                refine z_iast C 16 (by decide) rfl (by decide) (by omega) (by omega) dX11_set_56 ?_
                refine z_ext (S' := (z_zm ad ks s_edges s_isNeeded s_explored s_states s_isMoved s_runs s_runTime s_runMoves w_h a_machine a_from a_to a_channel a_resets a_guards a_guardOf a_limits a_limitOf a_places a_zones a_parent a_moveE a_moveF a_moves (va_up (va_up ga_z (((4 * i2) + i3) : Int).toNat x7) (((4 * i3) + i2) : Int).toNat x9) a_ahead a_at a_amounts a_way a_moments a_runAt a_runClock)) upM_a_z ?_
                have h10 : ∀ j, z_rg ((va_up (va_up ga_z (((4 * i2) + i3) : Int).toNat x7) (((4 * i3) + i2) : Int).toNat x9) j) := z_upP (P := fun j v => z_rg (v)) h8 (by omega)
                refine z_iinc (L' := [(3, z_v (i3 + 1)), (0, .ref (ad 0)), (1, z_v se), (2, z_v i2)]) C 3 dX11_set_57 rfl (by decide) rfl ?_
                refine z_goto (t := 18) C dX11_set_60 (by decide) ?_
                refine z_loc (L' := [(0, .ref (ad 0)), (1, z_v se), (2, z_v i2), (3, z_v (i3 + 1))]) [1, 2, 3, 0] rfl ?_
                exact ih18 (i3 + 1) (va_up (va_up ga_z (((4 * i2) + i3) : Int).toNat x7) (((4 * i3) + i2) : Int).toNat x9) h10 (zo_ri.step FI (by omega) (by omega) (by omega) (by assumption) (by assumption)) (by omega) (by omega)
          refine z_loc (L' := [(0, .ref (ad 0)), (1, z_v se), (2, z_v i2), (3, z_v 0)]) [1, 2, 3, 0] rfl ?_
          exact (L18 (((4 : Int) - 0).toNat + 1)) 0 fa_z Hfa_z (zo_ri.ini) (by omega) (Nat.lt_succ_self _)
  refine z_loc (L' := [(0, .ref (ad 0)), (1, z_v se), (2, z_v 1)]) [1, 2, 0] rfl ?_
  exact (L2 (((4 : Int) - 1).toNat + 1)) 1 a_z Ha_z (fun k hk => rfl) (by omega) (Nat.lt_succ_self _)
set_option maxRecDepth 20000 in
theorem cx_X11_widen (l : Launch) {D : va_G} {A : Nat → Prop} {ad : Nat → Nat} {ks : z_Ks} {s_edges s_isNeeded s_explored s_states s_isMoved s_runs s_runTime s_runMoves : Int} {w_h : Int64} {a_machine a_from a_to a_channel a_resets a_guards a_guardOf a_limits a_limitOf a_places a_zones a_parent a_moveE a_moveF a_moves a_z a_ahead a_at a_amounts a_way a_moments a_runAt a_runClock : Nat → Int} {Y : Nat → Option va_E} {U V L : Int} {mo : Nat → Int} (Hs_edges : (0 ≤ s_edges ∧ s_edges ≤ 20)) (Ha_guards : (∀ j, 0 ≤ a_guards j ∧ a_guards j ≤ 2)) (Ha_guardOf : (∀ j, (j % 3 = 0 → a_guardOf j ≤ 3) ∧ 0 ≤ a_guardOf j ∧ a_guardOf j ≤ 1000)) (Ha_limits : (∀ j, 0 ≤ a_limits j ∧ a_limits j ≤ 2)) (Ha_limitOf : (∀ j, (j % 3 = 0 → a_limitOf j ≤ 3) ∧ 0 ≤ a_limitOf j ∧ a_limitOf j ≤ 1000)) (Ha_z : (∀ j, z_rg (a_z j))) (Ha_ahead : (∀ j, z_rg (a_ahead j))) (hmo : ∀ x : Int, 1 ≤ x → x ≤ 3 → z_gr x s_edges a_guards a_guardOf a_limits a_limitOf (mo x.toNat)) (hmr : ∀ x, 1 ≤ x → x < 4 → 0 ≤ mo x ∧ mo x ≤ 1000) (hZ : zo_Z U V L a_z) : z_Met l yX11_widen cX11_widen 6 (some .boolean) 2 45 0 0 D A 24 ad ks [.ref (ad 0)] (z_zm ad ks s_edges s_isNeeded s_explored s_states s_isMoved s_runs s_runTime s_runMoves w_h a_machine a_from a_to a_channel a_resets a_guards a_guardOf a_limits a_limitOf a_places a_zones a_parent a_moveE a_moveF a_moves a_z a_ahead a_at a_amounts a_way a_moments a_runAt a_runClock) Y (fun r S' Y' => ∃ na_z : Nat → Int, ∃ na_ahead : Nat → Int, S' = (z_zm ad ks s_edges s_isNeeded s_explored s_states s_isMoved s_runs s_runTime s_runMoves w_h a_machine a_from a_to a_channel a_resets a_guards a_guardOf a_limits a_limitOf a_places a_zones a_parent a_moveE a_moveF a_moves na_z na_ahead a_at a_amounts a_way a_moments a_runAt a_runClock) ∧ Y = Y' ∧ (∀ j, z_rg (na_z j)) ∧ (∀ j, z_rg (na_ahead j)) ∧ ∃ z : Int, r = some (z_v z) ∧ (z = 1 ∧ zo_GC (fun w => zo_le w (zo_wd mo a_z)) na_z ∧ zo_Z 16016 16016 32015 na_z)) := by
  refine z_start2 (by decide) (Nat.le_of_ble_eq_true rfl) ?_
  intro p e R s m args below meth c Q C hRf hRc hRs hRl hQ hrt hnm
  refine z_loc (L' := [(0, .ref (ad 0))]) [0] rfl ?_
  refine z_iconst C dX11_widen_0 ?_
  refine z_istoren (L' := [(1, z_v 0), (0, .ref (ad 0))]) C dX11_widen_1 rfl (by decide) rfl ?_
  have L2 : ∀ (n : Nat), ∀ (i1 : Int) (fa_ahead : Nat → Int), ((∀ j, z_rg (fa_ahead j))) → (∀ j : Nat, (j : Int) < i1 → fa_ahead j = a_z j) → (0 ≤ i1 ∧ i1 ≤ 16) → ((16 : Int) - i1).toNat < n → z_V p l e R s m args below meth c Q D A 24 ad 6 (z_zm ad ks s_edges s_isNeeded s_explored s_states s_isMoved s_runs s_runTime s_runMoves w_h a_machine a_from a_to a_channel a_resets a_guards a_guardOf a_limits a_limitOf a_places a_zones a_parent a_moveE a_moveF a_moves a_z fa_ahead a_at a_amounts a_way a_moments a_runAt a_runClock) Y 0 0 2 [(0, .ref (ad 0)), (1, z_v i1)] [] := by
    intro n
    induction n with
    | zero => intro i1 fa_ahead Hfa_ahead FA I1 hm; exact absurd hm (Nat.not_lt_zero _)
    | succ n ih2 =>
      intro i1 fa_ahead Hfa_ahead FA I1 hm
      refine z_iloadn C 1 dX11_widen_2 rfl rfl ?_
      refine z_bipush C dX11_widen_3 (by decide) ?_
      refine z_icmp_ge (t := 26) C dX11_widen_5 (by decide) (by omega) (by omega) (fun c1 => ?_) (fun c1 => ?_)
      · skip
        refine z_iconst C dX11_widen_26 ?_
        refine z_istoren (L' := [(1, z_v 1), (0, .ref (ad 0))]) C dX11_widen_27 rfl (by decide) rfl ?_
        have L28 : ∀ (n : Nat), ∀ (i1 : Int) (fa_z : Nat → Int), ((∀ j, z_rg (fa_z j))) → (zo_wi mo a_z i1 0 fa_z) → (1 ≤ i1 ∧ i1 ≤ 4) → ((4 : Int) - i1).toNat < n → z_V p l e R s m args below meth c Q D A 24 ad 6 (z_zm ad ks s_edges s_isNeeded s_explored s_states s_isMoved s_runs s_runTime s_runMoves w_h a_machine a_from a_to a_channel a_resets a_guards a_guardOf a_limits a_limitOf a_places a_zones a_parent a_moveE a_moveF a_moves fa_z fa_ahead a_at a_amounts a_way a_moments a_runAt a_runClock) Y 0 0 28 [(0, .ref (ad 0)), (1, z_v i1)] [] := by
          intro n
          induction n with
          | zero => intro i1 fa_z Hfa_z FW I1 hm; exact absurd hm (Nat.not_lt_zero _)
          | succ n ih28 =>
            intro i1 fa_z Hfa_z FW I1 hm
            refine z_iloadn C 1 dX11_widen_28 rfl rfl ?_
            refine z_iconst C dX11_widen_29 ?_
            refine z_icmp_ge (t := 144) C dX11_widen_30 (by decide) (by omega) (by omega) (fun c2 => ?_) (fun c2 => ?_)
            · skip
              refine z_aloadn C 0 dX11_widen_144 rfl rfl ?_
              have hfw := zo_wi.fin FW (by omega)
              obtain ⟨wt, w0, wl, wb, wd, wg, wz⟩ := zo_wd_fin hmr hZ hfw
              refine z_callV C (cx_X11_close l Hfa_z wt w0 (fun j hj => by have := wl j hj; omega) (fun _ => wb)) mv_11_125 (z_atS 0 11 (by decide) rfl rfl rfl) pd_X11_close ⟨by omega, by omega⟩ ⟨by omega, by omega⟩ rfl (Nat.le_of_ble_eq_true rfl) dX11_widen_145 ?_
              rintro _ _ _ ⟨n3, rfl, rfl, h6, q145_0, z7, rfl, hz7⟩
              have hcl := hz7
              rw [hQ]
              exact z_zret C hrt (by omega) dX11_widen_148 (⟨n3, fa_ahead, rfl, rfl, h6, Hfa_ahead, _, rfl, by rw [q145_0]; exact ⟨zo_one hcl ⟨_, wg.1, (zo_le_iff hfw _).mpr wg.2.1⟩, wg, wz⟩⟩) (by omega) (by omega)
            · skip
              refine z_aloadn C 0 dX11_widen_33 rfl rfl ?_
              refine z_iloadn C 1 dX11_widen_34 rfl rfl ?_
              refine z_callV C (cx_X11_greatestOf l i1 (by omega) Ha_guards Ha_guardOf Ha_limits Ha_limitOf (by omega)) mv_11_129 (z_atS 0 11 (by decide) rfl rfl rfl) pd_X11_greatestOf ⟨by omega, by omega⟩ ⟨by omega, by omega⟩ rfl (Nat.le_of_ble_eq_true rfl) dX11_widen_35 ?_
              rintro _ _ _ ⟨rfl, rfl, z10, rfl, hz10⟩
              have hmx : z10 = mo (i1 : Int).toNat := z_isMax.uniq hz10.2.2 (hmo i1 (by omega) (by omega))
              refine z_istoren (L' := [(2, z_v z10), (0, .ref (ad 0)), (1, z_v i1)]) C dX11_widen_38 rfl (by decide) rfl ?_
              refine z_iconst C dX11_widen_39 ?_
              refine z_istoren (L' := [(3, z_v 0), (2, z_v z10), (0, .ref (ad 0)), (1, z_v i1)]) C dX11_widen_40 rfl (by decide) rfl ?_
              have L41 : ∀ (n : Nat), ∀ (i3 : Int) (fa_z : Nat → Int), ((∀ j, z_rg (fa_z j))) → (zo_wi mo a_z i1 i3 fa_z) → (0 ≤ i3 ∧ i3 ≤ 4) → ((4 : Int) - i3).toNat < n → z_V p l e R s m args below meth c Q D A 24 ad 6 (z_zm ad ks s_edges s_isNeeded s_explored s_states s_isMoved s_runs s_runTime s_runMoves w_h a_machine a_from a_to a_channel a_resets a_guards a_guardOf a_limits a_limitOf a_places a_zones a_parent a_moveE a_moveF a_moves fa_z fa_ahead a_at a_amounts a_way a_moments a_runAt a_runClock) Y 0 0 41 [(0, .ref (ad 0)), (1, z_v i1), (2, z_v z10), (3, z_v i3)] [] := by
                intro n
                induction n with
                | zero => intro i3 fa_z Hfa_z FW I3 hm; exact absurd hm (Nat.not_lt_zero _)
                | succ n ih41 =>
                  intro i3 fa_z Hfa_z FW I3 hm
                  refine z_iloadn C 3 dX11_widen_41 rfl rfl ?_
                  refine z_iconst C dX11_widen_42 ?_
                  refine z_icmp_ge (t := 138) C dX11_widen_43 (by decide) (by omega) (by omega) (fun c11 => ?_) (fun c11 => ?_)
                  · skip
                    refine z_iinc (L' := [(1, z_v (i1 + 1)), (0, .ref (ad 0)), (2, z_v z10), (3, z_v i3)]) C 1 dX11_widen_138 rfl (by decide) rfl ?_
                    refine z_goto (t := 28) C dX11_widen_141 (by decide) ?_
                    refine z_loc (L' := [(0, .ref (ad 0)), (1, z_v (i1 + 1))]) [1, 0] rfl ?_
                    exact ih28 (i1 + 1) fa_z Hfa_z (zo_wi.next (show zo_wi mo a_z i1 4 fa_z from (show i3 = 4 by omega) ▸ FW)) (by omega) (by omega)
                  · skip
                    refine z_iloadn C 3 dX11_widen_46 rfl rfl ?_
                    refine z_iloadn C 1 dX11_widen_47 rfl rfl ?_
                    refine z_icmp_eq (t := 132) C dX11_widen_48 (by decide) (by omega) (by omega) (fun c12 => ?_) (fun c12 => ?_)
                    · skip
                      refine z_iinc (L' := [(3, z_v (i3 + 1)), (0, .ref (ad 0)), (1, z_v i1), (2, z_v z10)]) C 3 dX11_widen_132 rfl (by decide) rfl ?_
                      refine z_goto (t := 41) C dX11_widen_135 (by decide) ?_
                      refine z_loc (L' := [(0, .ref (ad 0)), (1, z_v i1), (2, z_v z10), (3, z_v (i3 + 1))]) [1, 2, 3, 0] rfl ?_
                      exact ih41 (i3 + 1) fa_z Hfa_z (by first | exact zo_wi.skip FW (by omega) | exact zo_wi.step FW (by omega) (by omega) (by omega) hmx hmr (by first | exact Or.inl ⟨⟨by omega, by omega⟩, rfl⟩ | exact Or.inr ⟨by omega, rfl⟩) (by first | exact Or.inl ⟨⟨by omega, by omega⟩, rfl⟩ | exact Or.inr ⟨by omega, rfl⟩)) (by omega) (by omega)
                    · skip
                      refine z_aloadn C 0 dX11_widen_51 rfl rfl ?_
                      refine z_get C 0 (by decide) rfl rfl z_it11 20 (by decide) rfl fl_11_62 rfl dX11_widen_52 ?_
                      refine z_iconst C dX11_widen_55 ?_
                      refine z_iloadn C 1 dX11_widen_56 rfl rfl ?_
                      refine z_imul C dX11_widen_57 ?_
                      refine z_iloadn C 3 dX11_widen_58 rfl rfl ?_
                      refine z_iadd C dX11_widen_59 ?_
                      refine z_iald C 17 (by decide) rfl (by decide) (by omega) (by omega) dX11_widen_60 ?_
                      have rx13 := Hfa_ahead (((4 * i1) + i3) : Int).toNat
                      generalize ex13 : fa_ahead (((4 * i1) + i3) : Int).toNat = x13 at rx13 ⊢
                      have ha60 : fa_ahead (4 * i1 + i3 : Int).toNat = a_z (4 * i1 + i3 : Int).toNat := FA _ (by omega)
                      refine z_istore (L' := [(4, z_v x13), (0, .ref (ad 0)), (1, z_v i1), (2, z_v z10), (3, z_v i3)]) C dX11_widen_61 (by decide) rfl ?_
                      refine z_iload C 0 dX11_widen_63 rfl ?_
                      refine z_ldc (n := 100000) C kc_11_113 (by decide) dX11_widen_65 ?_
                      refine z_icmp_eq (t := 90) C dX11_widen_67 (by decide) (by omega) (by omega) (fun c14 => ?_) (fun c14 => ?_)
                      · skip
                        refine z_aloadn C 1 dX11_widen_90 rfl rfl ?_
                        refine z_get C 0 (by decide) rfl rfl z_it11 20 (by decide) rfl fl_11_62 rfl dX11_widen_91 ?_
                        refine z_iconst C dX11_widen_94 ?_
                        refine z_iloadn C 4 dX11_widen_95 rfl rfl ?_
                        refine z_imul C dX11_widen_96 ?_
                        refine z_iloadn C 2 dX11_widen_97 rfl rfl ?_
                        refine z_iadd C dX11_widen_98 ?_
                        refine z_iald C 17 (by decide) rfl (by decide) (by omega) (by omega) dX11_widen_99 ?_
                        have rx15 := Hfa_ahead (((4 * i3) + i1) : Int).toNat
                        generalize ex15 : fa_ahead (((4 * i3) + i1) : Int).toNat = x15 at rx15 ⊢
                        have ha99 : fa_ahead (4 * i3 + i1 : Int).toNat = a_z (4 * i3 + i1 : Int).toNat := FA _ (by omega)
                        refine z_istore (L' := [(5, z_v x15), (4, z_v x13), (0, .ref (ad 0)), (1, z_v i1), (2, z_v z10), (3, z_v i3)]) C dX11_widen_100 (by decide) rfl ?_
                        refine z_iload C 0 dX11_widen_102 rfl ?_
                        refine z_ldc (n := 100000) C kc_11_113 (by decide) dX11_widen_104 ?_
                        refine z_icmp_eq (t := 132) C dX11_widen_106 (by decide) (by omega) (by omega) (fun c16 => ?_) (fun c16 => ?_)
                        · skip
                          refine z_iinc (L' := [(3, z_v (i3 + 1)), (5, z_v x15), (4, z_v x13), (0, .ref (ad 0)), (1, z_v i1), (2, z_v z10)]) C 5 dX11_widen_132 rfl (by decide) rfl ?_
                          refine z_goto (t := 41) C dX11_widen_135 (by decide) ?_
                          refine z_loc (L' := [(0, .ref (ad 0)), (1, z_v i1), (2, z_v z10), (3, z_v (i3 + 1))]) [3, 4, 5, 0] rfl ?_
                          exact ih41 (i3 + 1) fa_z Hfa_z (by first | exact zo_wi.skip FW (by omega) | exact zo_wi.step FW (by omega) (by omega) (by omega) hmx hmr (by first | exact Or.inl ⟨⟨by omega, by omega⟩, rfl⟩ | exact Or.inr ⟨by omega, rfl⟩) (by first | exact Or.inl ⟨⟨by omega, by omega⟩, rfl⟩ | exact Or.inr ⟨by omega, rfl⟩)) (by omega) (by omega)
                        · skip
                          refine z_iload C 0 dX11_widen_109 rfl ?_
                          refine z_iconst C dX11_widen_111 ?_
                          obtain ⟨b17, hb17, rb17⟩ := z_bits (z_i x15 >>> (z_i 1 &&& 31))
                          refine z_ishr C hb17 dX11_widen_112 ?_
                          have qb17 := z_bitsE hb17 rb17
                          have hs112 : b17 = x15 / 2 := by rw [← qb17]; exact zo_shr (by omega)
                          refine z_iloadn C 4 dX11_widen_113 rfl rfl ?_
                          refine z_ineg C dX11_widen_114 ?_
                          refine z_icmp_ge (t := 132) C dX11_widen_115 (by decide) (by omega) (by omega) (fun c18 => ?_) (fun c18 => ?_)
                          · skip
                            refine z_iinc (L' := [(3, z_v (i3 + 1)), (5, z_v x15), (4, z_v x13), (0, .ref (ad 0)), (1, z_v i1), (2, z_v z10)]) C 5 dX11_widen_132 rfl (by decide) rfl ?_
                            refine z_goto (t := 41) C dX11_widen_135 (by decide) ?_
                            refine z_loc (L' := [(0, .ref (ad 0)), (1, z_v i1), (2, z_v z10), (3, z_v (i3 + 1))]) [3, 4, 5, 0] rfl ?_
                            exact ih41 (i3 + 1) fa_z Hfa_z (by first | exact zo_wi.skip FW (by omega) | exact zo_wi.step FW (by omega) (by omega) (by omega) hmx hmr (by first | exact Or.inl ⟨⟨by omega, by omega⟩, rfl⟩ | exact Or.inr ⟨by omega, rfl⟩) (by first | exact Or.inl ⟨⟨by omega, by omega⟩, rfl⟩ | exact Or.inr ⟨by omega, rfl⟩)) (by omega) (by omega)
                          · skip
                            refine z_aloadn C 2 dX11_widen_118 rfl rfl ?_
                            refine z_get C 0 (by decide) rfl rfl z_it11 19 (by decide) rfl fl_11_59 rfl dX11_widen_119 ?_
                            refine z_iconst C dX11_widen_122 ?_
                            refine z_iloadn C 5 dX11_widen_123 rfl rfl ?_
                            refine z_imul C dX11_widen_124 ?_
                            refine z_iloadn C 3 dX11_widen_125 rfl rfl ?_
                            refine z_iadd C dX11_widen_126 ?_
                            refine z_bipush C dX11_widen_127 (by decide) ?_
                            refine z_iloadn C 4 dX11_widen_129 rfl rfl ?_
                            refine z_imul C dX11_widen_130 ?_
                            refine z_iast C 16 (by decide) rfl (by decide) (by omega) (by omega) dX11_widen_131 ?_
                            refine z_ext (S' := (z_zm ad ks s_edges s_isNeeded s_explored s_states s_isMoved s_runs s_runTime s_runMoves w_h a_machine a_from a_to a_channel a_resets a_guards a_guardOf a_limits a_limitOf a_places a_zones a_parent a_moveE a_moveF a_moves (va_up fa_z (((4 * i3) + i1) : Int).toNat ((-2) * z10)) fa_ahead a_at a_amounts a_way a_moments a_runAt a_runClock)) upM_a_z ?_
                            have h19 : ∀ j, z_rg ((va_up fa_z (((4 * i3) + i1) : Int).toNat ((-2) * z10)) j) := z_upP (P := fun j v => z_rg (v)) Hfa_z (by omega)
                            refine z_iinc (L' := [(3, z_v (i3 + 1)), (5, z_v x15), (4, z_v x13), (0, .ref (ad 0)), (1, z_v i1), (2, z_v z10)]) C 5 dX11_widen_132 rfl (by decide) rfl ?_
                            refine z_goto (t := 41) C dX11_widen_135 (by decide) ?_
                            refine z_loc (L' := [(0, .ref (ad 0)), (1, z_v i1), (2, z_v z10), (3, z_v (i3 + 1))]) [3, 4, 5, 0] rfl ?_
                            exact ih41 (i3 + 1) (va_up fa_z (((4 * i3) + i1) : Int).toNat ((-2) * z10)) h19 (by first | exact zo_wi.skip FW (by omega) | exact zo_wi.step FW (by omega) (by omega) (by omega) hmx hmr (by first | exact Or.inl ⟨⟨by omega, by omega⟩, rfl⟩ | exact Or.inr ⟨by omega, rfl⟩) (by first | exact Or.inl ⟨⟨by omega, by omega⟩, rfl⟩ | exact Or.inr ⟨by omega, rfl⟩)) (by omega) (by omega)
                      · skip
                        refine z_iload C 0 dX11_widen_70 rfl ?_
                        refine z_iconst C dX11_widen_72 ?_
                        obtain ⟨b20, hb20, rb20⟩ := z_bits (z_i x13 >>> (z_i 1 &&& 31))
                        refine z_ishr C hb20 dX11_widen_73 ?_
                        have qb20 := z_bitsE hb20 rb20
                        have hs73 : b20 = x13 / 2 := by rw [← qb20]; exact zo_shr (by omega)
                        refine z_iloadn C 3 dX11_widen_74 rfl rfl ?_
                        refine z_icmp_le (t := 90) C dX11_widen_75 (by decide) (by omega) (by omega) (fun c21 => ?_) (fun c21 => ?_)
                        · skip
                          refine z_aloadn C 1 dX11_widen_90 rfl rfl ?_
                          refine z_get C 0 (by decide) rfl rfl z_it11 20 (by decide) rfl fl_11_62 rfl dX11_widen_91 ?_
                          refine z_iconst C dX11_widen_94 ?_
                          refine z_iloadn C 4 dX11_widen_95 rfl rfl ?_
                          refine z_imul C dX11_widen_96 ?_
                          refine z_iloadn C 2 dX11_widen_97 rfl rfl ?_
                          refine z_iadd C dX11_widen_98 ?_
                          refine z_iald C 17 (by decide) rfl (by decide) (by omega) (by omega) dX11_widen_99 ?_
                          have rx22 := Hfa_ahead (((4 * i3) + i1) : Int).toNat
                          generalize ex22 : fa_ahead (((4 * i3) + i1) : Int).toNat = x22 at rx22 ⊢
                          have ha99 : fa_ahead (4 * i3 + i1 : Int).toNat = a_z (4 * i3 + i1 : Int).toNat := FA _ (by omega)
                          refine z_istore (L' := [(5, z_v x22), (4, z_v x13), (0, .ref (ad 0)), (1, z_v i1), (2, z_v z10), (3, z_v i3)]) C dX11_widen_100 (by decide) rfl ?_
                          refine z_iload C 0 dX11_widen_102 rfl ?_
                          refine z_ldc (n := 100000) C kc_11_113 (by decide) dX11_widen_104 ?_
                          refine z_icmp_eq (t := 132) C dX11_widen_106 (by decide) (by omega) (by omega) (fun c23 => ?_) (fun c23 => ?_)
                          · skip
                            refine z_iinc (L' := [(3, z_v (i3 + 1)), (5, z_v x22), (4, z_v x13), (0, .ref (ad 0)), (1, z_v i1), (2, z_v z10)]) C 5 dX11_widen_132 rfl (by decide) rfl ?_
                            refine z_goto (t := 41) C dX11_widen_135 (by decide) ?_
                            refine z_loc (L' := [(0, .ref (ad 0)), (1, z_v i1), (2, z_v z10), (3, z_v (i3 + 1))]) [3, 4, 5, 0] rfl ?_
                            exact ih41 (i3 + 1) fa_z Hfa_z (by first | exact zo_wi.skip FW (by omega) | exact zo_wi.step FW (by omega) (by omega) (by omega) hmx hmr (by first | exact Or.inl ⟨⟨by omega, by omega⟩, rfl⟩ | exact Or.inr ⟨by omega, rfl⟩) (by first | exact Or.inl ⟨⟨by omega, by omega⟩, rfl⟩ | exact Or.inr ⟨by omega, rfl⟩)) (by omega) (by omega)
                          · skip
                            refine z_iload C 0 dX11_widen_109 rfl ?_
                            refine z_iconst C dX11_widen_111 ?_
                            obtain ⟨b24, hb24, rb24⟩ := z_bits (z_i x22 >>> (z_i 1 &&& 31))
                            refine z_ishr C hb24 dX11_widen_112 ?_
                            have qb24 := z_bitsE hb24 rb24
                            have hs112 : b24 = x22 / 2 := by rw [← qb24]; exact zo_shr (by omega)
                            refine z_iloadn C 4 dX11_widen_113 rfl rfl ?_
                            refine z_ineg C dX11_widen_114 ?_
                            refine z_icmp_ge (t := 132) C dX11_widen_115 (by decide) (by omega) (by omega) (fun c25 => ?_) (fun c25 => ?_)
                            · skip
                              refine z_iinc (L' := [(3, z_v (i3 + 1)), (5, z_v x22), (4, z_v x13), (0, .ref (ad 0)), (1, z_v i1), (2, z_v z10)]) C 5 dX11_widen_132 rfl (by decide) rfl ?_
                              refine z_goto (t := 41) C dX11_widen_135 (by decide) ?_
                              refine z_loc (L' := [(0, .ref (ad 0)), (1, z_v i1), (2, z_v z10), (3, z_v (i3 + 1))]) [3, 4, 5, 0] rfl ?_
                              exact ih41 (i3 + 1) fa_z Hfa_z (by first | exact zo_wi.skip FW (by omega) | exact zo_wi.step FW (by omega) (by omega) (by omega) hmx hmr (by first | exact Or.inl ⟨⟨by omega, by omega⟩, rfl⟩ | exact Or.inr ⟨by omega, rfl⟩) (by first | exact Or.inl ⟨⟨by omega, by omega⟩, rfl⟩ | exact Or.inr ⟨by omega, rfl⟩)) (by omega) (by omega)
                            · skip
                              refine z_aloadn C 2 dX11_widen_118 rfl rfl ?_
                              refine z_get C 0 (by decide) rfl rfl z_it11 19 (by decide) rfl fl_11_59 rfl dX11_widen_119 ?_
                              refine z_iconst C dX11_widen_122 ?_
                              refine z_iloadn C 5 dX11_widen_123 rfl rfl ?_
                              refine z_imul C dX11_widen_124 ?_
                              refine z_iloadn C 3 dX11_widen_125 rfl rfl ?_
                              refine z_iadd C dX11_widen_126 ?_
                              refine z_bipush C dX11_widen_127 (by decide) ?_
                              refine z_iloadn C 4 dX11_widen_129 rfl rfl ?_
                              refine z_imul C dX11_widen_130 ?_
                              refine z_iast C 16 (by decide) rfl (by decide) (by omega) (by omega) dX11_widen_131 ?_
                              refine z_ext (S' := (z_zm ad ks s_edges s_isNeeded s_explored s_states s_isMoved s_runs s_runTime s_runMoves w_h a_machine a_from a_to a_channel a_resets a_guards a_guardOf a_limits a_limitOf a_places a_zones a_parent a_moveE a_moveF a_moves (va_up fa_z (((4 * i3) + i1) : Int).toNat ((-2) * z10)) fa_ahead a_at a_amounts a_way a_moments a_runAt a_runClock)) upM_a_z ?_
                              have h26 : ∀ j, z_rg ((va_up fa_z (((4 * i3) + i1) : Int).toNat ((-2) * z10)) j) := z_upP (P := fun j v => z_rg (v)) Hfa_z (by omega)
                              refine z_iinc (L' := [(3, z_v (i3 + 1)), (5, z_v x22), (4, z_v x13), (0, .ref (ad 0)), (1, z_v i1), (2, z_v z10)]) C 5 dX11_widen_132 rfl (by decide) rfl ?_
                              refine z_goto (t := 41) C dX11_widen_135 (by decide) ?_
                              refine z_loc (L' := [(0, .ref (ad 0)), (1, z_v i1), (2, z_v z10), (3, z_v (i3 + 1))]) [3, 4, 5, 0] rfl ?_
                              exact ih41 (i3 + 1) (va_up fa_z (((4 * i3) + i1) : Int).toNat ((-2) * z10)) h26 (by first | exact zo_wi.skip FW (by omega) | exact zo_wi.step FW (by omega) (by omega) (by omega) hmx hmr (by first | exact Or.inl ⟨⟨by omega, by omega⟩, rfl⟩ | exact Or.inr ⟨by omega, rfl⟩) (by first | exact Or.inl ⟨⟨by omega, by omega⟩, rfl⟩ | exact Or.inr ⟨by omega, rfl⟩)) (by omega) (by omega)
                        · skip
                          refine z_aloadn C 1 dX11_widen_78 rfl rfl ?_
                          refine z_get C 0 (by decide) rfl rfl z_it11 19 (by decide) rfl fl_11_59 rfl dX11_widen_79 ?_
                          refine z_iconst C dX11_widen_82 ?_
                          refine z_iloadn C 2 dX11_widen_83 rfl rfl ?_
                          refine z_imul C dX11_widen_84 ?_
                          refine z_iloadn C 4 dX11_widen_85 rfl rfl ?_
                          refine z_iadd C dX11_widen_86 ?_
                          refine z_ldc (n := 100000) C kc_11_113 (by decide) dX11_widen_87 ?_
                          refine z_iast C 16 (by decide) rfl (by decide) (by omega) (by omega) dX11_widen_89 ?_
                          refine z_ext (S' := (z_zm ad ks s_edges s_isNeeded s_explored s_states s_isMoved s_runs s_runTime s_runMoves w_h a_machine a_from a_to a_channel a_resets a_guards a_guardOf a_limits a_limitOf a_places a_zones a_parent a_moveE a_moveF a_moves (va_up fa_z (((4 * i1) + i3) : Int).toNat 100000) fa_ahead a_at a_amounts a_way a_moments a_runAt a_runClock)) upM_a_z ?_
                          have h27 : ∀ j, z_rg ((va_up fa_z (((4 * i1) + i3) : Int).toNat 100000) j) := z_upP (P := fun j v => z_rg (v)) Hfa_z (by omega)
                          refine z_aloadn C 1 dX11_widen_90 rfl rfl ?_
                          refine z_get C 0 (by decide) rfl rfl z_it11 20 (by decide) rfl fl_11_62 rfl dX11_widen_91 ?_
                          refine z_iconst C dX11_widen_94 ?_
                          refine z_iloadn C 4 dX11_widen_95 rfl rfl ?_
                          refine z_imul C dX11_widen_96 ?_
                          refine z_iloadn C 2 dX11_widen_97 rfl rfl ?_
                          refine z_iadd C dX11_widen_98 ?_
                          refine z_iald C 17 (by decide) rfl (by decide) (by omega) (by omega) dX11_widen_99 ?_
                          have rx28 := Hfa_ahead (((4 * i3) + i1) : Int).toNat
                          generalize ex28 : fa_ahead (((4 * i3) + i1) : Int).toNat = x28 at rx28 ⊢
                          have ha99 : fa_ahead (4 * i3 + i1 : Int).toNat = a_z (4 * i3 + i1 : Int).toNat := FA _ (by omega)
                          refine z_istore (L' := [(5, z_v x28), (4, z_v x13), (0, .ref (ad 0)), (1, z_v i1), (2, z_v z10), (3, z_v i3)]) C dX11_widen_100 (by decide) rfl ?_
                          refine z_iload C 0 dX11_widen_102 rfl ?_
                          refine z_ldc (n := 100000) C kc_11_113 (by decide) dX11_widen_104 ?_
                          refine z_icmp_eq (t := 132) C dX11_widen_106 (by decide) (by omega) (by omega) (fun c29 => ?_) (fun c29 => ?_)
                          · skip
                            refine z_iinc (L' := [(3, z_v (i3 + 1)), (5, z_v x28), (4, z_v x13), (0, .ref (ad 0)), (1, z_v i1), (2, z_v z10)]) C 5 dX11_widen_132 rfl (by decide) rfl ?_
                            refine z_goto (t := 41) C dX11_widen_135 (by decide) ?_
                            refine z_loc (L' := [(0, .ref (ad 0)), (1, z_v i1), (2, z_v z10), (3, z_v (i3 + 1))]) [3, 4, 5, 0] rfl ?_
                            exact ih41 (i3 + 1) (va_up fa_z (((4 * i1) + i3) : Int).toNat 100000) h27 (by first | exact zo_wi.skip FW (by omega) | exact zo_wi.step FW (by omega) (by omega) (by omega) hmx hmr (by first | exact Or.inl ⟨⟨by omega, by omega⟩, rfl⟩ | exact Or.inr ⟨by omega, rfl⟩) (by first | exact Or.inl ⟨⟨by omega, by omega⟩, rfl⟩ | exact Or.inr ⟨by omega, rfl⟩)) (by omega) (by omega)
                          · skip
                            refine z_iload C 0 dX11_widen_109 rfl ?_
                            refine z_iconst C dX11_widen_111 ?_
                            obtain ⟨b30, hb30, rb30⟩ := z_bits (z_i x28 >>> (z_i 1 &&& 31))
                            refine z_ishr C hb30 dX11_widen_112 ?_
                            have qb30 := z_bitsE hb30 rb30
                            have hs112 : b30 = x28 / 2 := by rw [← qb30]; exact zo_shr (by omega)
                            refine z_iloadn C 4 dX11_widen_113 rfl rfl ?_
                            refine z_ineg C dX11_widen_114 ?_
                            refine z_icmp_ge (t := 132) C dX11_widen_115 (by decide) (by omega) (by omega) (fun c31 => ?_) (fun c31 => ?_)
                            · skip
                              refine z_iinc (L' := [(3, z_v (i3 + 1)), (5, z_v x28), (4, z_v x13), (0, .ref (ad 0)), (1, z_v i1), (2, z_v z10)]) C 5 dX11_widen_132 rfl (by decide) rfl ?_
                              refine z_goto (t := 41) C dX11_widen_135 (by decide) ?_
                              refine z_loc (L' := [(0, .ref (ad 0)), (1, z_v i1), (2, z_v z10), (3, z_v (i3 + 1))]) [3, 4, 5, 0] rfl ?_
                              exact ih41 (i3 + 1) (va_up fa_z (((4 * i1) + i3) : Int).toNat 100000) h27 (by first | exact zo_wi.skip FW (by omega) | exact zo_wi.step FW (by omega) (by omega) (by omega) hmx hmr (by first | exact Or.inl ⟨⟨by omega, by omega⟩, rfl⟩ | exact Or.inr ⟨by omega, rfl⟩) (by first | exact Or.inl ⟨⟨by omega, by omega⟩, rfl⟩ | exact Or.inr ⟨by omega, rfl⟩)) (by omega) (by omega)
                            · skip
                              refine z_aloadn C 2 dX11_widen_118 rfl rfl ?_
                              refine z_get C 0 (by decide) rfl rfl z_it11 19 (by decide) rfl fl_11_59 rfl dX11_widen_119 ?_
                              refine z_iconst C dX11_widen_122 ?_
                              refine z_iloadn C 5 dX11_widen_123 rfl rfl ?_
                              refine z_imul C dX11_widen_124 ?_
                              refine z_iloadn C 3 dX11_widen_125 rfl rfl ?_
                              refine z_iadd C dX11_widen_126 ?_
                              refine z_bipush C dX11_widen_127 (by decide) ?_
                              refine z_iloadn C 4 dX11_widen_129 rfl rfl ?_
                              refine z_imul C dX11_widen_130 ?_
                              refine z_iast C 16 (by decide) rfl (by decide) (by omega) (by omega) dX11_widen_131 ?_
                              refine z_ext (S' := (z_zm ad ks s_edges s_isNeeded s_explored s_states s_isMoved s_runs s_runTime s_runMoves w_h a_machine a_from a_to a_channel a_resets a_guards a_guardOf a_limits a_limitOf a_places a_zones a_parent a_moveE a_moveF a_moves (va_up (va_up fa_z (((4 * i1) + i3) : Int).toNat 100000) (((4 * i3) + i1) : Int).toNat ((-2) * z10)) fa_ahead a_at a_amounts a_way a_moments a_runAt a_runClock)) upM_a_z ?_
                              have h32 : ∀ j, z_rg ((va_up (va_up fa_z (((4 * i1) + i3) : Int).toNat 100000) (((4 * i3) + i1) : Int).toNat ((-2) * z10)) j) := z_upP (P := fun j v => z_rg (v)) h27 (by omega)
                              refine z_iinc (L' := [(3, z_v (i3 + 1)), (5, z_v x28), (4, z_v x13), (0, .ref (ad 0)), (1, z_v i1), (2, z_v z10)]) C 5 dX11_widen_132 rfl (by decide) rfl ?_
                              refine z_goto (t := 41) C dX11_widen_135 (by decide) ?_
                              refine z_loc (L' := [(0, .ref (ad 0)), (1, z_v i1), (2, z_v z10), (3, z_v (i3 + 1))]) [3, 4, 5, 0] rfl ?_
                              exact ih41 (i3 + 1) (va_up (va_up fa_z (((4 * i1) + i3) : Int).toNat 100000) (((4 * i3) + i1) : Int).toNat ((-2) * z10)) h32 (by first | exact zo_wi.skip FW (by omega) | exact zo_wi.step FW (by omega) (by omega) (by omega) hmx hmr (by first | exact Or.inl ⟨⟨by omega, by omega⟩, rfl⟩ | exact Or.inr ⟨by omega, rfl⟩) (by first | exact Or.inl ⟨⟨by omega, by omega⟩, rfl⟩ | exact Or.inr ⟨by omega, rfl⟩)) (by omega) (by omega)
              refine z_loc (L' := [(0, .ref (ad 0)), (1, z_v i1), (2, z_v z10), (3, z_v 0)]) [2, 3, 1, 0] rfl ?_
              exact (L41 (((4 : Int) - 0).toNat + 1)) 0 fa_z Hfa_z (FW) (by omega) (Nat.lt_succ_self _)
        refine z_loc (L' := [(0, .ref (ad 0)), (1, z_v 1)]) [1, 0] rfl ?_
        exact (L28 (((4 : Int) - 1).toNat + 1)) 1 a_z Ha_z (zo_wi.ini) (by omega) (Nat.lt_succ_self _)
      · skip
        refine z_aloadn C 0 dX11_widen_8 rfl rfl ?_
        refine z_get C 0 (by decide) rfl rfl z_it11 20 (by decide) rfl fl_11_62 rfl dX11_widen_9 ?_
        refine z_iloadn C 1 dX11_widen_12 rfl rfl ?_
        refine z_aloadn C 0 dX11_widen_13 rfl rfl ?_
        refine z_get C 0 (by decide) rfl rfl z_it11 19 (by decide) rfl fl_11_59 rfl dX11_widen_14 ?_
        refine z_iloadn C 1 dX11_widen_17 rfl rfl ?_
        refine z_iald C 16 (by decide) rfl (by decide) (by omega) (by omega) dX11_widen_18 ?_
        have rx33 := Ha_z (i1 : Int).toNat
        generalize ex33 : a_z (i1 : Int).toNat = x33 at rx33 ⊢
        refine z_iast C 17 (by decide) rfl (by decide) (by omega) (by omega) dX11_widen_19 ?_
        refine z_ext (S' := (z_zm ad ks s_edges s_isNeeded s_explored s_states s_isMoved s_runs s_runTime s_runMoves w_h a_machine a_from a_to a_channel a_resets a_guards a_guardOf a_limits a_limitOf a_places a_zones a_parent a_moveE a_moveF a_moves a_z (va_up fa_ahead (i1 : Int).toNat x33) a_at a_amounts a_way a_moments a_runAt a_runClock)) upM_a_ahead ?_
        have h34 : ∀ j, z_rg ((va_up fa_ahead (i1 : Int).toNat x33) j) := z_upP (P := fun j v => z_rg (v)) Hfa_ahead (by omega)
        refine z_iinc (L' := [(1, z_v (i1 + 1)), (0, .ref (ad 0))]) C 1 dX11_widen_20 rfl (by decide) rfl ?_
        refine z_goto (t := 2) C dX11_widen_23 (by decide) ?_
        refine z_loc (L' := [(0, .ref (ad 0)), (1, z_v (i1 + 1))]) [1, 0] rfl ?_
        exact ih2 (i1 + 1) (va_up fa_ahead (i1 : Int).toNat x33) h34 (by subst_vars; exact z_cp_add FA (by omega)) (by omega) (by omega)
  refine z_loc (L' := [(0, .ref (ad 0)), (1, z_v 0)]) [1, 0] rfl ?_
  exact (L2 (((16 : Int) - 0).toNat + 1)) 0 a_ahead Ha_ahead (fun j hj => absurd hj (by omega)) (by omega) (Nat.lt_succ_self _)
set_option maxRecDepth 20000 in
theorem cx_X11_later (l : Launch) {D : va_G} {A : Nat → Prop} {ad : Nat → Nat} {ks : z_Ks} {s_edges s_isNeeded s_explored s_states s_isMoved s_runs s_runTime s_runMoves : Int} {w_h : Int64} {a_machine a_from a_to a_channel a_resets a_guards a_guardOf a_limits a_limitOf a_places a_zones a_parent a_moveE a_moveF a_moves a_z a_ahead a_at a_amounts a_way a_moments a_runAt a_runClock : Nat → Int} {Y : Nat → Option va_E} {U V L : Int} {mo : Nat → Int} (Hs_edges : (0 ≤ s_edges ∧ s_edges ≤ 20)) (Ha_guards : (∀ j, 0 ≤ a_guards j ∧ a_guards j ≤ 2)) (Ha_guardOf : (∀ j, (j % 3 = 0 → a_guardOf j ≤ 3) ∧ 0 ≤ a_guardOf j ∧ a_guardOf j ≤ 1000)) (Ha_limits : (∀ j, 0 ≤ a_limits j ∧ a_limits j ≤ 2)) (Ha_limitOf : (∀ j, (j % 3 = 0 → a_limitOf j ≤ 3) ∧ 0 ≤ a_limitOf j ∧ a_limitOf j ≤ 1000)) (Ha_z : (∀ j, z_rg (a_z j))) (Ha_ahead : (∀ j, z_rg (a_ahead j))) (Ha_at : (∀ j, 0 ≤ a_at j ∧ a_at j ≤ 5)) (hmo : ∀ x : Int, 1 ≤ x → x ≤ 3 → z_gr x s_edges a_guards a_guardOf a_limits a_limitOf (mo x.toNat)) (hmr : ∀ x, 1 ≤ x → x < 4 → 0 ≤ mo x ∧ mo x ≤ 1000) (hlr : ∀ k : Int, 0 ≤ k → k < 18 → zo_tr (a_limits k.toNat) a_limitOf (6 * k)) (hZ : zo_Z U V L a_z) (hUV : 2001 ≤ U ∧ U ≤ V ∧ V + 2002 ≤ 24000) (hL : 0 ≤ L ∧ L ≤ 67000) : z_Met l yX11_later cX11_later 2 (some .boolean) 3 70 0 0 D A 24 ad ks [.ref (ad 0)] (z_zm ad ks s_edges s_isNeeded s_explored s_states s_isMoved s_runs s_runTime s_runMoves w_h a_machine a_from a_to a_channel a_resets a_guards a_guardOf a_limits a_limitOf a_places a_zones a_parent a_moveE a_moveF a_moves a_z a_ahead a_at a_amounts a_way a_moments a_runAt a_runClock) Y (fun r S' Y' => ∃ na_z : Nat → Int, ∃ na_ahead : Nat → Int, S' = (z_zm ad ks s_edges s_isNeeded s_explored s_states s_isMoved s_runs s_runTime s_runMoves w_h a_machine a_from a_to a_channel a_resets a_guards a_guardOf a_limits a_limitOf a_places a_zones a_parent a_moveE a_moveF a_moves na_z na_ahead a_at a_amounts a_way a_moments a_runAt a_runClock) ∧ Y = Y' ∧ (∀ j, z_rg (na_z j)) ∧ (∀ j, z_rg (na_ahead j)) ∧ ∃ z : Int, r = some (z_v z) ∧ (z = 1 ∧ zo_later a_limits a_limitOf a_at mo a_z na_z ∧ zo_Z 16016 16016 32015 na_z ∨ z = 0 ∧ ∀ c, ¬ zo_later a_limits a_limitOf a_at mo a_z c)) := by
  refine z_start2 (by decide) (Nat.le_of_ble_eq_true rfl) ?_
  intro p e R s m args below meth c Q C hRf hRc hRs hRl hQ hrt hnm
  refine z_loc (L' := [(0, .ref (ad 0))]) [0] rfl ?_
  refine z_iconst C dX11_later_0 ?_
  refine z_istoren (L' := [(1, z_v 1), (0, .ref (ad 0))]) C dX11_later_1 rfl (by decide) rfl ?_
  have L2 : ∀ (n : Nat), ∀ (i1 : Int) (fa_z : Nat → Int), ((∀ j, z_rg (fa_z j))) → (∀ k, k < 16 → fa_z k = if (k = 4 ∧ 1 < i1) ∨ (k = 8 ∧ 2 < i1) ∨ (k = 12 ∧ 3 < i1) then 100000 else a_z k) → (1 ≤ i1 ∧ i1 ≤ 4) → ((4 : Int) - i1).toNat < n → z_V p l e R s m args below meth c Q D A 24 ad 2 (z_zm ad ks s_edges s_isNeeded s_explored s_states s_isMoved s_runs s_runTime s_runMoves w_h a_machine a_from a_to a_channel a_resets a_guards a_guardOf a_limits a_limitOf a_places a_zones a_parent a_moveE a_moveF a_moves fa_z a_ahead a_at a_amounts a_way a_moments a_runAt a_runClock) Y 0 0 2 [(0, .ref (ad 0)), (1, z_v i1)] [] := by
    intro n
    induction n with
    | zero => intro i1 fa_z Hfa_z FT I1 hm; exact absurd hm (Nat.not_lt_zero _)
    | succ n ih2 =>
      intro i1 fa_z Hfa_z FT I1 hm
      refine z_iloadn C 1 dX11_later_2 rfl rfl ?_
      refine z_iconst C dX11_later_3 ?_
      refine z_icmp_ge (t := 23) C dX11_later_4 (by decide) (by omega) (by omega) (fun c1 => ?_) (fun c1 => ?_)
      · skip
        refine z_aloadn C 0 dX11_later_23 rfl rfl ?_
        have htm : ∀ k, k < 16 → fa_z k = zo_tm a_z k := zo_tmF FT (by omega)
        have hZ2 : zo_Z V (V + 2002) L fa_z := ((zo_tm_Z (by omega) (by omega) hZ).mono (Int.le_refl _) (by omega) (Int.le_refl _)).congr (fun k hk => (htm k hk).symm)
        refine z_callV C (cx_X11_keepLimits l Ha_at Ha_limits Ha_limitOf Hfa_z hlr hZ2 (show 2001 ≤ V ∧ V + 2002 ≤ V + 2002 ∧ V + 2002 ≤ 24000 by omega) (by omega)) mv_11_133 (z_atS 0 11 (by decide) rfl rfl rfl) pd_X11_keepLimits ⟨by omega, by omega⟩ ⟨by omega, by omega⟩ rfl (Nat.le_of_ble_eq_true rfl) dX11_later_24 ?_
        rintro _ _ _ ⟨n2, rfl, rfl, h5, z6, rfl, hz6⟩
        have hkl := hz6
        refine z_if_eq (t := 41) C dX11_later_27 (by decide) (by omega) (fun c7 => ?_) (fun c7 => ?_)
        · skip
          refine z_iconst C dX11_later_41 ?_
          rw [hQ]
          exact z_zret C hrt (by omega) dX11_later_42 (⟨n2, a_ahead, rfl, rfl, h5, Ha_ahead, _, rfl, by first | exact Or.inl ⟨rfl, ⟨_, zo_tmG htm hk2, hwd.2.1⟩, hwd.2.2⟩ | exact absurd hwd.1 (by omega) | exact Or.inr ⟨rfl, fun c hc => zo_tmN htm hkl (by omega) hc⟩⟩) (by omega) (by omega)
        · skip
          refine z_aloadn C 0 dX11_later_30 rfl rfl ?_
          obtain ⟨hk1, hk2, hk3⟩ := zo_kl hkl (by omega)
          refine z_callV C (cx_X11_widen l (by omega) Ha_guards Ha_guardOf Ha_limits Ha_limitOf h5 Ha_ahead hmo hmr hk3) mv_11_136 (z_atS 0 11 (by decide) rfl rfl rfl) pd_X11_widen ⟨by omega, by omega⟩ ⟨by omega, by omega⟩ rfl (Nat.le_of_ble_eq_true rfl) dX11_later_31 ?_
          rintro _ _ _ ⟨n8, n9, rfl, rfl, h12, h13, z14, rfl, hz14⟩
          have hwd := hz14
          refine z_if_eq (t := 41) C dX11_later_34 (by decide) (by omega) (fun c15 => ?_) (fun c15 => ?_)
          · skip
            refine z_iconst C dX11_later_41 ?_
            rw [hQ]
            exact z_zret C hrt (by omega) dX11_later_42 (⟨n8, n9, rfl, rfl, h12, h13, _, rfl, by first | exact Or.inl ⟨rfl, ⟨_, zo_tmG htm hk2, hwd.2.1⟩, hwd.2.2⟩ | exact absurd hwd.1 (by omega) | exact Or.inr ⟨rfl, fun c hc => zo_tmN htm hkl (by omega) hc⟩⟩) (by omega) (by omega)
          · skip
            refine z_iconst C dX11_later_37 ?_
            refine z_goto (t := 42) C dX11_later_38 (by decide) ?_
            rw [hQ]
            exact z_zret C hrt (by omega) dX11_later_42 (⟨n8, n9, rfl, rfl, h12, h13, _, rfl, by first | exact Or.inl ⟨rfl, ⟨_, zo_tmG htm hk2, hwd.2.1⟩, hwd.2.2⟩ | exact absurd hwd.1 (by omega) | exact Or.inr ⟨rfl, fun c hc => zo_tmN htm hkl (by omega) hc⟩⟩) (by omega) (by omega)
      · skip
        refine z_aloadn C 0 dX11_later_7 rfl rfl ?_
        refine z_get C 0 (by decide) rfl rfl z_it11 19 (by decide) rfl fl_11_59 rfl dX11_later_8 ?_
        refine z_iconst C dX11_later_11 ?_
        refine z_iloadn C 1 dX11_later_12 rfl rfl ?_
        refine z_imul C dX11_later_13 ?_
        refine z_ldc (n := 100000) C kc_11_113 (by decide) dX11_later_14 ?_
        refine z_iast C 16 (by decide) rfl (by decide) (by omega) (by omega) dX11_later_16 ?_
        refine z_ext (S' := (z_zm ad ks s_edges s_isNeeded s_explored s_states s_isMoved s_runs s_runTime s_runMoves w_h a_machine a_from a_to a_channel a_resets a_guards a_guardOf a_limits a_limitOf a_places a_zones a_parent a_moveE a_moveF a_moves (va_up fa_z ((4 * i1) : Int).toNat 100000) a_ahead a_at a_amounts a_way a_moments a_runAt a_runClock)) upM_a_z ?_
        have h16 : ∀ j, z_rg ((va_up fa_z ((4 * i1) : Int).toNat 100000) j) := z_upP (P := fun j v => z_rg (v)) Hfa_z (by omega)
        refine z_iinc (L' := [(1, z_v (i1 + 1)), (0, .ref (ad 0))]) C 1 dX11_later_17 rfl (by decide) rfl ?_
        refine z_goto (t := 2) C dX11_later_20 (by decide) ?_
        refine z_loc (L' := [(0, .ref (ad 0)), (1, z_v (i1 + 1))]) [1, 0] rfl ?_
        exact ih2 (i1 + 1) (va_up fa_z ((4 * i1) : Int).toNat 100000) h16 (zo_tmI FT (by omega)) (by omega) (by omega)
  refine z_loc (L' := [(0, .ref (ad 0)), (1, z_v 1)]) [1, 0] rfl ?_
  exact (L2 (((4 : Int) - 1).toNat + 1)) 1 a_z Ha_z (fun k hk => by rw [if_neg (by omega)]) (by omega) (Nat.lt_succ_self _)
