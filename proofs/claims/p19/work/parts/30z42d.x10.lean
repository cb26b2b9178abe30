theorem zo_mt3 {f g : Nat → Int} {i n : Int} (h : ∀ m : Nat, (m : Int) < i → f (3 * n.toNat + m) = g m) (h0 : 0 ≤ i) (hn : 0 ≤ n) : ∀ m : Nat, (m : Int) < i + 1 → va_up f (3 * n + i).toNat (g i.toNat) (3 * n.toNat + m) = g m := by
  intro m hm
  unfold va_up
  by_cases c : 3 * n.toNat + m = (3 * n + i).toNat
  · rw [if_pos c]
    congr 1
    omega
  · rw [if_neg c]
    exact h m (by omega)
theorem zo_mt16 {f g : Nat → Int} {i n : Int} (h : ∀ m : Nat, (m : Int) < i → f (16 * n.toNat + m) = g m) (h0 : 0 ≤ i) (hn : 0 ≤ n) : ∀ m : Nat, (m : Int) < i + 1 → va_up f (16 * n + i).toNat (g i.toNat) (16 * n.toNat + m) = g m := by
  intro m hm
  unfold va_up
  by_cases c : 16 * n.toNat + m = (16 * n + i).toNat
  · rw [if_pos c]
    congr 1
    omega
  · rw [if_neg c]
    exact h m (by omega)
theorem zo_cp3 {f g : Nat → Int} {i n : Int} (h : ∀ m : Nat, (m : Int) < i → f m = g (3 * n.toNat + m)) (h0 : 0 ≤ i) (hn : 0 ≤ n) : ∀ m : Nat, (m : Int) < i + 1 → va_up f i.toNat (g (3 * n + i).toNat) m = g (3 * n.toNat + m) := by
  intro m hm
  unfold va_up
  by_cases c : m = i.toNat
  · rw [if_pos c]
    congr 1
    omega
  · rw [if_neg c]
    exact h m (by omega)
theorem zo_cp16 {f g : Nat → Int} {i n : Int} (h : ∀ m : Nat, (m : Int) < i → f m = g (16 * n.toNat + m)) (h0 : 0 ≤ i) (hn : 0 ≤ n) : ∀ m : Nat, (m : Int) < i + 1 → va_up f i.toNat (g (16 * n + i).toNat) m = g (16 * n.toNat + m) := by
  intro m hm
  unfold va_up
  by_cases c : m = i.toNat
  · rw [if_pos c]
    congr 1
    omega
  · rw [if_neg c]
    exact h m (by omega)
theorem zo_meet {pl pl' zn zn' pa me mf mv at0 z : Nat → Int} {N b e f m i j : Int} (hN : 0 ≤ N) (FP : ∀ m : Nat, (m : Int) < i → pl' (3 * N.toNat + m) = at0 m) (FQ : ∀ j : Nat, (j : Int) < 3 * N → pl' j = pl j) (FR : ∀ m : Nat, (m : Int) < j → zn' (16 * N.toNat + m) = z m) (FS : ∀ j : Nat, (j : Int) < 16 * N → zn' j = zn j) (hi : 3 ≤ i) (hj : 16 ≤ j) {v : Int} (hv : m = v) : zo_ab (N + 1) (zo_sM pl' zn' (va_up pa N.toNat b) (va_up me N.toNat e) (va_up mf N.toNat f) (va_up mv N.toNat m)) = zo_ab N (zo_sM pl zn pa me mf mv) ++ [(zo_n3 at0, zo_n16 z, b, e, f, v)] := by
  subst hv
  refine zo_ab_add hN (fun k hk => ?_) ?_
  · unfold zo_sM
    rw [zo_n3_eq (fun m hm => FQ (3 * k + m) (by omega)), zo_n16_eq (fun m hm => FS (16 * k + m) (by omega))]
    simp only [va_up]
    rw [if_neg (by omega), if_neg (by omega), if_neg (by omega), if_neg (by omega)]
  · unfold zo_sM
    rw [zo_n3_eq (fun m hm => FP m (by omega)), zo_n16_eq (fun m hm => FR m (by omega)), z_upS, z_upS, z_upS, z_upS]
set_option maxRecDepth 20000 in
theorem cx_X11_isMet (l : Launch) {D : va_G} {A : Nat → Prop} {ad : Nat → Nat} {ks : z_Ks} {s_edges s_isNeeded s_explored s_states s_isMoved s_runs s_runTime s_runMoves : Int} {w_h : Int64} {a_machine a_from a_to a_channel a_resets a_guards a_guardOf a_limits a_limitOf a_places a_zones a_parent a_moveE a_moveF a_moves a_z a_ahead a_at a_amounts a_way a_moments a_runAt a_runClock : Nat → Int} {Y : Nat → Option va_E} (Hs_states : (0 ≤ s_states ∧ s_states ≤ 120)) (Ha_places : (∀ j, 0 ≤ a_places j ∧ a_places j ≤ 5)) (Ha_at : (∀ j, 0 ≤ a_at j ∧ a_at j ≤ 5)) (Ha_z : (∀ j, z_rg (a_z j))) (Ha_zones : (∀ j, z_rg (a_zones j))) : z_Met l yX11_isMet cX11_isMet 4 (some .boolean) 0 0 0 0 D A 24 ad ks [.ref (ad 0)] (z_zm ad ks s_edges s_isNeeded s_explored s_states s_isMoved s_runs s_runTime s_runMoves w_h a_machine a_from a_to a_channel a_resets a_guards a_guardOf a_limits a_limitOf a_places a_zones a_parent a_moveE a_moveF a_moves a_z a_ahead a_at a_amounts a_way a_moments a_runAt a_runClock) Y (fun r S' Y' => S' = (z_zm ad ks s_edges s_isNeeded s_explored s_states s_isMoved s_runs s_runTime s_runMoves w_h a_machine a_from a_to a_channel a_resets a_guards a_guardOf a_limits a_limitOf a_places a_zones a_parent a_moveE a_moveF a_moves a_z a_ahead a_at a_amounts a_way a_moments a_runAt a_runClock) ∧ Y = Y' ∧ ∃ z : Int, r = some (z_v z) ∧ (z = 1 ∧ (∃ i : Int, 0 ≤ i ∧ i < s_states ∧ zo_cv a_places a_zones a_at a_z i) ∨ z = 0 ∧ ¬ (∃ i : Int, 0 ≤ i ∧ i < s_states ∧ zo_cv a_places a_zones a_at a_z i))) := by
  refine z_start2 (by decide) (Nat.le_of_ble_eq_true rfl) ?_
  intro p e R s m args below meth c Q C hRf hRc hRs hRl hQ hrt hnm
  refine z_loc (L' := [(0, .ref (ad 0))]) [0] rfl ?_
  refine z_iconst C dX11_isMet_0 ?_
  refine z_istoren (L' := [(1, z_v 0), (0, .ref (ad 0))]) C dX11_isMet_1 rfl (by decide) rfl ?_
  have L2 : ∀ (n : Nat), ∀ (i1 : Int), (∀ i : Int, 0 ≤ i → i < i1 → ¬ zo_cv a_places a_zones a_at a_z i) → (0 ≤ i1 ∧ i1 ≤ s_states) → ((s_states : Int) - i1).toNat < n → z_V p l e R s m args below meth c Q D A 24 ad 4 (z_zm ad ks s_edges s_isNeeded s_explored s_states s_isMoved s_runs s_runTime s_runMoves w_h a_machine a_from a_to a_channel a_resets a_guards a_guardOf a_limits a_limitOf a_places a_zones a_parent a_moveE a_moveF a_moves a_z a_ahead a_at a_amounts a_way a_moments a_runAt a_runClock) Y 0 0 2 [(0, .ref (ad 0)), (1, z_v i1)] [] := by
    intro n
    induction n with
    | zero => intro i1 NF I1 hm; exact absurd hm (Nat.not_lt_zero _)
    | succ n ih2 =>
      intro i1 NF I1 hm
      refine z_iloadn C 1 dX11_isMet_2 rfl rfl ?_
      refine z_aloadn C 0 dX11_isMet_3 rfl rfl ?_
      refine z_get C 0 (by decide) rfl rfl z_it11 12 (by decide) rfl fl_11_94 rfl dX11_isMet_4 ?_
      refine z_icmp_ge (t := 110) C dX11_isMet_7 (by decide) (by omega) (by omega) (fun c1 => ?_) (fun c1 => ?_)
      · skip
        refine z_iconst C dX11_isMet_110 ?_
        rw [hQ]
        exact z_zret C hrt (by omega) dX11_isMet_111 (⟨rfl, rfl, _, rfl, Or.inr ⟨rfl, fun ⟨i, h0, h1, h2⟩ => NF i h0 (by omega) h2⟩⟩) (by omega) (by omega)
      · skip
        refine z_iconst C dX11_isMet_10 ?_
        refine z_istoren (L' := [(2, z_v 1), (0, .ref (ad 0)), (1, z_v i1)]) C dX11_isMet_11 rfl (by decide) rfl ?_
        refine z_iconst C dX11_isMet_12 ?_
        refine z_istoren (L' := [(3, z_v 0), (2, z_v 1), (0, .ref (ad 0)), (1, z_v i1)]) C dX11_isMet_13 rfl (by decide) rfl ?_
        have L14 : ∀ (n : Nat), ∀ (i2 : Int) (i3 : Int), (z_K3 i2 (∀ m : Int, 0 ≤ m → m < i3 → a_places (3 * i1 + m).toNat = a_at m.toNat) (zo_cv a_places a_zones a_at a_z i1)) → (0 ≤ i3 ∧ i3 ≤ 3) → (i2 = 0 ∨ i2 = 1) → ((3 : Int) - i3).toNat < n → z_V p l e R s m args below meth c Q D A 24 ad 4 (z_zm ad ks s_edges s_isNeeded s_explored s_states s_isMoved s_runs s_runTime s_runMoves w_h a_machine a_from a_to a_channel a_resets a_guards a_guardOf a_limits a_limitOf a_places a_zones a_parent a_moveE a_moveF a_moves a_z a_ahead a_at a_amounts a_way a_moments a_runAt a_runClock) Y 0 0 14 [(0, .ref (ad 0)), (1, z_v i1), (2, z_v i2), (3, z_v i3)] [] := by
          intro n
          induction n with
          | zero => intro i2 i3 K I3 B2 hm; exact absurd hm (Nat.not_lt_zero _)
          | succ n ih14 =>
            intro i2 i3 K I3 B2 hm
            refine z_iloadn C 3 dX11_isMet_14 rfl rfl ?_
            refine z_iconst C dX11_isMet_15 ?_
            refine z_icmp_ge (t := 54) C dX11_isMet_16 (by decide) (by omega) (by omega) (fun c2 => ?_) (fun c2 => ?_)
            · skip
              refine z_iconst C dX11_isMet_54 ?_
              refine z_istoren (L' := [(3, z_v 0), (0, .ref (ad 0)), (1, z_v i1), (2, z_v i2)]) C dX11_isMet_55 rfl (by decide) rfl ?_
              have L56 : ∀ (n : Nat), ∀ (i2 : Int) (i3 : Int), (z_K3 i2 ((∀ m : Int, 0 ≤ m → m < 3 → a_places (3 * i1 + m).toNat = a_at m.toNat) ∧ (∀ k : Int, 0 ≤ k → k < i3 → a_z k.toNat ≤ a_zones (16 * i1 + k).toNat)) (zo_cv a_places a_zones a_at a_z i1)) → (0 ≤ i3 ∧ i3 ≤ 16) → (i2 = 0 ∨ i2 = 1) → ((16 : Int) - i3).toNat < n → z_V p l e R s m args below meth c Q D A 24 ad 4 (z_zm ad ks s_edges s_isNeeded s_explored s_states s_isMoved s_runs s_runTime s_runMoves w_h a_machine a_from a_to a_channel a_resets a_guards a_guardOf a_limits a_limitOf a_places a_zones a_parent a_moveE a_moveF a_moves a_z a_ahead a_at a_amounts a_way a_moments a_runAt a_runClock) Y 0 0 56 [(0, .ref (ad 0)), (1, z_v i1), (2, z_v i2), (3, z_v i3)] [] := by
                intro n
                induction n with
                | zero => intro i2 i3 K I3 B2 hm; exact absurd hm (Nat.not_lt_zero _)
                | succ n ih56 =>
                  intro i2 i3 K I3 B2 hm
                  refine z_iloadn C 3 dX11_isMet_56 rfl rfl ?_
                  refine z_bipush C dX11_isMet_57 (by decide) ?_
                  refine z_icmp_ge (t := 98) C dX11_isMet_59 (by decide) (by omega) (by omega) (fun c3 => ?_) (fun c3 => ?_)
                  · skip
                    refine z_iloadn C 2 dX11_isMet_98 rfl rfl ?_
                    refine z_if_eq (t := 104) C dX11_isMet_99 (by decide) (by omega) (fun c4 => ?_) (fun c4 => ?_)
                    · skip
                      refine z_iinc (L' := [(1, z_v (i1 + 1)), (0, .ref (ad 0)), (2, z_v i2), (3, z_v i3)]) C 1 dX11_isMet_104 rfl (by decide) rfl ?_
                      refine z_goto (t := 2) C dX11_isMet_107 (by decide) ?_
                      refine z_loc (L' := [(0, .ref (ad 0)), (1, z_v (i1 + 1))]) [1, 0] rfl ?_
                      exact ih2 (i1 + 1) (z_snoc NF (z_isz0 (K.fin (fun a => ⟨a.1, fun k h0 h1 => a.2 k h0 (by omega)⟩)) (by omega))) (by omega) (by omega)
                    · skip
                      refine z_iconst C dX11_isMet_102 ?_
                      rw [hQ]
                      exact z_zret C hrt (by omega) dX11_isMet_103 (⟨rfl, rfl, _, rfl, Or.inl ⟨rfl, i1, by omega, by omega, z_isz1 (K.fin (fun a => ⟨a.1, fun k h0 h1 => a.2 k h0 (by omega)⟩)) (by omega)⟩⟩) (by omega) (by omega)
                  · skip
                    refine z_iloadn C 2 dX11_isMet_62 rfl rfl ?_
                    refine z_if_eq (t := 90) C dX11_isMet_63 (by decide) (by omega) (fun c5 => ?_) (fun c5 => ?_)
                    · skip
                      refine z_iconst C dX11_isMet_90 ?_
                      refine z_istoren (L' := [(2, z_v 0), (0, .ref (ad 0)), (1, z_v i1), (3, z_v i3)]) C dX11_isMet_91 rfl (by decide) rfl ?_
                      refine z_iinc (L' := [(3, z_v (i3 + 1)), (2, z_v 0), (0, .ref (ad 0)), (1, z_v i1)]) C 3 dX11_isMet_92 rfl (by decide) rfl ?_
                      refine z_goto (t := 56) C dX11_isMet_95 (by decide) ?_
                      refine z_loc (L' := [(0, .ref (ad 0)), (1, z_v i1), (2, z_v 0), (3, z_v (i3 + 1))]) [2, 3, 1, 0] rfl ?_
                      exact ih56 0 (i3 + 1) (by first | exact K.one (by omega) (fun a => ⟨a.1, z_snoc a.2 (by omega)⟩) | exact K.zero (Or.inl (by omega)) | exact K.zero (Or.inr (fun L => absurd (L.2 i3 (by omega) (by omega)) (by omega)))) (by omega) (by omega) (by omega)
                    · skip
                      refine z_aloadn C 0 dX11_isMet_66 rfl rfl ?_
                      refine z_get C 0 (by decide) rfl rfl z_it11 19 (by decide) rfl fl_11_59 rfl dX11_isMet_67 ?_
                      refine z_iloadn C 3 dX11_isMet_70 rfl rfl ?_
                      refine z_iald C 16 (by decide) rfl (by decide) (by omega) (by omega) dX11_isMet_71 ?_
                      have rx6 := Ha_z (i3 : Int).toNat
                      generalize ex6 : a_z (i3 : Int).toNat = x6 at rx6 ⊢
                      refine z_aloadn C 0 dX11_isMet_72 rfl rfl ?_
                      refine z_get C 0 (by decide) rfl rfl z_it11 14 (by decide) rfl fl_11_44 rfl dX11_isMet_73 ?_
                      refine z_bipush C dX11_isMet_76 (by decide) ?_
                      refine z_iloadn C 1 dX11_isMet_78 rfl rfl ?_
                      refine z_imul C dX11_isMet_79 ?_
                      refine z_iloadn C 3 dX11_isMet_80 rfl rfl ?_
                      refine z_iadd C dX11_isMet_81 ?_
                      refine z_iald C 11 (by decide) rfl (by decide) (by omega) (by omega) dX11_isMet_82 ?_
                      have rx7 := Ha_zones (((16 * i1) + i3) : Int).toNat
                      generalize ex7 : a_zones (((16 * i1) + i3) : Int).toNat = x7 at rx7 ⊢
                      refine z_icmp_gt (t := 90) C dX11_isMet_83 (by decide) (by omega) (by omega) (fun c8 => ?_) (fun c8 => ?_)
                      · skip
                        refine z_iconst C dX11_isMet_90 ?_
                        refine z_istoren (L' := [(2, z_v 0), (0, .ref (ad 0)), (1, z_v i1), (3, z_v i3)]) C dX11_isMet_91 rfl (by decide) rfl ?_
                        refine z_iinc (L' := [(3, z_v (i3 + 1)), (2, z_v 0), (0, .ref (ad 0)), (1, z_v i1)]) C 3 dX11_isMet_92 rfl (by decide) rfl ?_
                        refine z_goto (t := 56) C dX11_isMet_95 (by decide) ?_
                        refine z_loc (L' := [(0, .ref (ad 0)), (1, z_v i1), (2, z_v 0), (3, z_v (i3 + 1))]) [2, 3, 1, 0] rfl ?_
                        exact ih56 0 (i3 + 1) (by first | exact K.one (by omega) (fun a => ⟨a.1, z_snoc a.2 (by omega)⟩) | exact K.zero (Or.inl (by omega)) | exact K.zero (Or.inr (fun L => absurd (L.2 i3 (by omega) (by omega)) (by omega)))) (by omega) (by omega) (by omega)
                      · skip
                        refine z_iconst C dX11_isMet_86 ?_
                        refine z_goto (t := 91) C dX11_isMet_87 (by decide) ?_
                        refine z_istoren (L' := [(2, z_v 1), (0, .ref (ad 0)), (1, z_v i1), (3, z_v i3)]) C dX11_isMet_91 rfl (by decide) rfl ?_
                        refine z_iinc (L' := [(3, z_v (i3 + 1)), (2, z_v 1), (0, .ref (ad 0)), (1, z_v i1)]) C 3 dX11_isMet_92 rfl (by decide) rfl ?_
                        refine z_goto (t := 56) C dX11_isMet_95 (by decide) ?_
                        refine z_loc (L' := [(0, .ref (ad 0)), (1, z_v i1), (2, z_v 1), (3, z_v (i3 + 1))]) [2, 3, 1, 0] rfl ?_
                        exact ih56 1 (i3 + 1) (by first | exact K.one (by omega) (fun a => ⟨a.1, z_snoc a.2 (by omega)⟩) | exact K.zero (Or.inl (by omega)) | exact K.zero (Or.inr (fun L => absurd (L.2 i3 (by omega) (by omega)) (by omega)))) (by omega) (by omega) (by omega)
              refine z_loc (L' := [(0, .ref (ad 0)), (1, z_v i1), (2, z_v i2), (3, z_v 0)]) [1, 2, 3, 0] rfl ?_
              exact (L56 (((16 : Int) - 0).toNat + 1)) i2 0 (K.mono (fun a => ⟨fun m h0 h1 => a m h0 (by omega), z_vac⟩)) (by omega) (by omega) (Nat.lt_succ_self _)
            · skip
              refine z_iloadn C 2 dX11_isMet_19 rfl rfl ?_
              refine z_if_eq (t := 46) C dX11_isMet_20 (by decide) (by omega) (fun c9 => ?_) (fun c9 => ?_)
              · skip
                refine z_iconst C dX11_isMet_46 ?_
                refine z_istoren (L' := [(2, z_v 0), (0, .ref (ad 0)), (1, z_v i1), (3, z_v i3)]) C dX11_isMet_47 rfl (by decide) rfl ?_
                refine z_iinc (L' := [(3, z_v (i3 + 1)), (2, z_v 0), (0, .ref (ad 0)), (1, z_v i1)]) C 3 dX11_isMet_48 rfl (by decide) rfl ?_
                refine z_goto (t := 14) C dX11_isMet_51 (by decide) ?_
                refine z_loc (L' := [(0, .ref (ad 0)), (1, z_v i1), (2, z_v 0), (3, z_v (i3 + 1))]) [2, 3, 1, 0] rfl ?_
                exact ih14 0 (i3 + 1) (by first | exact K.one (by omega) (fun a => z_snoc a (by omega)) | exact K.zero (Or.inl (by omega)) | exact K.zero (Or.inr (fun L => absurd (L.1 i3 (by omega) (by omega)) (by omega)))) (by omega) (by omega) (by omega)
              · skip
                refine z_aloadn C 0 dX11_isMet_23 rfl rfl ?_
                refine z_get C 0 (by decide) rfl rfl z_it11 13 (by decide) rfl fl_11_41 rfl dX11_isMet_24 ?_
                refine z_iconst C dX11_isMet_27 ?_
                refine z_iloadn C 1 dX11_isMet_28 rfl rfl ?_
                refine z_imul C dX11_isMet_29 ?_
                refine z_iloadn C 3 dX11_isMet_30 rfl rfl ?_
                refine z_iadd C dX11_isMet_31 ?_
                refine z_iald C 10 (by decide) rfl (by decide) (by omega) (by omega) dX11_isMet_32 ?_
                have rx10 := Ha_places (((3 * i1) + i3) : Int).toNat
                generalize ex10 : a_places (((3 * i1) + i3) : Int).toNat = x10 at rx10 ⊢
                refine z_aloadn C 0 dX11_isMet_33 rfl rfl ?_
                refine z_get C 0 (by decide) rfl rfl z_it11 21 (by decide) rfl fl_11_65 rfl dX11_isMet_34 ?_
                refine z_iloadn C 3 dX11_isMet_37 rfl rfl ?_
                refine z_iald C 18 (by decide) rfl (by decide) (by omega) (by omega) dX11_isMet_38 ?_
                have rx11 := Ha_at (i3 : Int).toNat
                generalize ex11 : a_at (i3 : Int).toNat = x11 at rx11 ⊢
                refine z_icmp_ne (t := 46) C dX11_isMet_39 (by decide) (by omega) (by omega) (fun c12 => ?_) (fun c12 => ?_)
                · skip
                  refine z_iconst C dX11_isMet_46 ?_
                  refine z_istoren (L' := [(2, z_v 0), (0, .ref (ad 0)), (1, z_v i1), (3, z_v i3)]) C dX11_isMet_47 rfl (by decide) rfl ?_
                  refine z_iinc (L' := [(3, z_v (i3 + 1)), (2, z_v 0), (0, .ref (ad 0)), (1, z_v i1)]) C 3 dX11_isMet_48 rfl (by decide) rfl ?_
                  refine z_goto (t := 14) C dX11_isMet_51 (by decide) ?_
                  refine z_loc (L' := [(0, .ref (ad 0)), (1, z_v i1), (2, z_v 0), (3, z_v (i3 + 1))]) [2, 3, 1, 0] rfl ?_
                  exact ih14 0 (i3 + 1) (by first | exact K.one (by omega) (fun a => z_snoc a (by omega)) | exact K.zero (Or.inl (by omega)) | exact K.zero (Or.inr (fun L => absurd (L.1 i3 (by omega) (by omega)) (by omega)))) (by omega) (by omega) (by omega)
                · skip
                  refine z_iconst C dX11_isMet_42 ?_
                  refine z_goto (t := 47) C dX11_isMet_43 (by decide) ?_
                  refine z_istoren (L' := [(2, z_v 1), (0, .ref (ad 0)), (1, z_v i1), (3, z_v i3)]) C dX11_isMet_47 rfl (by decide) rfl ?_
                  refine z_iinc (L' := [(3, z_v (i3 + 1)), (2, z_v 1), (0, .ref (ad 0)), (1, z_v i1)]) C 3 dX11_isMet_48 rfl (by decide) rfl ?_
                  refine z_goto (t := 14) C dX11_isMet_51 (by decide) ?_
                  refine z_loc (L' := [(0, .ref (ad 0)), (1, z_v i1), (2, z_v 1), (3, z_v (i3 + 1))]) [2, 3, 1, 0] rfl ?_
                  exact ih14 1 (i3 + 1) (by first | exact K.one (by omega) (fun a => z_snoc a (by omega)) | exact K.zero (Or.inl (by omega)) | exact K.zero (Or.inr (fun L => absurd (L.1 i3 (by omega) (by omega)) (by omega)))) (by omega) (by omega) (by omega)
        refine z_loc (L' := [(0, .ref (ad 0)), (1, z_v i1), (2, z_v 1), (3, z_v 0)]) [2, 3, 1, 0] rfl ?_
        exact (L14 (((3 : Int) - 0).toNat + 1)) 1 0 (z_K3.ini z_vac) (by omega) (by omega) (Nat.lt_succ_self _)
  refine z_loc (L' := [(0, .ref (ad 0)), (1, z_v 0)]) [1, 0] rfl ?_
  exact (L2 (((s_states : Int) - 0).toNat + 1)) 0 (z_vac) (by omega) (Nat.lt_succ_self _)
set_option maxRecDepth 20000 in
theorem cx_X11_meet (l : Launch) {D : va_G} {A : Nat → Prop} {ad : Nat → Nat} {ks : z_Ks} {s_edges s_isNeeded s_explored s_states s_isMoved s_runs s_runTime s_runMoves : Int} {w_h : Int64} {a_machine a_from a_to a_channel a_resets a_guards a_guardOf a_limits a_limitOf a_places a_zones a_parent a_moveE a_moveF a_moves a_z a_ahead a_at a_amounts a_way a_moments a_runAt a_runClock : Nat → Int} {Y : Nat → Option va_E} (by0 e0 f0 : Int) (Hs_states : (0 ≤ s_states ∧ s_states ≤ 120)) (Ha_at : (∀ j, 0 ≤ a_at j ∧ a_at j ≤ 5)) (Ha_z : (∀ j, z_rg (a_z j))) (Ha_places : (∀ j, 0 ≤ a_places j ∧ a_places j ≤ 5)) (Ha_zones : (∀ j, z_rg (a_zones j))) (Ha_parent : (∀ j, -1 ≤ a_parent j ∧ a_parent j ≤ 119)) (Ha_moveE : (∀ j, -1 ≤ a_moveE j ∧ a_moveE j ≤ 19)) (Ha_moveF : (∀ j, -1 ≤ a_moveF j ∧ a_moveF j ≤ 19)) (Ha_moves : (∀ j, 0 ≤ a_moves j ∧ a_moves j ≤ 40)) (hn : s_states ≤ 119) (hb : -1 ≤ by0 ∧ by0 < s_states) (he : -1 ≤ e0 ∧ e0 ≤ 19) (hf : -1 ≤ f0 ∧ f0 ≤ 19) (hm : 0 ≤ by0 → a_moves by0.toNat ≤ 39 ∧ 0 ≤ e0) (hch : z_ch s_states a_parent a_moves a_moveE) : z_Met l yX11_meet cX11_meet 5 none 0 0 0 0 D A 24 ad ks [.ref (ad 0), z_v by0, z_v e0, z_v f0] (z_zm ad ks s_edges s_isNeeded s_explored s_states s_isMoved s_runs s_runTime s_runMoves w_h a_machine a_from a_to a_channel a_resets a_guards a_guardOf a_limits a_limitOf a_places a_zones a_parent a_moveE a_moveF a_moves a_z a_ahead a_at a_amounts a_way a_moments a_runAt a_runClock) Y (fun r S' Y' => ∃ na_places : Nat → Int, ∃ na_zones : Nat → Int, ∃ na_parent : Nat → Int, ∃ na_moveE : Nat → Int, ∃ na_moveF : Nat → Int, ∃ na_moves : Nat → Int, S' = (z_zm ad ks s_edges s_isNeeded s_explored (s_states + 1) s_isMoved s_runs s_runTime s_runMoves w_h a_machine a_from a_to a_channel a_resets a_guards a_guardOf a_limits a_limitOf na_places na_zones na_parent na_moveE na_moveF na_moves a_z a_ahead a_at a_amounts a_way a_moments a_runAt a_runClock) ∧ Y = Y' ∧ (∀ j, 0 ≤ na_places j ∧ na_places j ≤ 5) ∧ (∀ j, z_rg (na_zones j)) ∧ (∀ j, -1 ≤ na_parent j ∧ na_parent j ≤ 119) ∧ (∀ j, -1 ≤ na_moveE j ∧ na_moveE j ≤ 19) ∧ (∀ j, -1 ≤ na_moveF j ∧ na_moveF j ≤ 19) ∧ (∀ j, 0 ≤ na_moves j ∧ na_moves j ≤ 40) ∧ z_ch (s_states + 1) na_parent na_moves na_moveE ∧ (∀ j, j ≠ s_states.toNat → na_moves j = a_moves j) ∧ (zo_ab (s_states + 1) (zo_sM na_places na_zones na_parent na_moveE na_moveF na_moves) = zo_ab s_states (zo_sM a_places a_zones a_parent a_moveE a_moveF a_moves) ++ [(zo_n3 a_at, zo_n16 a_z, by0, e0, f0, z_sel (by0 = -1) 0 (a_moves by0.toNat + 1))]) ∧ (∀ k, k < 16 → na_zones (16 * s_states.toNat + k) = a_z k) ∧ (∀ j : Nat, (j : Int) < 16 * s_states → na_zones j = a_zones j) ∧ r = none) := by
  refine z_start2 (by decide) (Nat.le_of_ble_eq_true rfl) ?_
  intro p e R s m args below meth c Q C hRf hRc hRs hRl hQ hrt hnm
  refine z_loc (L' := [(0, .ref (ad 0)), (1, z_v by0), (2, z_v e0), (3, z_v f0)]) [0, 1, 2, 3] rfl ?_
  refine z_iconst C dX11_meet_0 ?_
  refine z_istore (L' := [(4, z_v 0), (0, .ref (ad 0)), (1, z_v by0), (2, z_v e0), (3, z_v f0)]) C dX11_meet_1 (by decide) rfl ?_
  have L3 : ∀ (n : Nat), ∀ (i4 : Int) (fa_places : Nat → Int), ((∀ j, 0 ≤ fa_places j ∧ fa_places j ≤ 5)) → (∀ m : Nat, (m : Int) < i4 → fa_places (3 * s_states.toNat + m) = a_at m) → (∀ j : Nat, (j : Int) < 3 * s_states → fa_places j = a_places j) → (0 ≤ i4 ∧ i4 ≤ 3) → ((3 : Int) - i4).toNat < n → z_V p l e R s m args below meth c Q D A 24 ad 5 (z_zm ad ks s_edges s_isNeeded s_explored s_states s_isMoved s_runs s_runTime s_runMoves w_h a_machine a_from a_to a_channel a_resets a_guards a_guardOf a_limits a_limitOf fa_places a_zones a_parent a_moveE a_moveF a_moves a_z a_ahead a_at a_amounts a_way a_moments a_runAt a_runClock) Y 0 0 3 [(0, .ref (ad 0)), (1, z_v by0), (2, z_v e0), (3, z_v f0), (4, z_v i4)] [] := by
    intro n
    induction n with
    | zero => intro i4 fa_places Hfa_places FP FQ I4 hm; exact absurd hm (Nat.not_lt_zero _)
    | succ n ih3 =>
      intro i4 fa_places Hfa_places FP FQ I4 hm
      refine z_iload C 4 dX11_meet_3 rfl ?_
      refine z_iconst C dX11_meet_5 ?_
      refine z_icmp_ge (t := 36) C dX11_meet_6 (by decide) (by omega) (by omega) (fun c1 => ?_) (fun c1 => ?_)
      · skip
        refine z_iconst C dX11_meet_36 ?_
        refine z_istore (L' := [(4, z_v 0), (0, .ref (ad 0)), (1, z_v by0), (2, z_v e0), (3, z_v f0)]) C dX11_meet_37 (by decide) rfl ?_
        have L39 : ∀ (n : Nat), ∀ (i4 : Int) (fa_zones : Nat → Int), ((∀ j, z_rg (fa_zones j))) → (∀ m : Nat, (m : Int) < i4 → fa_zones (16 * s_states.toNat + m) = a_z m) → (∀ j : Nat, (j : Int) < 16 * s_states → fa_zones j = a_zones j) → (0 ≤ i4 ∧ i4 ≤ 16) → ((16 : Int) - i4).toNat < n → z_V p l e R s m args below meth c Q D A 24 ad 5 (z_zm ad ks s_edges s_isNeeded s_explored s_states s_isMoved s_runs s_runTime s_runMoves w_h a_machine a_from a_to a_channel a_resets a_guards a_guardOf a_limits a_limitOf fa_places fa_zones a_parent a_moveE a_moveF a_moves a_z a_ahead a_at a_amounts a_way a_moments a_runAt a_runClock) Y 0 0 39 [(0, .ref (ad 0)), (1, z_v by0), (2, z_v e0), (3, z_v f0), (4, z_v i4)] [] := by
          intro n
          induction n with
          | zero => intro i4 fa_zones Hfa_zones FR FS I4 hm; exact absurd hm (Nat.not_lt_zero _)
          | succ n ih39 =>
            intro i4 fa_zones Hfa_zones FR FS I4 hm
            refine z_iload C 4 dX11_meet_39 rfl ?_
            refine z_bipush C dX11_meet_41 (by decide) ?_
            refine z_icmp_ge (t := 74) C dX11_meet_43 (by decide) (by omega) (by omega) (fun c2 => ?_) (fun c2 => ?_)
            · skip
              refine z_aloadn C 0 dX11_meet_74 rfl rfl ?_
              refine z_get C 0 (by decide) rfl rfl z_it11 15 (by decide) rfl fl_11_47 rfl dX11_meet_75 ?_
              refine z_aloadn C 0 dX11_meet_78 rfl rfl ?_
              refine z_get C 0 (by decide) rfl rfl z_it11 12 (by decide) rfl fl_11_94 rfl dX11_meet_79 ?_
              refine z_iloadn C 1 dX11_meet_82 rfl rfl ?_
              refine z_iast C 12 (by decide) rfl (by decide) (by omega) (by omega) dX11_meet_83 ?_
              refine z_ext (S' := (z_zm ad ks s_edges s_isNeeded s_explored s_states s_isMoved s_runs s_runTime s_runMoves w_h a_machine a_from a_to a_channel a_resets a_guards a_guardOf a_limits a_limitOf fa_places fa_zones (va_up a_parent (s_states : Int).toNat by0) a_moveE a_moveF a_moves a_z a_ahead a_at a_amounts a_way a_moments a_runAt a_runClock)) upM_a_parent ?_
              have h3 : ∀ j, -1 ≤ (va_up a_parent (s_states : Int).toNat by0) j ∧ (va_up a_parent (s_states : Int).toNat by0) j ≤ 119 := z_upP (P := fun j v => -1 ≤ v ∧ v ≤ 119) Ha_parent (by omega)
              refine z_aloadn C 0 dX11_meet_84 rfl rfl ?_
              refine z_get C 0 (by decide) rfl rfl z_it11 16 (by decide) rfl fl_11_50 rfl dX11_meet_85 ?_
              refine z_aloadn C 0 dX11_meet_88 rfl rfl ?_
              refine z_get C 0 (by decide) rfl rfl z_it11 12 (by decide) rfl fl_11_94 rfl dX11_meet_89 ?_
              refine z_iloadn C 2 dX11_meet_92 rfl rfl ?_
              refine z_iast C 13 (by decide) rfl (by decide) (by omega) (by omega) dX11_meet_93 ?_
              refine z_ext (S' := (z_zm ad ks s_edges s_isNeeded s_explored s_states s_isMoved s_runs s_runTime s_runMoves w_h a_machine a_from a_to a_channel a_resets a_guards a_guardOf a_limits a_limitOf fa_places fa_zones (va_up a_parent (s_states : Int).toNat by0) (va_up a_moveE (s_states : Int).toNat e0) a_moveF a_moves a_z a_ahead a_at a_amounts a_way a_moments a_runAt a_runClock)) upM_a_moveE ?_
              have h4 : ∀ j, -1 ≤ (va_up a_moveE (s_states : Int).toNat e0) j ∧ (va_up a_moveE (s_states : Int).toNat e0) j ≤ 19 := z_upP (P := fun j v => -1 ≤ v ∧ v ≤ 19) Ha_moveE (by omega)
              refine z_aloadn C 0 dX11_meet_94 rfl rfl ?_
              refine z_get C 0 (by decide) rfl rfl z_it11 17 (by decide) rfl fl_11_53 rfl dX11_meet_95 ?_
              refine z_aloadn C 0 dX11_meet_98 rfl rfl ?_
              refine z_get C 0 (by decide) rfl rfl z_it11 12 (by decide) rfl fl_11_94 rfl dX11_meet_99 ?_
              refine z_iloadn C 3 dX11_meet_102 rfl rfl ?_
              refine z_iast C 14 (by decide) rfl (by decide) (by omega) (by omega) dX11_meet_103 ?_
              refine z_ext (S' := (z_zm ad ks s_edges s_isNeeded s_explored s_states s_isMoved s_runs s_runTime s_runMoves w_h a_machine a_from a_to a_channel a_resets a_guards a_guardOf a_limits a_limitOf fa_places fa_zones (va_up a_parent (s_states : Int).toNat by0) (va_up a_moveE (s_states : Int).toNat e0) (va_up a_moveF (s_states : Int).toNat f0) a_moves a_z a_ahead a_at a_amounts a_way a_moments a_runAt a_runClock)) upM_a_moveF ?_
              have h5 : ∀ j, -1 ≤ (va_up a_moveF (s_states : Int).toNat f0) j ∧ (va_up a_moveF (s_states : Int).toNat f0) j ≤ 19 := z_upP (P := fun j v => -1 ≤ v ∧ v ≤ 19) Ha_moveF (by omega)
              refine z_aloadn C 0 dX11_meet_104 rfl rfl ?_
              refine z_get C 0 (by decide) rfl rfl z_it11 18 (by decide) rfl fl_11_56 rfl dX11_meet_105 ?_
              refine z_aloadn C 0 dX11_meet_108 rfl rfl ?_
              refine z_get C 0 (by decide) rfl rfl z_it11 12 (by decide) rfl fl_11_94 rfl dX11_meet_109 ?_
              refine z_iloadn C 1 dX11_meet_112 rfl rfl ?_
              refine z_iconst C dX11_meet_113 ?_
              refine z_icmp_ne (t := 121) C dX11_meet_114 (by decide) (by omega) (by omega) (fun c6 => ?_) (fun c6 => ?_)
              · skip
                refine z_aloadn C 0 dX11_meet_121 rfl rfl ?_
                refine z_get C 0 (by decide) rfl rfl z_it11 18 (by decide) rfl fl_11_56 rfl dX11_meet_122 ?_
                refine z_iloadn C 1 dX11_meet_125 rfl rfl ?_
                refine z_iald C 15 (by decide) rfl (by decide) (by omega) (by omega) dX11_meet_126 ?_
                have rx7 := Ha_moves (by0 : Int).toNat
                generalize ex7 : a_moves (by0 : Int).toNat = x7 at rx7 ⊢
                refine z_iconst C dX11_meet_127 ?_
                refine z_iadd C dX11_meet_128 ?_
                refine z_iast C 15 (by decide) rfl (by decide) (by omega) (by omega) dX11_meet_129 ?_
                refine z_ext (S' := (z_zm ad ks s_edges s_isNeeded s_explored s_states s_isMoved s_runs s_runTime s_runMoves w_h a_machine a_from a_to a_channel a_resets a_guards a_guardOf a_limits a_limitOf fa_places fa_zones (va_up a_parent (s_states : Int).toNat by0) (va_up a_moveE (s_states : Int).toNat e0) (va_up a_moveF (s_states : Int).toNat f0) (va_up a_moves (s_states : Int).toNat (x7 + 1)) a_z a_ahead a_at a_amounts a_way a_moments a_runAt a_runClock)) upM_a_moves ?_
                have h8 : ∀ j, 0 ≤ (va_up a_moves (s_states : Int).toNat (x7 + 1)) j ∧ (va_up a_moves (s_states : Int).toNat (x7 + 1)) j ≤ 40 := z_upP (P := fun j v => 0 ≤ v ∧ v ≤ 40) Ha_moves (by omega)
                refine z_aloadn C 0 dX11_meet_130 rfl rfl ?_
                refine z_dup C dX11_meet_131 rfl ?_
                refine z_get C 0 (by decide) rfl rfl z_it11 12 (by decide) rfl fl_11_94 rfl dX11_meet_132 ?_
                refine z_iconst C dX11_meet_135 ?_
                refine z_iadd C dX11_meet_136 ?_
                refine z_put C 0 (by decide) rfl rfl z_it11 tyX11 tyX11_ok nmX11 12 (by decide) rfl (Or.inl rfl) fl_11_94 z_pfI rfl rfl (Nat.le_of_ble_eq_true rfl) dX11_meet_137 ?_
                refine z_ext (S' := (z_zm ad ks s_edges s_isNeeded s_explored (s_states + 1) s_isMoved s_runs s_runTime s_runMoves w_h a_machine a_from a_to a_channel a_resets a_guards a_guardOf a_limits a_limitOf fa_places fa_zones (va_up a_parent (s_states : Int).toNat by0) (va_up a_moveE (s_states : Int).toNat e0) (va_up a_moveF (s_states : Int).toNat f0) (va_up a_moves (s_states : Int).toNat (x7 + 1)) a_z a_ahead a_at a_amounts a_way a_moments a_runAt a_runClock)) upM_s_states ?_
                rw [hQ]
                exact z_vret C hrt dX11_meet_140 (⟨fa_places, fa_zones, (va_up a_parent (s_states : Int).toNat by0), (va_up a_moveE (s_states : Int).toNat e0), (va_up a_moveF (s_states : Int).toNat f0), (va_up a_moves (s_states : Int).toNat (x7 + 1)), rfl, rfl, Hfa_places, Hfa_zones, h3, h4, h5, h8, z_ch_add hch (by omega) (by omega), fun j hj => if_neg hj, zo_meet (by omega) FP FQ FR FS (by omega) (by omega) (by first | exact (z_sel_pos (by omega)).symm | (subst_vars; exact (z_sel_neg (by omega)).symm)), fun k hk => FR k (by omega), FS, rfl⟩) (by omega) (by omega)
              · skip
                refine z_iconst C dX11_meet_117 ?_
                refine z_goto (t := 129) C dX11_meet_118 (by decide) ?_
                refine z_iast C 15 (by decide) rfl (by decide) (by omega) (by omega) dX11_meet_129 ?_
                refine z_ext (S' := (z_zm ad ks s_edges s_isNeeded s_explored s_states s_isMoved s_runs s_runTime s_runMoves w_h a_machine a_from a_to a_channel a_resets a_guards a_guardOf a_limits a_limitOf fa_places fa_zones (va_up a_parent (s_states : Int).toNat by0) (va_up a_moveE (s_states : Int).toNat e0) (va_up a_moveF (s_states : Int).toNat f0) (va_up a_moves (s_states : Int).toNat 0) a_z a_ahead a_at a_amounts a_way a_moments a_runAt a_runClock)) upM_a_moves ?_
                have h9 : ∀ j, 0 ≤ (va_up a_moves (s_states : Int).toNat 0) j ∧ (va_up a_moves (s_states : Int).toNat 0) j ≤ 40 := z_upP (P := fun j v => 0 ≤ v ∧ v ≤ 40) Ha_moves (by omega)
                refine z_aloadn C 0 dX11_meet_130 rfl rfl ?_
                refine z_dup C dX11_meet_131 rfl ?_
                refine z_get C 0 (by decide) rfl rfl z_it11 12 (by decide) rfl fl_11_94 rfl dX11_meet_132 ?_
                refine z_iconst C dX11_meet_135 ?_
                refine z_iadd C dX11_meet_136 ?_
                refine z_put C 0 (by decide) rfl rfl z_it11 tyX11 tyX11_ok nmX11 12 (by decide) rfl (Or.inl rfl) fl_11_94 z_pfI rfl rfl (Nat.le_of_ble_eq_true rfl) dX11_meet_137 ?_
                refine z_ext (S' := (z_zm ad ks s_edges s_isNeeded s_explored (s_states + 1) s_isMoved s_runs s_runTime s_runMoves w_h a_machine a_from a_to a_channel a_resets a_guards a_guardOf a_limits a_limitOf fa_places fa_zones (va_up a_parent (s_states : Int).toNat by0) (va_up a_moveE (s_states : Int).toNat e0) (va_up a_moveF (s_states : Int).toNat f0) (va_up a_moves (s_states : Int).toNat 0) a_z a_ahead a_at a_amounts a_way a_moments a_runAt a_runClock)) upM_s_states ?_
                rw [hQ]
                exact z_vret C hrt dX11_meet_140 (⟨fa_places, fa_zones, (va_up a_parent (s_states : Int).toNat by0), (va_up a_moveE (s_states : Int).toNat e0), (va_up a_moveF (s_states : Int).toNat f0), (va_up a_moves (s_states : Int).toNat 0), rfl, rfl, Hfa_places, Hfa_zones, h3, h4, h5, h9, z_ch_add hch (by omega) (by omega), fun j hj => if_neg hj, zo_meet (by omega) FP FQ FR FS (by omega) (by omega) (by first | exact (z_sel_pos (by omega)).symm | (subst_vars; exact (z_sel_neg (by omega)).symm)), fun k hk => FR k (by omega), FS, rfl⟩) (by omega) (by omega)
            · skip
              refine z_aloadn C 0 dX11_meet_46 rfl rfl ?_
              refine z_get C 0 (by decide) rfl rfl z_it11 14 (by decide) rfl fl_11_44 rfl dX11_meet_47 ?_
              refine z_bipush C dX11_meet_50 (by decide) ?_
              refine z_aloadn C 0 dX11_meet_52 rfl rfl ?_
              refine z_get C 0 (by decide) rfl rfl z_it11 12 (by decide) rfl fl_11_94 rfl dX11_meet_53 ?_
              refine z_imul C dX11_meet_56 ?_
              refine z_iload C 4 dX11_meet_57 rfl ?_
              refine z_iadd C dX11_meet_59 ?_
              refine z_aloadn C 0 dX11_meet_60 rfl rfl ?_
              refine z_get C 0 (by decide) rfl rfl z_it11 19 (by decide) rfl fl_11_59 rfl dX11_meet_61 ?_
              refine z_iload C 4 dX11_meet_64 rfl ?_
              refine z_iald C 16 (by decide) rfl (by decide) (by omega) (by omega) dX11_meet_66 ?_
              have rx10 := Ha_z (i4 : Int).toNat
              generalize ex10 : a_z (i4 : Int).toNat = x10 at rx10 ⊢
              refine z_iast C 11 (by decide) rfl (by decide) (by omega) (by omega) dX11_meet_67 ?_
              refine z_ext (S' := (z_zm ad ks s_edges s_isNeeded s_explored s_states s_isMoved s_runs s_runTime s_runMoves w_h a_machine a_from a_to a_channel a_resets a_guards a_guardOf a_limits a_limitOf fa_places (va_up fa_zones (((16 * s_states) + i4) : Int).toNat x10) a_parent a_moveE a_moveF a_moves a_z a_ahead a_at a_amounts a_way a_moments a_runAt a_runClock)) upM_a_zones ?_
              have h11 : ∀ j, z_rg ((va_up fa_zones (((16 * s_states) + i4) : Int).toNat x10) j) := z_upP (P := fun j v => z_rg (v)) Hfa_zones (by omega)
              refine z_iinc (L' := [(4, z_v (i4 + 1)), (0, .ref (ad 0)), (1, z_v by0), (2, z_v e0), (3, z_v f0)]) C 4 dX11_meet_68 rfl (by decide) rfl ?_
              refine z_goto (t := 39) C dX11_meet_71 (by decide) ?_
              refine z_loc (L' := [(0, .ref (ad 0)), (1, z_v by0), (2, z_v e0), (3, z_v f0), (4, z_v (i4 + 1))]) [1, 2, 3, 4, 0] rfl ?_
              exact ih39 (i4 + 1) (va_up fa_zones (((16 * s_states) + i4) : Int).toNat x10) h11 (by subst_vars; exact zo_mt16 FR (by omega) (by omega)) (fun j hj => (if_neg (by omega)).trans (FS j hj)) (by omega) (by omega)
        refine z_loc (L' := [(0, .ref (ad 0)), (1, z_v by0), (2, z_v e0), (3, z_v f0), (4, z_v 0)]) [1, 2, 3, 4, 0] rfl ?_
        exact (L39 (((16 : Int) - 0).toNat + 1)) 0 a_zones Ha_zones (fun j hj => absurd hj (by omega)) (fun j hj => rfl) (by omega) (Nat.lt_succ_self _)
      · skip
        refine z_aloadn C 0 dX11_meet_9 rfl rfl ?_
        refine z_get C 0 (by decide) rfl rfl z_it11 13 (by decide) rfl fl_11_41 rfl dX11_meet_10 ?_
        refine z_iconst C dX11_meet_13 ?_
        refine z_aloadn C 0 dX11_meet_14 rfl rfl ?_
        refine z_get C 0 (by decide) rfl rfl z_it11 12 (by decide) rfl fl_11_94 rfl dX11_meet_15 ?_
        refine z_imul C dX11_meet_18 ?_
        refine z_iload C 4 dX11_meet_19 rfl ?_
        refine z_iadd C dX11_meet_21 ?_
        refine z_aloadn C 0 dX11_meet_22 rfl rfl ?_
        refine z_get C 0 (by decide) rfl rfl z_it11 21 (by decide) rfl fl_11_65 rfl dX11_meet_23 ?_
        refine z_iload C 4 dX11_meet_26 rfl ?_
        refine z_iald C 18 (by decide) rfl (by decide) (by omega) (by omega) dX11_meet_28 ?_
        have rx12 := Ha_at (i4 : Int).toNat
        generalize ex12 : a_at (i4 : Int).toNat = x12 at rx12 ⊢
        refine z_iast C 10 (by decide) rfl (by decide) (by omega) (by omega) dX11_meet_29 ?_
        refine z_ext (S' := (z_zm ad ks s_edges s_isNeeded s_explored s_states s_isMoved s_runs s_runTime s_runMoves w_h a_machine a_from a_to a_channel a_resets a_guards a_guardOf a_limits a_limitOf (va_up fa_places (((3 * s_states) + i4) : Int).toNat x12) a_zones a_parent a_moveE a_moveF a_moves a_z a_ahead a_at a_amounts a_way a_moments a_runAt a_runClock)) upM_a_places ?_
        have h13 : ∀ j, 0 ≤ (va_up fa_places (((3 * s_states) + i4) : Int).toNat x12) j ∧ (va_up fa_places (((3 * s_states) + i4) : Int).toNat x12) j ≤ 5 := z_upP (P := fun j v => 0 ≤ v ∧ v ≤ 5) Hfa_places (by omega)
        refine z_iinc (L' := [(4, z_v (i4 + 1)), (0, .ref (ad 0)), (1, z_v by0), (2, z_v e0), (3, z_v f0)]) C 4 dX11_meet_30 rfl (by decide) rfl ?_
        refine z_goto (t := 3) C dX11_meet_33 (by decide) ?_
        refine z_loc (L' := [(0, .ref (ad 0)), (1, z_v by0), (2, z_v e0), (3, z_v f0), (4, z_v (i4 + 1))]) [1, 2, 3, 4, 0] rfl ?_
        exact ih3 (i4 + 1) (va_up fa_places (((3 * s_states) + i4) : Int).toNat x12) h13 (by subst_vars; exact zo_mt3 FP (by omega) (by omega)) (fun j hj => (if_neg (by omega)).trans (FQ j hj)) (by omega) (by omega)
  refine z_loc (L' := [(0, .ref (ad 0)), (1, z_v by0), (2, z_v e0), (3, z_v f0), (4, z_v 0)]) [1, 2, 3, 4, 0] rfl ?_
  exact (L3 (((3 : Int) - 0).toNat + 1)) 0 a_places Ha_places (fun j hj => absurd hj (by omega)) (fun j hj => rfl) (by omega) (Nat.lt_succ_self _)
set_option maxRecDepth 20000 in
theorem cx_X11_follows (l : Launch) {D : va_G} {A : Nat → Prop} {ad : Nat → Nat} {ks : z_Ks} {s_edges s_isNeeded s_explored s_states s_isMoved s_runs s_runTime s_runMoves : Int} {w_h : Int64} {a_machine a_from a_to a_channel a_resets a_guards a_guardOf a_limits a_limitOf a_places a_zones a_parent a_moveE a_moveF a_moves a_z a_ahead a_at a_amounts a_way a_moments a_runAt a_runClock : Nat → Int} {Y : Nat → Option va_E} {mo : Nat → Int} (i0 e0 f0 : Int) (Hs_edges : (0 ≤ s_edges ∧ s_edges ≤ 20)) (Ha_places : (∀ j, 0 ≤ a_places j ∧ a_places j ≤ 5)) (Ha_zones : (∀ j, z_rg (a_zones j))) (Ha_at : (∀ j, 0 ≤ a_at j ∧ a_at j ≤ 5)) (Ha_machine : (∀ j, 0 ≤ a_machine j ∧ a_machine j ≤ 2)) (Ha_from : (∀ j, 0 ≤ a_from j ∧ a_from j ≤ 5)) (Ha_to : (∀ j, 0 ≤ a_to j ∧ a_to j ≤ 5)) (Ha_resets : (∀ j, z_rg (a_resets j))) (Ha_z : (∀ j, z_rg (a_z j))) (Ha_ahead : (∀ j, z_rg (a_ahead j))) (Ha_guards : (∀ j, 0 ≤ a_guards j ∧ a_guards j ≤ 2)) (Ha_guardOf : (∀ j, (j % 3 = 0 → a_guardOf j ≤ 3) ∧ 0 ≤ a_guardOf j ∧ a_guardOf j ≤ 1000)) (Ha_limits : (∀ j, 0 ≤ a_limits j ∧ a_limits j ≤ 2)) (Ha_limitOf : (∀ j, (j % 3 = 0 → a_limitOf j ≤ 3) ∧ 0 ≤ a_limitOf j ∧ a_limitOf j ≤ 1000)) (hi : 0 ≤ i0 ∧ i0 ≤ 119) (he : 0 ≤ e0 ∧ e0 < s_edges) (hf : -1 ≤ f0 ∧ f0 < s_edges) (hmo : ∀ x : Int, 1 ≤ x → x ≤ 3 → z_gr x s_edges a_guards a_guardOf a_limits a_limitOf (mo x.toNat)) (hmr : ∀ x, 1 ≤ x → x < 4 → 0 ≤ mo x ∧ mo x ≤ 1000) (hlr : ∀ k : Int, 0 ≤ k → k < 18 → zo_tr (a_limits k.toNat) a_limitOf (6 * k)) (hgr : ∀ e : Int, 0 ≤ e → e < s_edges → zo_tr (a_guards e.toNat) a_guardOf (6 * e)) (hZ : zo_Z 16016 16016 32015 (fun k => a_zones (16 * i0.toNat + k))) : z_Met l yX11_follows cX11_follows 5 (some .boolean) 4 91 0 0 D A 24 ad ks [.ref (ad 0), z_v i0, z_v e0, z_v f0] (z_zm ad ks s_edges s_isNeeded s_explored s_states s_isMoved s_runs s_runTime s_runMoves w_h a_machine a_from a_to a_channel a_resets a_guards a_guardOf a_limits a_limitOf a_places a_zones a_parent a_moveE a_moveF a_moves a_z a_ahead a_at a_amounts a_way a_moments a_runAt a_runClock) Y (fun r S' Y' => ∃ na_at : Nat → Int, ∃ na_z : Nat → Int, ∃ na_ahead : Nat → Int, S' = (z_zm ad ks s_edges s_isNeeded s_explored s_states s_isMoved s_runs s_runTime s_runMoves w_h a_machine a_from a_to a_channel a_resets a_guards a_guardOf a_limits a_limitOf a_places a_zones a_parent a_moveE a_moveF a_moves na_z na_ahead na_at a_amounts a_way a_moments a_runAt a_runClock) ∧ Y = Y' ∧ (∀ j, 0 ≤ na_at j ∧ na_at j ≤ 5) ∧ (∀ j, z_rg (na_z j)) ∧ (∀ j, z_rg (na_ahead j)) ∧ ∃ z : Int, r = some (z_v z) ∧ (z = 1 ∧ zo_nx a_machine a_from a_to a_resets a_guards a_guardOf a_limits a_limitOf mo (zo_n3 (fun m => a_places (3 * i0.toNat + m))) (zo_n16 (fun k => a_zones (16 * i0.toNat + k))) e0 f0 = some (zo_n3 na_at, zo_n16 na_z) ∧ zo_Z 16016 16016 32015 na_z ∨ z = 0 ∧ zo_nx a_machine a_from a_to a_resets a_guards a_guardOf a_limits a_limitOf mo (zo_n3 (fun m => a_places (3 * i0.toNat + m))) (zo_n16 (fun k => a_zones (16 * i0.toNat + k))) e0 f0 = none)) := by
  refine z_start2 (by decide) (Nat.le_of_ble_eq_true rfl) ?_
  intro p e R s m args below meth c Q C hRf hRc hRs hRl hQ hrt hnm
  refine z_loc (L' := [(0, .ref (ad 0)), (1, z_v i0), (2, z_v e0), (3, z_v f0)]) [0, 1, 2, 3] rfl ?_
  refine z_iconst C dX11_follows_0 ?_
  refine z_istore (L' := [(4, z_v 0), (0, .ref (ad 0)), (1, z_v i0), (2, z_v e0), (3, z_v f0)]) C dX11_follows_1 (by decide) rfl ?_
  have L3 : ∀ (n : Nat), ∀ (i4 : Int) (fa_at : Nat → Int), ((∀ j, 0 ≤ fa_at j ∧ fa_at j ≤ 5)) → (∀ m : Nat, (m : Int) < i4 → fa_at m = a_places (3 * i0.toNat + m)) → (0 ≤ i4 ∧ i4 ≤ 3) → ((3 : Int) - i4).toNat < n → z_V p l e R s m args below meth c Q D A 24 ad 5 (z_zm ad ks s_edges s_isNeeded s_explored s_states s_isMoved s_runs s_runTime s_runMoves w_h a_machine a_from a_to a_channel a_resets a_guards a_guardOf a_limits a_limitOf a_places a_zones a_parent a_moveE a_moveF a_moves a_z a_ahead fa_at a_amounts a_way a_moments a_runAt a_runClock) Y 0 0 3 [(0, .ref (ad 0)), (1, z_v i0), (2, z_v e0), (3, z_v f0), (4, z_v i4)] [] := by
    intro n
    induction n with
    | zero => intro i4 fa_at Hfa_at FA I4 hm; exact absurd hm (Nat.not_lt_zero _)
    | succ n ih3 =>
      intro i4 fa_at Hfa_at FA I4 hm
      refine z_iload C 4 dX11_follows_3 rfl ?_
      refine z_iconst C dX11_follows_5 ?_
      refine z_icmp_ge (t := 33) C dX11_follows_6 (by decide) (by omega) (by omega) (fun c1 => ?_) (fun c1 => ?_)
      · skip
        have hA : ∀ m, m < 3 → fa_at m = (zo_n3 (fun m => a_places (3 * i0.toNat + m))) m := fun m hm => (FA m (by omega)).trans (zo_n3_at (f := fun m => a_places (3 * i0.toNat + m)) hm).symm
        refine z_aloadn C 0 dX11_follows_33 rfl rfl ?_
        refine z_get C 0 (by decide) rfl rfl z_it11 21 (by decide) rfl fl_11_65 rfl dX11_follows_34 ?_
        refine z_aloadn C 0 dX11_follows_37 rfl rfl ?_
        refine z_get C 0 (by decide) rfl rfl z_it11 1 (by decide) rfl fl_11_7 rfl dX11_follows_38 ?_
        refine z_iloadn C 2 dX11_follows_41 rfl rfl ?_
        refine z_iald C 1 (by decide) rfl (by decide) (by omega) (by omega) dX11_follows_42 ?_
        have rx2 := Ha_machine (e0 : Int).toNat
        generalize ex2 : a_machine (e0 : Int).toNat = x2 at rx2 ⊢
        refine z_iald C 18 (by decide) rfl (by decide) (by omega) (by omega) dX11_follows_43 ?_
        have rx3 := Hfa_at (x2 : Int).toNat
        generalize ex3 : fa_at (x2 : Int).toNat = x3 at rx3 ⊢
        refine z_aloadn C 0 dX11_follows_44 rfl rfl ?_
        refine z_get C 0 (by decide) rfl rfl z_it11 2 (by decide) rfl fl_11_13 rfl dX11_follows_45 ?_
        refine z_iloadn C 2 dX11_follows_48 rfl rfl ?_
        refine z_iald C 2 (by decide) rfl (by decide) (by omega) (by omega) dX11_follows_49 ?_
        have rx4 := Ha_from (e0 : Int).toNat
        generalize ex4 : a_from (e0 : Int).toNat = x4 at rx4 ⊢
        refine z_icmp_ne (t := 78) C dX11_follows_50 (by decide) (by omega) (by omega) (fun c5 => ?_) (fun c5 => ?_)
        · skip
          have hst : ¬ zo_st2 a_machine a_from (zo_n3 (fun m => a_places (3 * i0.toNat + m))) e0 f0 := by
            rintro ⟨h1, h2⟩
            rw [← hA _ (by have := Ha_machine e0.toNat; omega)] at h1
            rcases h2 with h2 | ⟨h2, h3⟩
            · subst_vars; omega
            · rw [← hA _ (by have := Ha_machine f0.toNat; omega)] at h3; subst_vars; omega
          refine z_iconst C dX11_follows_78 ?_
          rw [hQ]
          exact z_zret C hrt (by omega) dX11_follows_79 (⟨fa_at, a_z, a_ahead, rfl, rfl, Hfa_at, Ha_z, Ha_ahead, _, rfl, Or.inr ⟨rfl, zo_F0 hst⟩⟩) (by omega) (by omega)
        · skip
          refine z_iloadn C 3 dX11_follows_53 rfl rfl ?_
          refine z_iconst C dX11_follows_54 ?_
          refine z_icmp_eq (t := 80) C dX11_follows_55 (by decide) (by omega) (by omega) (fun c6 => ?_) (fun c6 => ?_)
          · skip
            have hst : zo_st2 a_machine a_from (zo_n3 (fun m => a_places (3 * i0.toNat + m))) e0 f0 := by
              refine ⟨by rw [← hA _ (by have := Ha_machine e0.toNat; omega)]; subst_vars; omega, ?_⟩
              first | exact Or.inl (by omega) | exact Or.inr ⟨by omega, by rw [← hA _ (by have := Ha_machine f0.toNat; omega)]; subst_vars; omega⟩
            refine z_iconst C dX11_follows_80 ?_
            refine z_istore (L' := [(4, z_v 0), (0, .ref (ad 0)), (1, z_v i0), (2, z_v e0), (3, z_v f0)]) C dX11_follows_81 (by decide) rfl ?_
            have L83 : ∀ (n : Nat), ∀ (i4 : Int) (fa_z : Nat → Int), ((∀ j, z_rg (fa_z j))) → (∀ k : Nat, (k : Int) < i4 → fa_z k = a_zones (16 * i0.toNat + k)) → (0 ≤ i4 ∧ i4 ≤ 16) → ((16 : Int) - i4).toNat < n → z_V p l e R s m args below meth c Q D A 24 ad 5 (z_zm ad ks s_edges s_isNeeded s_explored s_states s_isMoved s_runs s_runTime s_runMoves w_h a_machine a_from a_to a_channel a_resets a_guards a_guardOf a_limits a_limitOf a_places a_zones a_parent a_moveE a_moveF a_moves fa_z a_ahead fa_at a_amounts a_way a_moments a_runAt a_runClock) Y 0 0 83 [(0, .ref (ad 0)), (1, z_v i0), (2, z_v e0), (3, z_v f0), (4, z_v i4)] [] := by
              intro n
              induction n with
              | zero => intro i4 fa_z Hfa_z FZ I4 hm; exact absurd hm (Nat.not_lt_zero _)
              | succ n ih83 =>
                intro i4 fa_z Hfa_z FZ I4 hm
                refine z_iload C 4 dX11_follows_83 rfl ?_
                refine z_bipush C dX11_follows_85 (by decide) ?_
                refine z_icmp_ge (t := 115) C dX11_follows_87 (by decide) (by omega) (by omega) (fun c7 => ?_) (fun c7 => ?_)
                · skip
                  have hz : ∀ k, k < 16 → fa_z k = (zo_n16 (fun k => a_zones (16 * i0.toNat + k))) k := fun k hk => (FZ k (by omega)).trans (zo_n16_at (f := fun k => a_zones (16 * i0.toNat + k)) hk).symm
                  have hZ2 : zo_Z 16016 18018 32015 fa_z := (hZ.mono (Int.le_refl _) (by omega) (Int.le_refl _)).congr (fun k hk => (FZ k (by omega)).symm)
                  refine z_aloadn C 0 dX11_follows_115 rfl rfl ?_
                  refine z_iloadn C 2 dX11_follows_116 rfl rfl ?_
                  refine z_callV C (cx_X11_keepGuards l e0 Ha_guards Ha_guardOf Hfa_z (by omega) (hgr e0 (by omega) (by omega)) hZ2 (by omega) (by omega)) mv_11_139 (z_atS 0 11 (by decide) rfl rfl rfl) pd_X11_keepGuards ⟨by omega, by omega⟩ ⟨by omega, by omega⟩ rfl (Nat.le_of_ble_eq_true rfl) dX11_follows_117 ?_
                  rintro _ _ _ ⟨n8, rfl, rfl, h11, z12, rfl, hz12⟩
                  have hg117 := zo_toG hz hz12
                  refine z_if_eq (t := 136) C dX11_follows_120 (by decide) (by omega) (fun c13 => ?_) (fun c13 => ?_)
                  · skip
                    refine z_iconst C dX11_follows_136 ?_
                    rw [hQ]
                    exact z_zret C hrt (by omega) dX11_follows_137 (⟨fa_at, n8, a_ahead, rfl, rfl, Hfa_at, h11, Ha_ahead, _, rfl, by first | exact Or.inr ⟨rfl, zo_F2 hgA (by omega) (hg130.elim (fun q => absurd q.1 (by omega)) (fun q => q.2))⟩ | exact Or.inr ⟨rfl, zo_F1 (hg117.elim (fun q => absurd q.1 (by omega)) (fun q => q.2))⟩⟩) (by omega) (by omega)
                  · skip
                    refine z_iloadn C 3 dX11_follows_123 rfl rfl ?_
                    refine z_iconst C dX11_follows_124 ?_
                    refine z_icmp_eq (t := 138) C dX11_follows_125 (by decide) (by omega) (by omega) (fun c14 => ?_) (fun c14 => ?_)
                    · skip
                      have hg2 : zo_g2 a_guards a_guardOf e0 f0 (zo_n16 (fun k => a_zones (16 * i0.toNat + k))) n8 ∧ zo_Z 16016 18018 40027 n8 := by
                        first | (obtain ⟨_, hgB, hZB⟩ := hg130.elim id (fun q => absurd q.1 (by omega)); exact ⟨⟨_, hgA, Or.inr ⟨by omega, hgB⟩⟩, hZB.mono (Int.le_refl _) (Int.le_refl _) (by omega)⟩) | (obtain ⟨_, hgB, hZB⟩ := hg117.elim id (fun q => absurd q.1 (by omega)); exact ⟨⟨_, hgB, Or.inl ⟨by omega, fun _ _ => rfl⟩⟩, hZB.mono (Int.le_refl _) (Int.le_refl _) (by omega)⟩)
                      refine z_aloadn C 0 dX11_follows_138 rfl rfl ?_
                      refine z_aloadn C 0 dX11_follows_139 rfl rfl ?_
                      refine z_get C 0 (by decide) rfl rfl z_it11 5 (by decide) rfl fl_11_22 rfl dX11_follows_140 ?_
                      refine z_iloadn C 2 dX11_follows_143 rfl rfl ?_
                      refine z_iald C 5 (by decide) rfl (by decide) (by omega) (by omega) dX11_follows_144 ?_
                      have rx15 := Ha_resets (e0 : Int).toNat
                      generalize ex15 : a_resets (e0 : Int).toNat = x15 at rx15 ⊢
                      refine z_iloadn C 3 dX11_follows_145 rfl rfl ?_
                      refine z_iconst C dX11_follows_146 ?_
                      refine z_icmp_ne (t := 154) C dX11_follows_147 (by decide) (by omega) (by omega) (fun c16 => ?_) (fun c16 => ?_)
                      · skip
                        refine z_aloadn C 0 dX11_follows_154 rfl rfl ?_
                        refine z_get C 0 (by decide) rfl rfl z_it11 5 (by decide) rfl fl_11_22 rfl dX11_follows_155 ?_
                        refine z_iloadn C 3 dX11_follows_158 rfl rfl ?_
                        refine z_iald C 5 (by decide) rfl (by decide) (by omega) (by omega) dX11_follows_159 ?_
                        have rx17 := Ha_resets (f0 : Int).toNat
                        generalize ex17 : a_resets (f0 : Int).toNat = x17 at rx17 ⊢
                        obtain ⟨b18, hb18, rb18⟩ := z_bits (z_i x15 ||| z_i x17)
                        refine z_ior C hb18 dX11_follows_160 ?_
                        have qb18 := z_bitsE hb18 rb18
                        have hor : b18 = z_or a_resets e0 f0 := by
                          rw [← qb18]; unfold z_or
                          first | (rw [if_pos (show f0 = -1 by omega), ← zo_or0 (Ha_resets e0.toNat)]; subst_vars; rfl) | (rw [if_neg (show ¬ f0 = -1 by omega)]; subst_vars; rfl)
                        refine z_callV C (cx_X11_set l b18 h11 (by omega) (hg2.2.1.1 0 (by omega))) mv_11_142 (z_atS 0 11 (by decide) rfl rfl rfl) pd_X11_set ⟨by omega, by omega⟩ ⟨by omega, by omega⟩ rfl (Nat.le_of_ble_eq_true rfl) dX11_follows_161 ?_
                        rintro _ _ _ ⟨n19, rfl, rfl, h22, q161_0, rfl⟩
                        have hset := q161_0
                        rw [hor] at hset
                        refine z_aloadn C 0 dX11_follows_164 rfl rfl ?_
                        refine z_get C 0 (by decide) rfl rfl z_it11 21 (by decide) rfl fl_11_65 rfl dX11_follows_165 ?_
                        refine z_aloadn C 0 dX11_follows_168 rfl rfl ?_
                        refine z_get C 0 (by decide) rfl rfl z_it11 1 (by decide) rfl fl_11_7 rfl dX11_follows_169 ?_
                        refine z_iloadn C 2 dX11_follows_172 rfl rfl ?_
                        refine z_iald C 1 (by decide) rfl (by decide) (by omega) (by omega) dX11_follows_173 ?_
                        have rx23 := Ha_machine (e0 : Int).toNat
                        generalize ex23 : a_machine (e0 : Int).toNat = x23 at rx23 ⊢
                        refine z_aloadn C 0 dX11_follows_174 rfl rfl ?_
                        refine z_get C 0 (by decide) rfl rfl z_it11 3 (by decide) rfl fl_11_16 rfl dX11_follows_175 ?_
                        refine z_iloadn C 2 dX11_follows_178 rfl rfl ?_
                        refine z_iald C 3 (by decide) rfl (by decide) (by omega) (by omega) dX11_follows_179 ?_
                        have rx24 := Ha_to (e0 : Int).toNat
                        generalize ex24 : a_to (e0 : Int).toNat = x24 at rx24 ⊢
                        refine z_iast C 18 (by decide) rfl (by decide) (by omega) (by omega) dX11_follows_180 ?_
                        refine z_ext (S' := (z_zm ad ks s_edges s_isNeeded s_explored s_states s_isMoved s_runs s_runTime s_runMoves w_h a_machine a_from a_to a_channel a_resets a_guards a_guardOf a_limits a_limitOf a_places a_zones a_parent a_moveE a_moveF a_moves n19 a_ahead (va_up fa_at (x23 : Int).toNat x24) a_amounts a_way a_moments a_runAt a_runClock)) upM_a_at ?_
                        have h25 : ∀ j, 0 ≤ (va_up fa_at (x23 : Int).toNat x24) j ∧ (va_up fa_at (x23 : Int).toNat x24) j ≤ 5 := z_upP (P := fun j v => 0 ≤ v ∧ v ≤ 5) Hfa_at (by omega)
                        refine z_iloadn C 3 dX11_follows_181 rfl rfl ?_
                        refine z_iconst C dX11_follows_182 ?_
                        refine z_icmp_eq (t := 203) C dX11_follows_183 (by decide) (by omega) (by omega) (fun c26 => ?_) (fun c26 => ?_)
                        · skip
                          refine z_aloadn C 0 dX11_follows_203 rfl rfl ?_
                          have hAT : ∀ m, m < 3 → (va_up fa_at (x23 : Int).toNat x24) m = z_goA (zo_n3 (fun m => a_places (3 * i0.toNat + m))) a_machine a_to e0 f0 m := by
                            first | (rw [z_goA1 (show f0 = -1 by omega)]; subst_vars; exact z_up_pt hA) | (rw [z_goA2 (show f0 ≠ -1 by omega)]; subst_vars; exact z_up_pt (z_up_pt hA))
                          have hZ5 : zo_Z 18018 20020 40027 n19 := ((zo_set_Z (r := z_or a_resets e0 f0) (hg2.2.flat (by omega))).mono (Int.le_refl _) (by omega) (Int.le_refl _)).congr (fun k hk => (hset k hk).symm)
                          refine z_callV C (cx_X11_keepLimits l h25 Ha_limits Ha_limitOf h22 hlr hZ5 (by omega) (by omega)) mv_11_133 (z_atS 0 11 (by decide) rfl rfl rfl) pd_X11_keepLimits ⟨by omega, by omega⟩ ⟨by omega, by omega⟩ rfl (Nat.le_of_ble_eq_true rfl) dX11_follows_204 ?_
                          rintro _ _ _ ⟨n27, rfl, rfl, h30, z31, rfl, hz31⟩
                          have hk204 := hz31
                          refine z_if_eq (t := 221) C dX11_follows_207 (by decide) (by omega) (fun c32 => ?_) (fun c32 => ?_)
                          · skip
                            refine z_iconst C dX11_follows_221 ?_
                            rw [hQ]
                            exact z_zret C hrt (by omega) dX11_follows_222 (⟨(va_up fa_at (x23 : Int).toNat x24), n27, a_ahead, rfl, rfl, h25, h30, Ha_ahead, _, rfl, by first | (obtain ⟨_, hl1, hl2⟩ := hk211.elim id (fun q => absurd q.1 (by omega)); exact Or.inl ⟨rfl, zo_F5 hst hg2.1 hset hAT hkG hl1, hl2⟩) | exact Or.inr ⟨rfl, zo_F4 hg2.1 hset hAT hkG (hk211.elim (fun q => absurd q.1 (by omega)) (fun q => q.2))⟩ | exact Or.inr ⟨rfl, zo_F3 hg2.1 hset hAT (hk204.elim (fun q => absurd q.1 (by omega)) (fun q => q.2))⟩⟩) (by omega) (by omega)
                          · skip
                            refine z_aloadn C 0 dX11_follows_210 rfl rfl ?_
                            obtain ⟨_, hkG, hkZ⟩ := zo_kl hk204 (by omega)
                            refine z_callV C (cx_X11_later l (by omega) Ha_guards Ha_guardOf Ha_limits Ha_limitOf h30 Ha_ahead h25 hmo hmr hlr hkZ (by omega) (by omega)) mv_11_146 (z_atS 0 11 (by decide) rfl rfl rfl) pd_X11_later ⟨by omega, by omega⟩ ⟨by omega, by omega⟩ rfl (Nat.le_of_ble_eq_true rfl) dX11_follows_211 ?_
                            rintro _ _ _ ⟨n33, n34, rfl, rfl, h37, h38, z39, rfl, hz39⟩
                            have hk211 := hz39
                            refine z_if_eq (t := 221) C dX11_follows_214 (by decide) (by omega) (fun c40 => ?_) (fun c40 => ?_)
                            · skip
                              refine z_iconst C dX11_follows_221 ?_
                              rw [hQ]
                              exact z_zret C hrt (by omega) dX11_follows_222 (⟨(va_up fa_at (x23 : Int).toNat x24), n33, n34, rfl, rfl, h25, h37, h38, _, rfl, by first | (obtain ⟨_, hl1, hl2⟩ := hk211.elim id (fun q => absurd q.1 (by omega)); exact Or.inl ⟨rfl, zo_F5 hst hg2.1 hset hAT hkG hl1, hl2⟩) | exact Or.inr ⟨rfl, zo_F4 hg2.1 hset hAT hkG (hk211.elim (fun q => absurd q.1 (by omega)) (fun q => q.2))⟩ | exact Or.inr ⟨rfl, zo_F3 hg2.1 hset hAT (hk204.elim (fun q => absurd q.1 (by omega)) (fun q => q.2))⟩⟩) (by omega) (by omega)
                            · skip
                              refine z_iconst C dX11_follows_217 ?_
                              refine z_goto (t := 222) C dX11_follows_218 (by decide) ?_
                              rw [hQ]
                              exact z_zret C hrt (by omega) dX11_follows_222 (⟨(va_up fa_at (x23 : Int).toNat x24), n33, n34, rfl, rfl, h25, h37, h38, _, rfl, by first | (obtain ⟨_, hl1, hl2⟩ := hk211.elim id (fun q => absurd q.1 (by omega)); exact Or.inl ⟨rfl, zo_F5 hst hg2.1 hset hAT hkG hl1, hl2⟩) | exact Or.inr ⟨rfl, zo_F4 hg2.1 hset hAT hkG (hk211.elim (fun q => absurd q.1 (by omega)) (fun q => q.2))⟩ | exact Or.inr ⟨rfl, zo_F3 hg2.1 hset hAT (hk204.elim (fun q => absurd q.1 (by omega)) (fun q => q.2))⟩⟩) (by omega) (by omega)
                        · skip
                          refine z_aloadn C 0 dX11_follows_186 rfl rfl ?_
                          refine z_get C 0 (by decide) rfl rfl z_it11 21 (by decide) rfl fl_11_65 rfl dX11_follows_187 ?_
                          refine z_aloadn C 0 dX11_follows_190 rfl rfl ?_
                          refine z_get C 0 (by decide) rfl rfl z_it11 1 (by decide) rfl fl_11_7 rfl dX11_follows_191 ?_
                          refine z_iloadn C 3 dX11_follows_194 rfl rfl ?_
                          refine z_iald C 1 (by decide) rfl (by decide) (by omega) (by omega) dX11_follows_195 ?_
                          have rx41 := Ha_machine (f0 : Int).toNat
                          generalize ex41 : a_machine (f0 : Int).toNat = x41 at rx41 ⊢
                          refine z_aloadn C 0 dX11_follows_196 rfl rfl ?_
                          refine z_get C 0 (by decide) rfl rfl z_it11 3 (by decide) rfl fl_11_16 rfl dX11_follows_197 ?_
                          refine z_iloadn C 3 dX11_follows_200 rfl rfl ?_
                          refine z_iald C 3 (by decide) rfl (by decide) (by omega) (by omega) dX11_follows_201 ?_
                          have rx42 := Ha_to (f0 : Int).toNat
                          generalize ex42 : a_to (f0 : Int).toNat = x42 at rx42 ⊢
                          refine z_iast C 18 (by decide) rfl (by decide) (by omega) (by omega) dX11_follows_202 ?_
                          refine z_ext (S' := (z_zm ad ks s_edges s_isNeeded s_explored s_states s_isMoved s_runs s_runTime s_runMoves w_h a_machine a_from a_to a_channel a_resets a_guards a_guardOf a_limits a_limitOf a_places a_zones a_parent a_moveE a_moveF a_moves n19 a_ahead (va_up (va_up fa_at (x23 : Int).toNat x24) (x41 : Int).toNat x42) a_amounts a_way a_moments a_runAt a_runClock)) upM_a_at ?_
                          have h43 : ∀ j, 0 ≤ (va_up (va_up fa_at (x23 : Int).toNat x24) (x41 : Int).toNat x42) j ∧ (va_up (va_up fa_at (x23 : Int).toNat x24) (x41 : Int).toNat x42) j ≤ 5 := z_upP (P := fun j v => 0 ≤ v ∧ v ≤ 5) h25 (by omega)
                          refine z_aloadn C 0 dX11_follows_203 rfl rfl ?_
                          have hAT : ∀ m, m < 3 → (va_up (va_up fa_at (x23 : Int).toNat x24) (x41 : Int).toNat x42) m = z_goA (zo_n3 (fun m => a_places (3 * i0.toNat + m))) a_machine a_to e0 f0 m := by
                            first | (rw [z_goA1 (show f0 = -1 by omega)]; subst_vars; exact z_up_pt hA) | (rw [z_goA2 (show f0 ≠ -1 by omega)]; subst_vars; exact z_up_pt (z_up_pt hA))
                          have hZ5 : zo_Z 18018 20020 40027 n19 := ((zo_set_Z (r := z_or a_resets e0 f0) (hg2.2.flat (by omega))).mono (Int.le_refl _) (by omega) (Int.le_refl _)).congr (fun k hk => (hset k hk).symm)
                          refine z_callV C (cx_X11_keepLimits l h43 Ha_limits Ha_limitOf h22 hlr hZ5 (by omega) (by omega)) mv_11_133 (z_atS 0 11 (by decide) rfl rfl rfl) pd_X11_keepLimits ⟨by omega, by omega⟩ ⟨by omega, by omega⟩ rfl (Nat.le_of_ble_eq_true rfl) dX11_follows_204 ?_
                          rintro _ _ _ ⟨n44, rfl, rfl, h47, z48, rfl, hz48⟩
                          have hk204 := hz48
                          refine z_if_eq (t := 221) C dX11_follows_207 (by decide) (by omega) (fun c49 => ?_) (fun c49 => ?_)
                          · skip
                            refine z_iconst C dX11_follows_221 ?_
                            rw [hQ]
                            exact z_zret C hrt (by omega) dX11_follows_222 (⟨(va_up (va_up fa_at (x23 : Int).toNat x24) (x41 : Int).toNat x42), n44, a_ahead, rfl, rfl, h43, h47, Ha_ahead, _, rfl, by first | (obtain ⟨_, hl1, hl2⟩ := hk211.elim id (fun q => absurd q.1 (by omega)); exact Or.inl ⟨rfl, zo_F5 hst hg2.1 hset hAT hkG hl1, hl2⟩) | exact Or.inr ⟨rfl, zo_F4 hg2.1 hset hAT hkG (hk211.elim (fun q => absurd q.1 (by omega)) (fun q => q.2))⟩ | exact Or.inr ⟨rfl, zo_F3 hg2.1 hset hAT (hk204.elim (fun q => absurd q.1 (by omega)) (fun q => q.2))⟩⟩) (by omega) (by omega)
                          · skip
                            refine z_aloadn C 0 dX11_follows_210 rfl rfl ?_
                            obtain ⟨_, hkG, hkZ⟩ := zo_kl hk204 (by omega)
                            refine z_callV C (cx_X11_later l (by omega) Ha_guards Ha_guardOf Ha_limits Ha_limitOf h47 Ha_ahead h43 hmo hmr hlr hkZ (by omega) (by omega)) mv_11_146 (z_atS 0 11 (by decide) rfl rfl rfl) pd_X11_later ⟨by omega, by omega⟩ ⟨by omega, by omega⟩ rfl (Nat.le_of_ble_eq_true rfl) dX11_follows_211 ?_
                            rintro _ _ _ ⟨n50, n51, rfl, rfl, h54, h55, z56, rfl, hz56⟩
                            have hk211 := hz56
                            refine z_if_eq (t := 221) C dX11_follows_214 (by decide) (by omega) (fun c57 => ?_) (fun c57 => ?_)
                            · skip
                              refine z_iconst C dX11_follows_221 ?_
                              rw [hQ]
                              exact z_zret C hrt (by omega) dX11_follows_222 (⟨(va_up (va_up fa_at (x23 : Int).toNat x24) (x41 : Int).toNat x42), n50, n51, rfl, rfl, h43, h54, h55, _, rfl, by first | (obtain ⟨_, hl1, hl2⟩ := hk211.elim id (fun q => absurd q.1 (by omega)); exact Or.inl ⟨rfl, zo_F5 hst hg2.1 hset hAT hkG hl1, hl2⟩) | exact Or.inr ⟨rfl, zo_F4 hg2.1 hset hAT hkG (hk211.elim (fun q => absurd q.1 (by omega)) (fun q => q.2))⟩ | exact Or.inr ⟨rfl, zo_F3 hg2.1 hset hAT (hk204.elim (fun q => absurd q.1 (by omega)) (fun q => q.2))⟩⟩) (by omega) (by omega)
                            · skip
                              refine z_iconst C dX11_follows_217 ?_
                              refine z_goto (t := 222) C dX11_follows_218 (by decide) ?_
                              rw [hQ]
                              exact z_zret C hrt (by omega) dX11_follows_222 (⟨(va_up (va_up fa_at (x23 : Int).toNat x24) (x41 : Int).toNat x42), n50, n51, rfl, rfl, h43, h54, h55, _, rfl, by first | (obtain ⟨_, hl1, hl2⟩ := hk211.elim id (fun q => absurd q.1 (by omega)); exact Or.inl ⟨rfl, zo_F5 hst hg2.1 hset hAT hkG hl1, hl2⟩) | exact Or.inr ⟨rfl, zo_F4 hg2.1 hset hAT hkG (hk211.elim (fun q => absurd q.1 (by omega)) (fun q => q.2))⟩ | exact Or.inr ⟨rfl, zo_F3 hg2.1 hset hAT (hk204.elim (fun q => absurd q.1 (by omega)) (fun q => q.2))⟩⟩) (by omega) (by omega)
                      · skip
                        refine z_iconst C dX11_follows_150 ?_
                        refine z_goto (t := 160) C dX11_follows_151 (by decide) ?_
                        obtain ⟨b58, hb58, rb58⟩ := z_bits (z_i x15 ||| z_i 0)
                        refine z_ior C hb58 dX11_follows_160 ?_
                        have qb58 := z_bitsE hb58 rb58
                        have hor : b58 = z_or a_resets e0 f0 := by
                          rw [← qb58]; unfold z_or
                          first | (rw [if_pos (show f0 = -1 by omega), ← zo_or0 (Ha_resets e0.toNat)]; subst_vars; rfl) | (rw [if_neg (show ¬ f0 = -1 by omega)]; subst_vars; rfl)
                        refine z_callV C (cx_X11_set l b58 h11 (by omega) (hg2.2.1.1 0 (by omega))) mv_11_142 (z_atS 0 11 (by decide) rfl rfl rfl) pd_X11_set ⟨by omega, by omega⟩ ⟨by omega, by omega⟩ rfl (Nat.le_of_ble_eq_true rfl) dX11_follows_161 ?_
                        rintro _ _ _ ⟨n59, rfl, rfl, h62, q161_0, rfl⟩
                        have hset := q161_0
                        rw [hor] at hset
                        refine z_aloadn C 0 dX11_follows_164 rfl rfl ?_
                        refine z_get C 0 (by decide) rfl rfl z_it11 21 (by decide) rfl fl_11_65 rfl dX11_follows_165 ?_
                        refine z_aloadn C 0 dX11_follows_168 rfl rfl ?_
                        refine z_get C 0 (by decide) rfl rfl z_it11 1 (by decide) rfl fl_11_7 rfl dX11_follows_169 ?_
                        refine z_iloadn C 2 dX11_follows_172 rfl rfl ?_
                        refine z_iald C 1 (by decide) rfl (by decide) (by omega) (by omega) dX11_follows_173 ?_
                        have rx63 := Ha_machine (e0 : Int).toNat
                        generalize ex63 : a_machine (e0 : Int).toNat = x63 at rx63 ⊢
                        refine z_aloadn C 0 dX11_follows_174 rfl rfl ?_
                        refine z_get C 0 (by decide) rfl rfl z_it11 3 (by decide) rfl fl_11_16 rfl dX11_follows_175 ?_
                        refine z_iloadn C 2 dX11_follows_178 rfl rfl ?_
                        refine z_iald C 3 (by decide) rfl (by decide) (by omega) (by omega) dX11_follows_179 ?_
                        have rx64 := Ha_to (e0 : Int).toNat
                        generalize ex64 : a_to (e0 : Int).toNat = x64 at rx64 ⊢
                        refine z_iast C 18 (by decide) rfl (by decide) (by omega) (by omega) dX11_follows_180 ?_
                        refine z_ext (S' := (z_zm ad ks s_edges s_isNeeded s_explored s_states s_isMoved s_runs s_runTime s_runMoves w_h a_machine a_from a_to a_channel a_resets a_guards a_guardOf a_limits a_limitOf a_places a_zones a_parent a_moveE a_moveF a_moves n59 a_ahead (va_up fa_at (x63 : Int).toNat x64) a_amounts a_way a_moments a_runAt a_runClock)) upM_a_at ?_
                        have h65 : ∀ j, 0 ≤ (va_up fa_at (x63 : Int).toNat x64) j ∧ (va_up fa_at (x63 : Int).toNat x64) j ≤ 5 := z_upP (P := fun j v => 0 ≤ v ∧ v ≤ 5) Hfa_at (by omega)
                        refine z_iloadn C 3 dX11_follows_181 rfl rfl ?_
                        refine z_iconst C dX11_follows_182 ?_
                        refine z_icmp_eq (t := 203) C dX11_follows_183 (by decide) (by omega) (by omega) (fun c66 => ?_) (fun c66 => ?_)
                        · skip
                          refine z_aloadn C 0 dX11_follows_203 rfl rfl ?_
                          have hAT : ∀ m, m < 3 → (va_up fa_at (x63 : Int).toNat x64) m = z_goA (zo_n3 (fun m => a_places (3 * i0.toNat + m))) a_machine a_to e0 f0 m := by
                            first | (rw [z_goA1 (show f0 = -1 by omega)]; subst_vars; exact z_up_pt hA) | (rw [z_goA2 (show f0 ≠ -1 by omega)]; subst_vars; exact z_up_pt (z_up_pt hA))
                          have hZ5 : zo_Z 18018 20020 40027 n59 := ((zo_set_Z (r := z_or a_resets e0 f0) (hg2.2.flat (by omega))).mono (Int.le_refl _) (by omega) (Int.le_refl _)).congr (fun k hk => (hset k hk).symm)
                          refine z_callV C (cx_X11_keepLimits l h65 Ha_limits Ha_limitOf h62 hlr hZ5 (by omega) (by omega)) mv_11_133 (z_atS 0 11 (by decide) rfl rfl rfl) pd_X11_keepLimits ⟨by omega, by omega⟩ ⟨by omega, by omega⟩ rfl (Nat.le_of_ble_eq_true rfl) dX11_follows_204 ?_
                          rintro _ _ _ ⟨n67, rfl, rfl, h70, z71, rfl, hz71⟩
                          have hk204 := hz71
                          refine z_if_eq (t := 221) C dX11_follows_207 (by decide) (by omega) (fun c72 => ?_) (fun c72 => ?_)
                          · skip
                            refine z_iconst C dX11_follows_221 ?_
                            rw [hQ]
                            exact z_zret C hrt (by omega) dX11_follows_222 (⟨(va_up fa_at (x63 : Int).toNat x64), n67, a_ahead, rfl, rfl, h65, h70, Ha_ahead, _, rfl, by first | (obtain ⟨_, hl1, hl2⟩ := hk211.elim id (fun q => absurd q.1 (by omega)); exact Or.inl ⟨rfl, zo_F5 hst hg2.1 hset hAT hkG hl1, hl2⟩) | exact Or.inr ⟨rfl, zo_F4 hg2.1 hset hAT hkG (hk211.elim (fun q => absurd q.1 (by omega)) (fun q => q.2))⟩ | exact Or.inr ⟨rfl, zo_F3 hg2.1 hset hAT (hk204.elim (fun q => absurd q.1 (by omega)) (fun q => q.2))⟩⟩) (by omega) (by omega)
                          · skip
                            refine z_aloadn C 0 dX11_follows_210 rfl rfl ?_
                            obtain ⟨_, hkG, hkZ⟩ := zo_kl hk204 (by omega)
                            refine z_callV C (cx_X11_later l (by omega) Ha_guards Ha_guardOf Ha_limits Ha_limitOf h70 Ha_ahead h65 hmo hmr hlr hkZ (by omega) (by omega)) mv_11_146 (z_atS 0 11 (by decide) rfl rfl rfl) pd_X11_later ⟨by omega, by omega⟩ ⟨by omega, by omega⟩ rfl (Nat.le_of_ble_eq_true rfl) dX11_follows_211 ?_
                            rintro _ _ _ ⟨n73, n74, rfl, rfl, h77, h78, z79, rfl, hz79⟩
                            have hk211 := hz79
                            refine z_if_eq (t := 221) C dX11_follows_214 (by decide) (by omega) (fun c80 => ?_) (fun c80 => ?_)
                            · skip
                              refine z_iconst C dX11_follows_221 ?_
                              rw [hQ]
                              exact z_zret C hrt (by omega) dX11_follows_222 (⟨(va_up fa_at (x63 : Int).toNat x64), n73, n74, rfl, rfl, h65, h77, h78, _, rfl, by first | (obtain ⟨_, hl1, hl2⟩ := hk211.elim id (fun q => absurd q.1 (by omega)); exact Or.inl ⟨rfl, zo_F5 hst hg2.1 hset hAT hkG hl1, hl2⟩) | exact Or.inr ⟨rfl, zo_F4 hg2.1 hset hAT hkG (hk211.elim (fun q => absurd q.1 (by omega)) (fun q => q.2))⟩ | exact Or.inr ⟨rfl, zo_F3 hg2.1 hset hAT (hk204.elim (fun q => absurd q.1 (by omega)) (fun q => q.2))⟩⟩) (by omega) (by omega)
                            · skip
                              refine z_iconst C dX11_follows_217 ?_
                              refine z_goto (t := 222) C dX11_follows_218 (by decide) ?_
                              rw [hQ]
                              exact z_zret C hrt (by omega) dX11_follows_222 (⟨(va_up fa_at (x63 : Int).toNat x64), n73, n74, rfl, rfl, h65, h77, h78, _, rfl, by first | (obtain ⟨_, hl1, hl2⟩ := hk211.elim id (fun q => absurd q.1 (by omega)); exact Or.inl ⟨rfl, zo_F5 hst hg2.1 hset hAT hkG hl1, hl2⟩) | exact Or.inr ⟨rfl, zo_F4 hg2.1 hset hAT hkG (hk211.elim (fun q => absurd q.1 (by omega)) (fun q => q.2))⟩ | exact Or.inr ⟨rfl, zo_F3 hg2.1 hset hAT (hk204.elim (fun q => absurd q.1 (by omega)) (fun q => q.2))⟩⟩) (by omega) (by omega)
                        · skip
                          refine z_aloadn C 0 dX11_follows_186 rfl rfl ?_
                          refine z_get C 0 (by decide) rfl rfl z_it11 21 (by decide) rfl fl_11_65 rfl dX11_follows_187 ?_
                          refine z_aloadn C 0 dX11_follows_190 rfl rfl ?_
                          refine z_get C 0 (by decide) rfl rfl z_it11 1 (by decide) rfl fl_11_7 rfl dX11_follows_191 ?_
                          refine z_iloadn C 3 dX11_follows_194 rfl rfl ?_
                          refine z_iald C 1 (by decide) rfl (by decide) (by omega) (by omega) dX11_follows_195 ?_
                          have rx81 := Ha_machine (f0 : Int).toNat
                          generalize ex81 : a_machine (f0 : Int).toNat = x81 at rx81 ⊢
                          refine z_aloadn C 0 dX11_follows_196 rfl rfl ?_
                          refine z_get C 0 (by decide) rfl rfl z_it11 3 (by decide) rfl fl_11_16 rfl dX11_follows_197 ?_
                          refine z_iloadn C 3 dX11_follows_200 rfl rfl ?_
                          refine z_iald C 3 (by decide) rfl (by decide) (by omega) (by omega) dX11_follows_201 ?_
                          have rx82 := Ha_to (f0 : Int).toNat
                          generalize ex82 : a_to (f0 : Int).toNat = x82 at rx82 ⊢
                          refine z_iast C 18 (by decide) rfl (by decide) (by omega) (by omega) dX11_follows_202 ?_
                          refine z_ext (S' := (z_zm ad ks s_edges s_isNeeded s_explored s_states s_isMoved s_runs s_runTime s_runMoves w_h a_machine a_from a_to a_channel a_resets a_guards a_guardOf a_limits a_limitOf a_places a_zones a_parent a_moveE a_moveF a_moves n59 a_ahead (va_up (va_up fa_at (x63 : Int).toNat x64) (x81 : Int).toNat x82) a_amounts a_way a_moments a_runAt a_runClock)) upM_a_at ?_
                          have h83 : ∀ j, 0 ≤ (va_up (va_up fa_at (x63 : Int).toNat x64) (x81 : Int).toNat x82) j ∧ (va_up (va_up fa_at (x63 : Int).toNat x64) (x81 : Int).toNat x82) j ≤ 5 := z_upP (P := fun j v => 0 ≤ v ∧ v ≤ 5) h65 (by omega)
                          refine z_aloadn C 0 dX11_follows_203 rfl rfl ?_
                          have hAT : ∀ m, m < 3 → (va_up (va_up fa_at (x63 : Int).toNat x64) (x81 : Int).toNat x82) m = z_goA (zo_n3 (fun m => a_places (3 * i0.toNat + m))) a_machine a_to e0 f0 m := by
                            first | (rw [z_goA1 (show f0 = -1 by omega)]; subst_vars; exact z_up_pt hA) | (rw [z_goA2 (show f0 ≠ -1 by omega)]; subst_vars; exact z_up_pt (z_up_pt hA))
                          have hZ5 : zo_Z 18018 20020 40027 n59 := ((zo_set_Z (r := z_or a_resets e0 f0) (hg2.2.flat (by omega))).mono (Int.le_refl _) (by omega) (Int.le_refl _)).congr (fun k hk => (hset k hk).symm)
                          refine z_callV C (cx_X11_keepLimits l h83 Ha_limits Ha_limitOf h62 hlr hZ5 (by omega) (by omega)) mv_11_133 (z_atS 0 11 (by decide) rfl rfl rfl) pd_X11_keepLimits ⟨by omega, by omega⟩ ⟨by omega, by omega⟩ rfl (Nat.le_of_ble_eq_true rfl) dX11_follows_204 ?_
                          rintro _ _ _ ⟨n84, rfl, rfl, h87, z88, rfl, hz88⟩
                          have hk204 := hz88
                          refine z_if_eq (t := 221) C dX11_follows_207 (by decide) (by omega) (fun c89 => ?_) (fun c89 => ?_)
                          · skip
                            refine z_iconst C dX11_follows_221 ?_
                            rw [hQ]
                            exact z_zret C hrt (by omega) dX11_follows_222 (⟨(va_up (va_up fa_at (x63 : Int).toNat x64) (x81 : Int).toNat x82), n84, a_ahead, rfl, rfl, h83, h87, Ha_ahead, _, rfl, by first | (obtain ⟨_, hl1, hl2⟩ := hk211.elim id (fun q => absurd q.1 (by omega)); exact Or.inl ⟨rfl, zo_F5 hst hg2.1 hset hAT hkG hl1, hl2⟩) | exact Or.inr ⟨rfl, zo_F4 hg2.1 hset hAT hkG (hk211.elim (fun q => absurd q.1 (by omega)) (fun q => q.2))⟩ | exact Or.inr ⟨rfl, zo_F3 hg2.1 hset hAT (hk204.elim (fun q => absurd q.1 (by omega)) (fun q => q.2))⟩⟩) (by omega) (by omega)
                          · skip
                            refine z_aloadn C 0 dX11_follows_210 rfl rfl ?_
                            obtain ⟨_, hkG, hkZ⟩ := zo_kl hk204 (by omega)
                            refine z_callV C (cx_X11_later l (by omega) Ha_guards Ha_guardOf Ha_limits Ha_limitOf h87 Ha_ahead h83 hmo hmr hlr hkZ (by omega) (by omega)) mv_11_146 (z_atS 0 11 (by decide) rfl rfl rfl) pd_X11_later ⟨by omega, by omega⟩ ⟨by omega, by omega⟩ rfl (Nat.le_of_ble_eq_true rfl) dX11_follows_211 ?_
                            rintro _ _ _ ⟨n90, n91, rfl, rfl, h94, h95, z96, rfl, hz96⟩
                            have hk211 := hz96
                            refine z_if_eq (t := 221) C dX11_follows_214 (by decide) (by omega) (fun c97 => ?_) (fun c97 => ?_)
                            · skip
                              refine z_iconst C dX11_follows_221 ?_
                              rw [hQ]
                              exact z_zret C hrt (by omega) dX11_follows_222 (⟨(va_up (va_up fa_at (x63 : Int).toNat x64) (x81 : Int).toNat x82), n90, n91, rfl, rfl, h83, h94, h95, _, rfl, by first | (obtain ⟨_, hl1, hl2⟩ := hk211.elim id (fun q => absurd q.1 (by omega)); exact Or.inl ⟨rfl, zo_F5 hst hg2.1 hset hAT hkG hl1, hl2⟩) | exact Or.inr ⟨rfl, zo_F4 hg2.1 hset hAT hkG (hk211.elim (fun q => absurd q.1 (by omega)) (fun q => q.2))⟩ | exact Or.inr ⟨rfl, zo_F3 hg2.1 hset hAT (hk204.elim (fun q => absurd q.1 (by omega)) (fun q => q.2))⟩⟩) (by omega) (by omega)
                            · skip
                              refine z_iconst C dX11_follows_217 ?_
                              refine z_goto (t := 222) C dX11_follows_218 (by decide) ?_
                              rw [hQ]
                              exact z_zret C hrt (by omega) dX11_follows_222 (⟨(va_up (va_up fa_at (x63 : Int).toNat x64) (x81 : Int).toNat x82), n90, n91, rfl, rfl, h83, h94, h95, _, rfl, by first | (obtain ⟨_, hl1, hl2⟩ := hk211.elim id (fun q => absurd q.1 (by omega)); exact Or.inl ⟨rfl, zo_F5 hst hg2.1 hset hAT hkG hl1, hl2⟩) | exact Or.inr ⟨rfl, zo_F4 hg2.1 hset hAT hkG (hk211.elim (fun q => absurd q.1 (by omega)) (fun q => q.2))⟩ | exact Or.inr ⟨rfl, zo_F3 hg2.1 hset hAT (hk204.elim (fun q => absurd q.1 (by omega)) (fun q => q.2))⟩⟩) (by omega) (by omega)
                    · skip
                      refine z_aloadn C 0 dX11_follows_128 rfl rfl ?_
                      refine z_iloadn C 3 dX11_follows_129 rfl rfl ?_
                      obtain ⟨_, hgA, hZA⟩ := hg117.elim id (fun q => absurd q.1 (by omega))
                      refine z_callV C (cx_X11_keepGuards l f0 Ha_guards Ha_guardOf h11 (by omega) (hgr f0 (by omega) (by omega)) hZA (by omega) (by omega)) mv_11_139 (z_atS 0 11 (by decide) rfl rfl rfl) pd_X11_keepGuards ⟨by omega, by omega⟩ ⟨by omega, by omega⟩ rfl (Nat.le_of_ble_eq_true rfl) dX11_follows_130 ?_
                      rintro _ _ _ ⟨n98, rfl, rfl, h101, z102, rfl, hz102⟩
                      have hg130 := zo_toG (fun _ _ => rfl) hz102
                      refine z_if_ne (t := 138) C dX11_follows_133 (by decide) (by omega) (fun c103 => ?_) (fun c103 => ?_)
                      · skip
                        have hg2 : zo_g2 a_guards a_guardOf e0 f0 (zo_n16 (fun k => a_zones (16 * i0.toNat + k))) n98 ∧ zo_Z 16016 18018 40027 n98 := by
                          first | (obtain ⟨_, hgB, hZB⟩ := hg130.elim id (fun q => absurd q.1 (by omega)); exact ⟨⟨_, hgA, Or.inr ⟨by omega, hgB⟩⟩, hZB.mono (Int.le_refl _) (Int.le_refl _) (by omega)⟩) | (obtain ⟨_, hgB, hZB⟩ := hg117.elim id (fun q => absurd q.1 (by omega)); exact ⟨⟨_, hgB, Or.inl ⟨by omega, fun _ _ => rfl⟩⟩, hZB.mono (Int.le_refl _) (Int.le_refl _) (by omega)⟩)
                        refine z_aloadn C 0 dX11_follows_138 rfl rfl ?_
                        refine z_aloadn C 0 dX11_follows_139 rfl rfl ?_
                        refine z_get C 0 (by decide) rfl rfl z_it11 5 (by decide) rfl fl_11_22 rfl dX11_follows_140 ?_
                        refine z_iloadn C 2 dX11_follows_143 rfl rfl ?_
                        refine z_iald C 5 (by decide) rfl (by decide) (by omega) (by omega) dX11_follows_144 ?_
                        have rx104 := Ha_resets (e0 : Int).toNat
                        generalize ex104 : a_resets (e0 : Int).toNat = x104 at rx104 ⊢
                        refine z_iloadn C 3 dX11_follows_145 rfl rfl ?_
                        refine z_iconst C dX11_follows_146 ?_
                        refine z_icmp_ne (t := 154) C dX11_follows_147 (by decide) (by omega) (by omega) (fun c105 => ?_) (fun c105 => ?_)
                        · skip
                          refine z_aloadn C 0 dX11_follows_154 rfl rfl ?_
                          refine z_get C 0 (by decide) rfl rfl z_it11 5 (by decide) rfl fl_11_22 rfl dX11_follows_155 ?_
                          refine z_iloadn C 3 dX11_follows_158 rfl rfl ?_
                          refine z_iald C 5 (by decide) rfl (by decide) (by omega) (by omega) dX11_follows_159 ?_
                          have rx106 := Ha_resets (f0 : Int).toNat
                          generalize ex106 : a_resets (f0 : Int).toNat = x106 at rx106 ⊢
                          obtain ⟨b107, hb107, rb107⟩ := z_bits (z_i x104 ||| z_i x106)
                          refine z_ior C hb107 dX11_follows_160 ?_
                          have qb107 := z_bitsE hb107 rb107
                          have hor : b107 = z_or a_resets e0 f0 := by
                            rw [← qb107]; unfold z_or
                            first | (rw [if_pos (show f0 = -1 by omega), ← zo_or0 (Ha_resets e0.toNat)]; subst_vars; rfl) | (rw [if_neg (show ¬ f0 = -1 by omega)]; subst_vars; rfl)
                          refine z_callV C (cx_X11_set l b107 h101 (by omega) (hg2.2.1.1 0 (by omega))) mv_11_142 (z_atS 0 11 (by decide) rfl rfl rfl) pd_X11_set ⟨by omega, by omega⟩ ⟨by omega, by omega⟩ rfl (Nat.le_of_ble_eq_true rfl) dX11_follows_161 ?_
                          rintro _ _ _ ⟨n108, rfl, rfl, h111, q161_0, rfl⟩
                          have hset := q161_0
                          rw [hor] at hset
                          refine z_aloadn C 0 dX11_follows_164 rfl rfl ?_
                          refine z_get C 0 (by decide) rfl rfl z_it11 21 (by decide) rfl fl_11_65 rfl dX11_follows_165 ?_
                          refine z_aloadn C 0 dX11_follows_168 rfl rfl ?_
                          refine z_get C 0 (by decide) rfl rfl z_it11 1 (by decide) rfl fl_11_7 rfl dX11_follows_169 ?_
                          refine z_iloadn C 2 dX11_follows_172 rfl rfl ?_
                          refine z_iald C 1 (by decide) rfl (by decide) (by omega) (by omega) dX11_follows_173 ?_
                          have rx112 := Ha_machine (e0 : Int).toNat
                          generalize ex112 : a_machine (e0 : Int).toNat = x112 at rx112 ⊢
                          refine z_aloadn C 0 dX11_follows_174 rfl rfl ?_
                          refine z_get C 0 (by decide) rfl rfl z_it11 3 (by decide) rfl fl_11_16 rfl dX11_follows_175 ?_
                          refine z_iloadn C 2 dX11_follows_178 rfl rfl ?_
                          refine z_iald C 3 (by decide) rfl (by decide) (by omega) (by omega) dX11_follows_179 ?_
                          have rx113 := Ha_to (e0 : Int).toNat
                          generalize ex113 : a_to (e0 : Int).toNat = x113 at rx113 ⊢
                          refine z_iast C 18 (by decide) rfl (by decide) (by omega) (by omega) dX11_follows_180 ?_
                          refine z_ext (S' := (z_zm ad ks s_edges s_isNeeded s_explored s_states s_isMoved s_runs s_runTime s_runMoves w_h a_machine a_from a_to a_channel a_resets a_guards a_guardOf a_limits a_limitOf a_places a_zones a_parent a_moveE a_moveF a_moves n108 a_ahead (va_up fa_at (x112 : Int).toNat x113) a_amounts a_way a_moments a_runAt a_runClock)) upM_a_at ?_
                          have h114 : ∀ j, 0 ≤ (va_up fa_at (x112 : Int).toNat x113) j ∧ (va_up fa_at (x112 : Int).toNat x113) j ≤ 5 := z_upP (P := fun j v => 0 ≤ v ∧ v ≤ 5) Hfa_at (by omega)
                          refine z_iloadn C 3 dX11_follows_181 rfl rfl ?_
                          refine z_iconst C dX11_follows_182 ?_
                          refine z_icmp_eq (t := 203) C dX11_follows_183 (by decide) (by omega) (by omega) (fun c115 => ?_) (fun c115 => ?_)
                          · skip
                            refine z_aloadn C 0 dX11_follows_203 rfl rfl ?_
                            have hAT : ∀ m, m < 3 → (va_up fa_at (x112 : Int).toNat x113) m = z_goA (zo_n3 (fun m => a_places (3 * i0.toNat + m))) a_machine a_to e0 f0 m := by
                              first | (rw [z_goA1 (show f0 = -1 by omega)]; subst_vars; exact z_up_pt hA) | (rw [z_goA2 (show f0 ≠ -1 by omega)]; subst_vars; exact z_up_pt (z_up_pt hA))
                            have hZ5 : zo_Z 18018 20020 40027 n108 := ((zo_set_Z (r := z_or a_resets e0 f0) (hg2.2.flat (by omega))).mono (Int.le_refl _) (by omega) (Int.le_refl _)).congr (fun k hk => (hset k hk).symm)
                            refine z_callV C (cx_X11_keepLimits l h114 Ha_limits Ha_limitOf h111 hlr hZ5 (by omega) (by omega)) mv_11_133 (z_atS 0 11 (by decide) rfl rfl rfl) pd_X11_keepLimits ⟨by omega, by omega⟩ ⟨by omega, by omega⟩ rfl (Nat.le_of_ble_eq_true rfl) dX11_follows_204 ?_
                            rintro _ _ _ ⟨n116, rfl, rfl, h119, z120, rfl, hz120⟩
                            have hk204 := hz120
                            refine z_if_eq (t := 221) C dX11_follows_207 (by decide) (by omega) (fun c121 => ?_) (fun c121 => ?_)
                            · skip
                              refine z_iconst C dX11_follows_221 ?_
                              rw [hQ]
                              exact z_zret C hrt (by omega) dX11_follows_222 (⟨(va_up fa_at (x112 : Int).toNat x113), n116, a_ahead, rfl, rfl, h114, h119, Ha_ahead, _, rfl, by first | (obtain ⟨_, hl1, hl2⟩ := hk211.elim id (fun q => absurd q.1 (by omega)); exact Or.inl ⟨rfl, zo_F5 hst hg2.1 hset hAT hkG hl1, hl2⟩) | exact Or.inr ⟨rfl, zo_F4 hg2.1 hset hAT hkG (hk211.elim (fun q => absurd q.1 (by omega)) (fun q => q.2))⟩ | exact Or.inr ⟨rfl, zo_F3 hg2.1 hset hAT (hk204.elim (fun q => absurd q.1 (by omega)) (fun q => q.2))⟩⟩) (by omega) (by omega)
                            · skip
                              refine z_aloadn C 0 dX11_follows_210 rfl rfl ?_
                              obtain ⟨_, hkG, hkZ⟩ := zo_kl hk204 (by omega)
                              refine z_callV C (cx_X11_later l (by omega) Ha_guards Ha_guardOf Ha_limits Ha_limitOf h119 Ha_ahead h114 hmo hmr hlr hkZ (by omega) (by omega)) mv_11_146 (z_atS 0 11 (by decide) rfl rfl rfl) pd_X11_later ⟨by omega, by omega⟩ ⟨by omega, by omega⟩ rfl (Nat.le_of_ble_eq_true rfl) dX11_follows_211 ?_
                              rintro _ _ _ ⟨n122, n123, rfl, rfl, h126, h127, z128, rfl, hz128⟩
                              have hk211 := hz128
                              refine z_if_eq (t := 221) C dX11_follows_214 (by decide) (by omega) (fun c129 => ?_) (fun c129 => ?_)
                              · skip
                                refine z_iconst C dX11_follows_221 ?_
                                rw [hQ]
                                exact z_zret C hrt (by omega) dX11_follows_222 (⟨(va_up fa_at (x112 : Int).toNat x113), n122, n123, rfl, rfl, h114, h126, h127, _, rfl, by first | (obtain ⟨_, hl1, hl2⟩ := hk211.elim id (fun q => absurd q.1 (by omega)); exact Or.inl ⟨rfl, zo_F5 hst hg2.1 hset hAT hkG hl1, hl2⟩) | exact Or.inr ⟨rfl, zo_F4 hg2.1 hset hAT hkG (hk211.elim (fun q => absurd q.1 (by omega)) (fun q => q.2))⟩ | exact Or.inr ⟨rfl, zo_F3 hg2.1 hset hAT (hk204.elim (fun q => absurd q.1 (by omega)) (fun q => q.2))⟩⟩) (by omega) (by omega)
                              · skip
                                refine z_iconst C dX11_follows_217 ?_
                                refine z_goto (t := 222) C dX11_follows_218 (by decide) ?_
                                rw [hQ]
                                exact z_zret C hrt (by omega) dX11_follows_222 (⟨(va_up fa_at (x112 : Int).toNat x113), n122, n123, rfl, rfl, h114, h126, h127, _, rfl, by first | (obtain ⟨_, hl1, hl2⟩ := hk211.elim id (fun q => absurd q.1 (by omega)); exact Or.inl ⟨rfl, zo_F5 hst hg2.1 hset hAT hkG hl1, hl2⟩) | exact Or.inr ⟨rfl, zo_F4 hg2.1 hset hAT hkG (hk211.elim (fun q => absurd q.1 (by omega)) (fun q => q.2))⟩ | exact Or.inr ⟨rfl, zo_F3 hg2.1 hset hAT (hk204.elim (fun q => absurd q.1 (by omega)) (fun q => q.2))⟩⟩) (by omega) (by omega)
                          · skip
                            refine z_aloadn C 0 dX11_follows_186 rfl rfl ?_
                            refine z_get C 0 (by decide) rfl rfl z_it11 21 (by decide) rfl fl_11_65 rfl dX11_follows_187 ?_
                            refine z_aloadn C 0 dX11_follows_190 rfl rfl ?_
                            refine z_get C 0 (by decide) rfl rfl z_it11 1 (by decide) rfl fl_11_7 rfl dX11_follows_191 ?_
                            refine z_iloadn C 3 dX11_follows_194 rfl rfl ?_
                            refine z_iald C 1 (by decide) rfl (by decide) (by omega) (by omega) dX11_follows_195 ?_
                            have rx130 := Ha_machine (f0 : Int).toNat
                            generalize ex130 : a_machine (f0 : Int).toNat = x130 at rx130 ⊢
                            refine z_aloadn C 0 dX11_follows_196 rfl rfl ?_
                            refine z_get C 0 (by decide) rfl rfl z_it11 3 (by decide) rfl fl_11_16 rfl dX11_follows_197 ?_
                            refine z_iloadn C 3 dX11_follows_200 rfl rfl ?_
                            refine z_iald C 3 (by decide) rfl (by decide) (by omega) (by omega) dX11_follows_201 ?_
                            have rx131 := Ha_to (f0 : Int).toNat
                            generalize ex131 : a_to (f0 : Int).toNat = x131 at rx131 ⊢
                            refine z_iast C 18 (by decide) rfl (by decide) (by omega) (by omega) dX11_follows_202 ?_
                            refine z_ext (S' := (z_zm ad ks s_edges s_isNeeded s_explored s_states s_isMoved s_runs s_runTime s_runMoves w_h a_machine a_from a_to a_channel a_resets a_guards a_guardOf a_limits a_limitOf a_places a_zones a_parent a_moveE a_moveF a_moves n108 a_ahead (va_up (va_up fa_at (x112 : Int).toNat x113) (x130 : Int).toNat x131) a_amounts a_way a_moments a_runAt a_runClock)) upM_a_at ?_
                            have h132 : ∀ j, 0 ≤ (va_up (va_up fa_at (x112 : Int).toNat x113) (x130 : Int).toNat x131) j ∧ (va_up (va_up fa_at (x112 : Int).toNat x113) (x130 : Int).toNat x131) j ≤ 5 := z_upP (P := fun j v => 0 ≤ v ∧ v ≤ 5) h114 (by omega)
                            refine z_aloadn C 0 dX11_follows_203 rfl rfl ?_
                            have hAT : ∀ m, m < 3 → (va_up (va_up fa_at (x112 : Int).toNat x113) (x130 : Int).toNat x131) m = z_goA (zo_n3 (fun m => a_places (3 * i0.toNat + m))) a_machine a_to e0 f0 m := by
                              first | (rw [z_goA1 (show f0 = -1 by omega)]; subst_vars; exact z_up_pt hA) | (rw [z_goA2 (show f0 ≠ -1 by omega)]; subst_vars; exact z_up_pt (z_up_pt hA))
                            have hZ5 : zo_Z 18018 20020 40027 n108 := ((zo_set_Z (r := z_or a_resets e0 f0) (hg2.2.flat (by omega))).mono (Int.le_refl _) (by omega) (Int.le_refl _)).congr (fun k hk => (hset k hk).symm)
                            refine z_callV C (cx_X11_keepLimits l h132 Ha_limits Ha_limitOf h111 hlr hZ5 (by omega) (by omega)) mv_11_133 (z_atS 0 11 (by decide) rfl rfl rfl) pd_X11_keepLimits ⟨by omega, by omega⟩ ⟨by omega, by omega⟩ rfl (Nat.le_of_ble_eq_true rfl) dX11_follows_204 ?_
                            rintro _ _ _ ⟨n133, rfl, rfl, h136, z137, rfl, hz137⟩
                            have hk204 := hz137
                            refine z_if_eq (t := 221) C dX11_follows_207 (by decide) (by omega) (fun c138 => ?_) (fun c138 => ?_)
                            · skip
                              refine z_iconst C dX11_follows_221 ?_
                              rw [hQ]
                              exact z_zret C hrt (by omega) dX11_follows_222 (⟨(va_up (va_up fa_at (x112 : Int).toNat x113) (x130 : Int).toNat x131), n133, a_ahead, rfl, rfl, h132, h136, Ha_ahead, _, rfl, by first | (obtain ⟨_, hl1, hl2⟩ := hk211.elim id (fun q => absurd q.1 (by omega)); exact Or.inl ⟨rfl, zo_F5 hst hg2.1 hset hAT hkG hl1, hl2⟩) | exact Or.inr ⟨rfl, zo_F4 hg2.1 hset hAT hkG (hk211.elim (fun q => absurd q.1 (by omega)) (fun q => q.2))⟩ | exact Or.inr ⟨rfl, zo_F3 hg2.1 hset hAT (hk204.elim (fun q => absurd q.1 (by omega)) (fun q => q.2))⟩⟩) (by omega) (by omega)
                            · skip
                              refine z_aloadn C 0 dX11_follows_210 rfl rfl ?_
                              obtain ⟨_, hkG, hkZ⟩ := zo_kl hk204 (by omega)
                              refine z_callV C (cx_X11_later l (by omega) Ha_guards Ha_guardOf Ha_limits Ha_limitOf h136 Ha_ahead h132 hmo hmr hlr hkZ (by omega) (by omega)) mv_11_146 (z_atS 0 11 (by decide) rfl rfl rfl) pd_X11_later ⟨by omega, by omega⟩ ⟨by omega, by omega⟩ rfl (Nat.le_of_ble_eq_true rfl) dX11_follows_211 ?_
                              rintro _ _ _ ⟨n139, n140, rfl, rfl, h143, h144, z145, rfl, hz145⟩
                              have hk211 := hz145
                              refine z_if_eq (t := 221) C dX11_follows_214 (by decide) (by omega) (fun c146 => ?_) (fun c146 => ?_)
                              · skip
                                refine z_iconst C dX11_follows_221 ?_
                                rw [hQ]
                                exact z_zret C hrt (by omega) dX11_follows_222 (⟨(va_up (va_up fa_at (x112 : Int).toNat x113) (x130 : Int).toNat x131), n139, n140, rfl, rfl, h132, h143, h144, _, rfl, by first | (obtain ⟨_, hl1, hl2⟩ := hk211.elim id (fun q => absurd q.1 (by omega)); exact Or.inl ⟨rfl, zo_F5 hst hg2.1 hset hAT hkG hl1, hl2⟩) | exact Or.inr ⟨rfl, zo_F4 hg2.1 hset hAT hkG (hk211.elim (fun q => absurd q.1 (by omega)) (fun q => q.2))⟩ | exact Or.inr ⟨rfl, zo_F3 hg2.1 hset hAT (hk204.elim (fun q => absurd q.1 (by omega)) (fun q => q.2))⟩⟩) (by omega) (by omega)
                              · skip
                                refine z_iconst C dX11_follows_217 ?_
                                refine z_goto (t := 222) C dX11_follows_218 (by decide) ?_
                                rw [hQ]
                                exact z_zret C hrt (by omega) dX11_follows_222 (⟨(va_up (va_up fa_at (x112 : Int).toNat x113) (x130 : Int).toNat x131), n139, n140, rfl, rfl, h132, h143, h144, _, rfl, by first | (obtain ⟨_, hl1, hl2⟩ := hk211.elim id (fun q => absurd q.1 (by omega)); exact Or.inl ⟨rfl, zo_F5 hst hg2.1 hset hAT hkG hl1, hl2⟩) | exact Or.inr ⟨rfl, zo_F4 hg2.1 hset hAT hkG (hk211.elim (fun q => absurd q.1 (by omega)) (fun q => q.2))⟩ | exact Or.inr ⟨rfl, zo_F3 hg2.1 hset hAT (hk204.elim (fun q => absurd q.1 (by omega)) (fun q => q.2))⟩⟩) (by omega) (by omega)
                        · skip
                          refine z_iconst C dX11_follows_150 ?_
                          refine z_goto (t := 160) C dX11_follows_151 (by decide) ?_
                          obtain ⟨b147, hb147, rb147⟩ := z_bits (z_i x104 ||| z_i 0)
                          refine z_ior C hb147 dX11_follows_160 ?_
                          have qb147 := z_bitsE hb147 rb147
                          have hor : b147 = z_or a_resets e0 f0 := by
                            rw [← qb147]; unfold z_or
                            first | (rw [if_pos (show f0 = -1 by omega), ← zo_or0 (Ha_resets e0.toNat)]; subst_vars; rfl) | (rw [if_neg (show ¬ f0 = -1 by omega)]; subst_vars; rfl)
                          refine z_callV C (cx_X11_set l b147 h101 (by omega) (hg2.2.1.1 0 (by omega))) mv_11_142 (z_atS 0 11 (by decide) rfl rfl rfl) pd_X11_set ⟨by omega, by omega⟩ ⟨by omega, by omega⟩ rfl (Nat.le_of_ble_eq_true rfl) dX11_follows_161 ?_
                          rintro _ _ _ ⟨n148, rfl, rfl, h151, q161_0, rfl⟩
                          have hset := q161_0
                          rw [hor] at hset
                          refine z_aloadn C 0 dX11_follows_164 rfl rfl ?_
                          refine z_get C 0 (by decide) rfl rfl z_it11 21 (by decide) rfl fl_11_65 rfl dX11_follows_165 ?_
                          refine z_aloadn C 0 dX11_follows_168 rfl rfl ?_
                          refine z_get C 0 (by decide) rfl rfl z_it11 1 (by decide) rfl fl_11_7 rfl dX11_follows_169 ?_
                          refine z_iloadn C 2 dX11_follows_172 rfl rfl ?_
                          refine z_iald C 1 (by decide) rfl (by decide) (by omega) (by omega) dX11_follows_173 ?_
                          have rx152 := Ha_machine (e0 : Int).toNat
                          generalize ex152 : a_machine (e0 : Int).toNat = x152 at rx152 ⊢
                          refine z_aloadn C 0 dX11_follows_174 rfl rfl ?_
                          refine z_get C 0 (by decide) rfl rfl z_it11 3 (by decide) rfl fl_11_16 rfl dX11_follows_175 ?_
                          refine z_iloadn C 2 dX11_follows_178 rfl rfl ?_
                          refine z_iald C 3 (by decide) rfl (by decide) (by omega) (by omega) dX11_follows_179 ?_
                          have rx153 := Ha_to (e0 : Int).toNat
                          generalize ex153 : a_to (e0 : Int).toNat = x153 at rx153 ⊢
                          refine z_iast C 18 (by decide) rfl (by decide) (by omega) (by omega) dX11_follows_180 ?_
                          refine z_ext (S' := (z_zm ad ks s_edges s_isNeeded s_explored s_states s_isMoved s_runs s_runTime s_runMoves w_h a_machine a_from a_to a_channel a_resets a_guards a_guardOf a_limits a_limitOf a_places a_zones a_parent a_moveE a_moveF a_moves n148 a_ahead (va_up fa_at (x152 : Int).toNat x153) a_amounts a_way a_moments a_runAt a_runClock)) upM_a_at ?_
                          have h154 : ∀ j, 0 ≤ (va_up fa_at (x152 : Int).toNat x153) j ∧ (va_up fa_at (x152 : Int).toNat x153) j ≤ 5 := z_upP (P := fun j v => 0 ≤ v ∧ v ≤ 5) Hfa_at (by omega)
                          refine z_iloadn C 3 dX11_follows_181 rfl rfl ?_
                          refine z_iconst C dX11_follows_182 ?_
                          refine z_icmp_eq (t := 203) C dX11_follows_183 (by decide) (by omega) (by omega) (fun c155 => ?_) (fun c155 => ?_)
                          · skip
                            refine z_aloadn C 0 dX11_follows_203 rfl rfl ?_
                            have hAT : ∀ m, m < 3 → (va_up fa_at (x152 : Int).toNat x153) m = z_goA (zo_n3 (fun m => a_places (3 * i0.toNat + m))) a_machine a_to e0 f0 m := by
                              first | (rw [z_goA1 (show f0 = -1 by omega)]; subst_vars; exact z_up_pt hA) | (rw [z_goA2 (show f0 ≠ -1 by omega)]; subst_vars; exact z_up_pt (z_up_pt hA))
                            have hZ5 : zo_Z 18018 20020 40027 n148 := ((zo_set_Z (r := z_or a_resets e0 f0) (hg2.2.flat (by omega))).mono (Int.le_refl _) (by omega) (Int.le_refl _)).congr (fun k hk => (hset k hk).symm)
                            refine z_callV C (cx_X11_keepLimits l h154 Ha_limits Ha_limitOf h151 hlr hZ5 (by omega) (by omega)) mv_11_133 (z_atS 0 11 (by decide) rfl rfl rfl) pd_X11_keepLimits ⟨by omega, by omega⟩ ⟨by omega, by omega⟩ rfl (Nat.le_of_ble_eq_true rfl) dX11_follows_204 ?_
                            rintro _ _ _ ⟨n156, rfl, rfl, h159, z160, rfl, hz160⟩
                            have hk204 := hz160
                            refine z_if_eq (t := 221) C dX11_follows_207 (by decide) (by omega) (fun c161 => ?_) (fun c161 => ?_)
                            · skip
                              refine z_iconst C dX11_follows_221 ?_
                              rw [hQ]
                              exact z_zret C hrt (by omega) dX11_follows_222 (⟨(va_up fa_at (x152 : Int).toNat x153), n156, a_ahead, rfl, rfl, h154, h159, Ha_ahead, _, rfl, by first | (obtain ⟨_, hl1, hl2⟩ := hk211.elim id (fun q => absurd q.1 (by omega)); exact Or.inl ⟨rfl, zo_F5 hst hg2.1 hset hAT hkG hl1, hl2⟩) | exact Or.inr ⟨rfl, zo_F4 hg2.1 hset hAT hkG (hk211.elim (fun q => absurd q.1 (by omega)) (fun q => q.2))⟩ | exact Or.inr ⟨rfl, zo_F3 hg2.1 hset hAT (hk204.elim (fun q => absurd q.1 (by omega)) (fun q => q.2))⟩⟩) (by omega) (by omega)
                            · skip
                              refine z_aloadn C 0 dX11_follows_210 rfl rfl ?_
                              obtain ⟨_, hkG, hkZ⟩ := zo_kl hk204 (by omega)
                              refine z_callV C (cx_X11_later l (by omega) Ha_guards Ha_guardOf Ha_limits Ha_limitOf h159 Ha_ahead h154 hmo hmr hlr hkZ (by omega) (by omega)) mv_11_146 (z_atS 0 11 (by decide) rfl rfl rfl) pd_X11_later ⟨by omega, by omega⟩ ⟨by omega, by omega⟩ rfl (Nat.le_of_ble_eq_true rfl) dX11_follows_211 ?_
                              rintro _ _ _ ⟨n162, n163, rfl, rfl, h166, h167, z168, rfl, hz168⟩
                              have hk211 := hz168
                              refine z_if_eq (t := 221) C dX11_follows_214 (by decide) (by omega) (fun c169 => ?_) (fun c169 => ?_)
                              · skip
                                refine z_iconst C dX11_follows_221 ?_
                                rw [hQ]
                                exact z_zret C hrt (by omega) dX11_follows_222 (⟨(va_up fa_at (x152 : Int).toNat x153), n162, n163, rfl, rfl, h154, h166, h167, _, rfl, by first | (obtain ⟨_, hl1, hl2⟩ := hk211.elim id (fun q => absurd q.1 (by omega)); exact Or.inl ⟨rfl, zo_F5 hst hg2.1 hset hAT hkG hl1, hl2⟩) | exact Or.inr ⟨rfl, zo_F4 hg2.1 hset hAT hkG (hk211.elim (fun q => absurd q.1 (by omega)) (fun q => q.2))⟩ | exact Or.inr ⟨rfl, zo_F3 hg2.1 hset hAT (hk204.elim (fun q => absurd q.1 (by omega)) (fun q => q.2))⟩⟩) (by omega) (by omega)
                              · skip
                                refine z_iconst C dX11_follows_217 ?_
                                refine z_goto (t := 222) C dX11_follows_218 (by decide) ?_
                                rw [hQ]
                                exact z_zret C hrt (by omega) dX11_follows_222 (⟨(va_up fa_at (x152 : Int).toNat x153), n162, n163, rfl, rfl, h154, h166, h167, _, rfl, by first | (obtain ⟨_, hl1, hl2⟩ := hk211.elim id (fun q => absurd q.1 (by omega)); exact Or.inl ⟨rfl, zo_F5 hst hg2.1 hset hAT hkG hl1, hl2⟩) | exact Or.inr ⟨rfl, zo_F4 hg2.1 hset hAT hkG (hk211.elim (fun q => absurd q.1 (by omega)) (fun q => q.2))⟩ | exact Or.inr ⟨rfl, zo_F3 hg2.1 hset hAT (hk204.elim (fun q => absurd q.1 (by omega)) (fun q => q.2))⟩⟩) (by omega) (by omega)
                          · skip
                            refine z_aloadn C 0 dX11_follows_186 rfl rfl ?_
                            refine z_get C 0 (by decide) rfl rfl z_it11 21 (by decide) rfl fl_11_65 rfl dX11_follows_187 ?_
                            refine z_aloadn C 0 dX11_follows_190 rfl rfl ?_
                            refine z_get C 0 (by decide) rfl rfl z_it11 1 (by decide) rfl fl_11_7 rfl dX11_follows_191 ?_
                            refine z_iloadn C 3 dX11_follows_194 rfl rfl ?_
                            refine z_iald C 1 (by decide) rfl (by decide) (by omega) (by omega) dX11_follows_195 ?_
                            have rx170 := Ha_machine (f0 : Int).toNat
                            generalize ex170 : a_machine (f0 : Int).toNat = x170 at rx170 ⊢
                            refine z_aloadn C 0 dX11_follows_196 rfl rfl ?_
                            refine z_get C 0 (by decide) rfl rfl z_it11 3 (by decide) rfl fl_11_16 rfl dX11_follows_197 ?_
                            refine z_iloadn C 3 dX11_follows_200 rfl rfl ?_
                            refine z_iald C 3 (by decide) rfl (by decide) (by omega) (by omega) dX11_follows_201 ?_
                            have rx171 := Ha_to (f0 : Int).toNat
                            generalize ex171 : a_to (f0 : Int).toNat = x171 at rx171 ⊢
                            refine z_iast C 18 (by decide) rfl (by decide) (by omega) (by omega) dX11_follows_202 ?_
                            refine z_ext (S' := (z_zm ad ks s_edges s_isNeeded s_explored s_states s_isMoved s_runs s_runTime s_runMoves w_h a_machine a_from a_to a_channel a_resets a_guards a_guardOf a_limits a_limitOf a_places a_zones a_parent a_moveE a_moveF a_moves n148 a_ahead (va_up (va_up fa_at (x152 : Int).toNat x153) (x170 : Int).toNat x171) a_amounts a_way a_moments a_runAt a_runClock)) upM_a_at ?_
                            have h172 : ∀ j, 0 ≤ (va_up (va_up fa_at (x152 : Int).toNat x153) (x170 : Int).toNat x171) j ∧ (va_up (va_up fa_at (x152 : Int).toNat x153) (x170 : Int).toNat x171) j ≤ 5 := z_upP (P := fun j v => 0 ≤ v ∧ v ≤ 5) h154 (by omega)
                            refine z_aloadn C 0 dX11_follows_203 rfl rfl ?_
                            have hAT : ∀ m, m < 3 → (va_up (va_up fa_at (x152 : Int).toNat x153) (x170 : Int).toNat x171) m = z_goA (zo_n3 (fun m => a_places (3 * i0.toNat + m))) a_machine a_to e0 f0 m := by
                              first | (rw [z_goA1 (show f0 = -1 by omega)]; subst_vars; exact z_up_pt hA) | (rw [z_goA2 (show f0 ≠ -1 by omega)]; subst_vars; exact z_up_pt (z_up_pt hA))
                            have hZ5 : zo_Z 18018 20020 40027 n148 := ((zo_set_Z (r := z_or a_resets e0 f0) (hg2.2.flat (by omega))).mono (Int.le_refl _) (by omega) (Int.le_refl _)).congr (fun k hk => (hset k hk).symm)
                            refine z_callV C (cx_X11_keepLimits l h172 Ha_limits Ha_limitOf h151 hlr hZ5 (by omega) (by omega)) mv_11_133 (z_atS 0 11 (by decide) rfl rfl rfl) pd_X11_keepLimits ⟨by omega, by omega⟩ ⟨by omega, by omega⟩ rfl (Nat.le_of_ble_eq_true rfl) dX11_follows_204 ?_
                            rintro _ _ _ ⟨n173, rfl, rfl, h176, z177, rfl, hz177⟩
                            have hk204 := hz177
                            refine z_if_eq (t := 221) C dX11_follows_207 (by decide) (by omega) (fun c178 => ?_) (fun c178 => ?_)
                            · skip
                              refine z_iconst C dX11_follows_221 ?_
                              rw [hQ]
                              exact z_zret C hrt (by omega) dX11_follows_222 (⟨(va_up (va_up fa_at (x152 : Int).toNat x153) (x170 : Int).toNat x171), n173, a_ahead, rfl, rfl, h172, h176, Ha_ahead, _, rfl, by first | (obtain ⟨_, hl1, hl2⟩ := hk211.elim id (fun q => absurd q.1 (by omega)); exact Or.inl ⟨rfl, zo_F5 hst hg2.1 hset hAT hkG hl1, hl2⟩) | exact Or.inr ⟨rfl, zo_F4 hg2.1 hset hAT hkG (hk211.elim (fun q => absurd q.1 (by omega)) (fun q => q.2))⟩ | exact Or.inr ⟨rfl, zo_F3 hg2.1 hset hAT (hk204.elim (fun q => absurd q.1 (by omega)) (fun q => q.2))⟩⟩) (by omega) (by omega)
                            · skip
                              refine z_aloadn C 0 dX11_follows_210 rfl rfl ?_
                              obtain ⟨_, hkG, hkZ⟩ := zo_kl hk204 (by omega)
                              refine z_callV C (cx_X11_later l (by omega) Ha_guards Ha_guardOf Ha_limits Ha_limitOf h176 Ha_ahead h172 hmo hmr hlr hkZ (by omega) (by omega)) mv_11_146 (z_atS 0 11 (by decide) rfl rfl rfl) pd_X11_later ⟨by omega, by omega⟩ ⟨by omega, by omega⟩ rfl (Nat.le_of_ble_eq_true rfl) dX11_follows_211 ?_
                              rintro _ _ _ ⟨n179, n180, rfl, rfl, h183, h184, z185, rfl, hz185⟩
                              have hk211 := hz185
                              refine z_if_eq (t := 221) C dX11_follows_214 (by decide) (by omega) (fun c186 => ?_) (fun c186 => ?_)
                              · skip
                                refine z_iconst C dX11_follows_221 ?_
                                rw [hQ]
                                exact z_zret C hrt (by omega) dX11_follows_222 (⟨(va_up (va_up fa_at (x152 : Int).toNat x153) (x170 : Int).toNat x171), n179, n180, rfl, rfl, h172, h183, h184, _, rfl, by first | (obtain ⟨_, hl1, hl2⟩ := hk211.elim id (fun q => absurd q.1 (by omega)); exact Or.inl ⟨rfl, zo_F5 hst hg2.1 hset hAT hkG hl1, hl2⟩) | exact Or.inr ⟨rfl, zo_F4 hg2.1 hset hAT hkG (hk211.elim (fun q => absurd q.1 (by omega)) (fun q => q.2))⟩ | exact Or.inr ⟨rfl, zo_F3 hg2.1 hset hAT (hk204.elim (fun q => absurd q.1 (by omega)) (fun q => q.2))⟩⟩) (by omega) (by omega)
                              · skip
                                refine z_iconst C dX11_follows_217 ?_
                                refine z_goto (t := 222) C dX11_follows_218 (by decide) ?_
                                rw [hQ]
                                exact z_zret C hrt (by omega) dX11_follows_222 (⟨(va_up (va_up fa_at (x152 : Int).toNat x153) (x170 : Int).toNat x171), n179, n180, rfl, rfl, h172, h183, h184, _, rfl, by first | (obtain ⟨_, hl1, hl2⟩ := hk211.elim id (fun q => absurd q.1 (by omega)); exact Or.inl ⟨rfl, zo_F5 hst hg2.1 hset hAT hkG hl1, hl2⟩) | exact Or.inr ⟨rfl, zo_F4 hg2.1 hset hAT hkG (hk211.elim (fun q => absurd q.1 (by omega)) (fun q => q.2))⟩ | exact Or.inr ⟨rfl, zo_F3 hg2.1 hset hAT (hk204.elim (fun q => absurd q.1 (by omega)) (fun q => q.2))⟩⟩) (by omega) (by omega)
                      · skip
                        refine z_iconst C dX11_follows_136 ?_
                        rw [hQ]
                        exact z_zret C hrt (by omega) dX11_follows_137 (⟨fa_at, n98, a_ahead, rfl, rfl, Hfa_at, h101, Ha_ahead, _, rfl, by first | exact Or.inr ⟨rfl, zo_F2 hgA (by omega) (hg130.elim (fun q => absurd q.1 (by omega)) (fun q => q.2))⟩ | exact Or.inr ⟨rfl, zo_F1 (hg117.elim (fun q => absurd q.1 (by omega)) (fun q => q.2))⟩⟩) (by omega) (by omega)
                · skip
                  refine z_aloadn C 0 dX11_follows_90 rfl rfl ?_
                  refine z_get C 0 (by decide) rfl rfl z_it11 19 (by decide) rfl fl_11_59 rfl dX11_follows_91 ?_
                  refine z_iload C 4 dX11_follows_94 rfl ?_
                  refine z_aloadn C 0 dX11_follows_96 rfl rfl ?_
                  refine z_get C 0 (by decide) rfl rfl z_it11 14 (by decide) rfl fl_11_44 rfl dX11_follows_97 ?_
                  refine z_bipush C dX11_follows_100 (by decide) ?_
                  refine z_iloadn C 1 dX11_follows_102 rfl rfl ?_
                  refine z_imul C dX11_follows_103 ?_
                  refine z_iload C 4 dX11_follows_104 rfl ?_
                  refine z_iadd C dX11_follows_106 ?_
                  refine z_iald C 11 (by decide) rfl (by decide) (by omega) (by omega) dX11_follows_107 ?_
                  have rx187 := Ha_zones (((16 * i0) + i4) : Int).toNat
                  generalize ex187 : a_zones (((16 * i0) + i4) : Int).toNat = x187 at rx187 ⊢
                  refine z_iast C 16 (by decide) rfl (by decide) (by omega) (by omega) dX11_follows_108 ?_
                  refine z_ext (S' := (z_zm ad ks s_edges s_isNeeded s_explored s_states s_isMoved s_runs s_runTime s_runMoves w_h a_machine a_from a_to a_channel a_resets a_guards a_guardOf a_limits a_limitOf a_places a_zones a_parent a_moveE a_moveF a_moves (va_up fa_z (i4 : Int).toNat x187) a_ahead fa_at a_amounts a_way a_moments a_runAt a_runClock)) upM_a_z ?_
                  have h188 : ∀ j, z_rg ((va_up fa_z (i4 : Int).toNat x187) j) := z_upP (P := fun j v => z_rg (v)) Hfa_z (by omega)
                  refine z_iinc (L' := [(4, z_v (i4 + 1)), (0, .ref (ad 0)), (1, z_v i0), (2, z_v e0), (3, z_v f0)]) C 4 dX11_follows_109 rfl (by decide) rfl ?_
                  refine z_goto (t := 83) C dX11_follows_112 (by decide) ?_
                  refine z_loc (L' := [(0, .ref (ad 0)), (1, z_v i0), (2, z_v e0), (3, z_v f0), (4, z_v (i4 + 1))]) [1, 2, 3, 4, 0] rfl ?_
                  exact ih83 (i4 + 1) (va_up fa_z (i4 : Int).toNat x187) h188 (by subst_vars; exact zo_cp16 FZ (by omega) (by omega)) (by omega) (by omega)
            refine z_loc (L' := [(0, .ref (ad 0)), (1, z_v i0), (2, z_v e0), (3, z_v f0), (4, z_v 0)]) [1, 2, 3, 4, 0] rfl ?_
            exact (L83 (((16 : Int) - 0).toNat + 1)) 0 a_z Ha_z (fun j hj => absurd hj (by omega)) (by omega) (Nat.lt_succ_self _)
          · skip
            refine z_aloadn C 0 dX11_follows_58 rfl rfl ?_
            refine z_get C 0 (by decide) rfl rfl z_it11 21 (by decide) rfl fl_11_65 rfl dX11_follows_59 ?_
            refine z_aloadn C 0 dX11_follows_62 rfl rfl ?_
            refine z_get C 0 (by decide) rfl rfl z_it11 1 (by decide) rfl fl_11_7 rfl dX11_follows_63 ?_
            refine z_iloadn C 3 dX11_follows_66 rfl rfl ?_
            refine z_iald C 1 (by decide) rfl (by decide) (by omega) (by omega) dX11_follows_67 ?_
            have rx189 := Ha_machine (f0 : Int).toNat
            generalize ex189 : a_machine (f0 : Int).toNat = x189 at rx189 ⊢
            refine z_iald C 18 (by decide) rfl (by decide) (by omega) (by omega) dX11_follows_68 ?_
            have rx190 := Hfa_at (x189 : Int).toNat
            generalize ex190 : fa_at (x189 : Int).toNat = x190 at rx190 ⊢
            refine z_aloadn C 0 dX11_follows_69 rfl rfl ?_
            refine z_get C 0 (by decide) rfl rfl z_it11 2 (by decide) rfl fl_11_13 rfl dX11_follows_70 ?_
            refine z_iloadn C 3 dX11_follows_73 rfl rfl ?_
            refine z_iald C 2 (by decide) rfl (by decide) (by omega) (by omega) dX11_follows_74 ?_
            have rx191 := Ha_from (f0 : Int).toNat
            generalize ex191 : a_from (f0 : Int).toNat = x191 at rx191 ⊢
            refine z_icmp_eq (t := 80) C dX11_follows_75 (by decide) (by omega) (by omega) (fun c192 => ?_) (fun c192 => ?_)
            · skip
              have hst : zo_st2 a_machine a_from (zo_n3 (fun m => a_places (3 * i0.toNat + m))) e0 f0 := by
                refine ⟨by rw [← hA _ (by have := Ha_machine e0.toNat; omega)]; subst_vars; omega, ?_⟩
                first | exact Or.inl (by omega) | exact Or.inr ⟨by omega, by rw [← hA _ (by have := Ha_machine f0.toNat; omega)]; subst_vars; omega⟩
              refine z_iconst C dX11_follows_80 ?_
              refine z_istore (L' := [(4, z_v 0), (0, .ref (ad 0)), (1, z_v i0), (2, z_v e0), (3, z_v f0)]) C dX11_follows_81 (by decide) rfl ?_
              have L83 : ∀ (n : Nat), ∀ (i4 : Int) (fa_z : Nat → Int), ((∀ j, z_rg (fa_z j))) → (∀ k : Nat, (k : Int) < i4 → fa_z k = a_zones (16 * i0.toNat + k)) → (0 ≤ i4 ∧ i4 ≤ 16) → ((16 : Int) - i4).toNat < n → z_V p l e R s m args below meth c Q D A 24 ad 5 (z_zm ad ks s_edges s_isNeeded s_explored s_states s_isMoved s_runs s_runTime s_runMoves w_h a_machine a_from a_to a_channel a_resets a_guards a_guardOf a_limits a_limitOf a_places a_zones a_parent a_moveE a_moveF a_moves fa_z a_ahead fa_at a_amounts a_way a_moments a_runAt a_runClock) Y 0 0 83 [(0, .ref (ad 0)), (1, z_v i0), (2, z_v e0), (3, z_v f0), (4, z_v i4)] [] := by
                intro n
                induction n with
                | zero => intro i4 fa_z Hfa_z FZ I4 hm; exact absurd hm (Nat.not_lt_zero _)
                | succ n ih83 =>
                  intro i4 fa_z Hfa_z FZ I4 hm
                  refine z_iload C 4 dX11_follows_83 rfl ?_
                  refine z_bipush C dX11_follows_85 (by decide) ?_
                  refine z_icmp_ge (t := 115) C dX11_follows_87 (by decide) (by omega) (by omega) (fun c193 => ?_) (fun c193 => ?_)
                  · skip
                    have hz : ∀ k, k < 16 → fa_z k = (zo_n16 (fun k => a_zones (16 * i0.toNat + k))) k := fun k hk => (FZ k (by omega)).trans (zo_n16_at (f := fun k => a_zones (16 * i0.toNat + k)) hk).symm
                    have hZ2 : zo_Z 16016 18018 32015 fa_z := (hZ.mono (Int.le_refl _) (by omega) (Int.le_refl _)).congr (fun k hk => (FZ k (by omega)).symm)
                    refine z_aloadn C 0 dX11_follows_115 rfl rfl ?_
                    refine z_iloadn C 2 dX11_follows_116 rfl rfl ?_
                    refine z_callV C (cx_X11_keepGuards l e0 Ha_guards Ha_guardOf Hfa_z (by omega) (hgr e0 (by omega) (by omega)) hZ2 (by omega) (by omega)) mv_11_139 (z_atS 0 11 (by decide) rfl rfl rfl) pd_X11_keepGuards ⟨by omega, by omega⟩ ⟨by omega, by omega⟩ rfl (Nat.le_of_ble_eq_true rfl) dX11_follows_117 ?_
                    rintro _ _ _ ⟨n194, rfl, rfl, h197, z198, rfl, hz198⟩
                    have hg117 := zo_toG hz hz198
                    refine z_if_eq (t := 136) C dX11_follows_120 (by decide) (by omega) (fun c199 => ?_) (fun c199 => ?_)
                    · skip
                      refine z_iconst C dX11_follows_136 ?_
                      rw [hQ]
                      exact z_zret C hrt (by omega) dX11_follows_137 (⟨fa_at, n194, a_ahead, rfl, rfl, Hfa_at, h197, Ha_ahead, _, rfl, by first | exact Or.inr ⟨rfl, zo_F2 hgA (by omega) (hg130.elim (fun q => absurd q.1 (by omega)) (fun q => q.2))⟩ | exact Or.inr ⟨rfl, zo_F1 (hg117.elim (fun q => absurd q.1 (by omega)) (fun q => q.2))⟩⟩) (by omega) (by omega)
                    · skip
                      refine z_iloadn C 3 dX11_follows_123 rfl rfl ?_
                      refine z_iconst C dX11_follows_124 ?_
                      refine z_icmp_eq (t := 138) C dX11_follows_125 (by decide) (by omega) (by omega) (fun c200 => ?_) (fun c200 => ?_)
                      · skip
                        have hg2 : zo_g2 a_guards a_guardOf e0 f0 (zo_n16 (fun k => a_zones (16 * i0.toNat + k))) n194 ∧ zo_Z 16016 18018 40027 n194 := by
                          first | (obtain ⟨_, hgB, hZB⟩ := hg130.elim id (fun q => absurd q.1 (by omega)); exact ⟨⟨_, hgA, Or.inr ⟨by omega, hgB⟩⟩, hZB.mono (Int.le_refl _) (Int.le_refl _) (by omega)⟩) | (obtain ⟨_, hgB, hZB⟩ := hg117.elim id (fun q => absurd q.1 (by omega)); exact ⟨⟨_, hgB, Or.inl ⟨by omega, fun _ _ => rfl⟩⟩, hZB.mono (Int.le_refl _) (Int.le_refl _) (by omega)⟩)
                        refine z_aloadn C 0 dX11_follows_138 rfl rfl ?_
                        refine z_aloadn C 0 dX11_follows_139 rfl rfl ?_
                        refine z_get C 0 (by decide) rfl rfl z_it11 5 (by decide) rfl fl_11_22 rfl dX11_follows_140 ?_
                        refine z_iloadn C 2 dX11_follows_143 rfl rfl ?_
                        refine z_iald C 5 (by decide) rfl (by decide) (by omega) (by omega) dX11_follows_144 ?_
                        have rx201 := Ha_resets (e0 : Int).toNat
                        generalize ex201 : a_resets (e0 : Int).toNat = x201 at rx201 ⊢
                        refine z_iloadn C 3 dX11_follows_145 rfl rfl ?_
                        refine z_iconst C dX11_follows_146 ?_
                        refine z_icmp_ne (t := 154) C dX11_follows_147 (by decide) (by omega) (by omega) (fun c202 => ?_) (fun c202 => ?_)
                        · skip
                          refine z_aloadn C 0 dX11_follows_154 rfl rfl ?_
                          refine z_get C 0 (by decide) rfl rfl z_it11 5 (by decide) rfl fl_11_22 rfl dX11_follows_155 ?_
                          refine z_iloadn C 3 dX11_follows_158 rfl rfl ?_
                          refine z_iald C 5 (by decide) rfl (by decide) (by omega) (by omega) dX11_follows_159 ?_
                          have rx203 := Ha_resets (f0 : Int).toNat
                          generalize ex203 : a_resets (f0 : Int).toNat = x203 at rx203 ⊢
                          obtain ⟨b204, hb204, rb204⟩ := z_bits (z_i x201 ||| z_i x203)
                          refine z_ior C hb204 dX11_follows_160 ?_
                          have qb204 := z_bitsE hb204 rb204
                          have hor : b204 = z_or a_resets e0 f0 := by
                            rw [← qb204]; unfold z_or
                            first | (rw [if_pos (show f0 = -1 by omega), ← zo_or0 (Ha_resets e0.toNat)]; subst_vars; rfl) | (rw [if_neg (show ¬ f0 = -1 by omega)]; subst_vars; rfl)
                          refine z_callV C (cx_X11_set l b204 h197 (by omega) (hg2.2.1.1 0 (by omega))) mv_11_142 (z_atS 0 11 (by decide) rfl rfl rfl) pd_X11_set ⟨by omega, by omega⟩ ⟨by omega, by omega⟩ rfl (Nat.le_of_ble_eq_true rfl) dX11_follows_161 ?_
                          rintro _ _ _ ⟨n205, rfl, rfl, h208, q161_0, rfl⟩
                          have hset := q161_0
                          rw [hor] at hset
                          refine z_aloadn C 0 dX11_follows_164 rfl rfl ?_
                          refine z_get C 0 (by decide) rfl rfl z_it11 21 (by decide) rfl fl_11_65 rfl dX11_follows_165 ?_
                          refine z_aloadn C 0 dX11_follows_168 rfl rfl ?_
                          refine z_get C 0 (by decide) rfl rfl z_it11 1 (by decide) rfl fl_11_7 rfl dX11_follows_169 ?_
                          refine z_iloadn C 2 dX11_follows_172 rfl rfl ?_
                          refine z_iald C 1 (by decide) rfl (by decide) (by omega) (by omega) dX11_follows_173 ?_
                          have rx209 := Ha_machine (e0 : Int).toNat
                          generalize ex209 : a_machine (e0 : Int).toNat = x209 at rx209 ⊢
                          refine z_aloadn C 0 dX11_follows_174 rfl rfl ?_
                          refine z_get C 0 (by decide) rfl rfl z_it11 3 (by decide) rfl fl_11_16 rfl dX11_follows_175 ?_
                          refine z_iloadn C 2 dX11_follows_178 rfl rfl ?_
                          refine z_iald C 3 (by decide) rfl (by decide) (by omega) (by omega) dX11_follows_179 ?_
                          have rx210 := Ha_to (e0 : Int).toNat
                          generalize ex210 : a_to (e0 : Int).toNat = x210 at rx210 ⊢
                          refine z_iast C 18 (by decide) rfl (by decide) (by omega) (by omega) dX11_follows_180 ?_
                          refine z_ext (S' := (z_zm ad ks s_edges s_isNeeded s_explored s_states s_isMoved s_runs s_runTime s_runMoves w_h a_machine a_from a_to a_channel a_resets a_guards a_guardOf a_limits a_limitOf a_places a_zones a_parent a_moveE a_moveF a_moves n205 a_ahead (va_up fa_at (x209 : Int).toNat x210) a_amounts a_way a_moments a_runAt a_runClock)) upM_a_at ?_
                          have h211 : ∀ j, 0 ≤ (va_up fa_at (x209 : Int).toNat x210) j ∧ (va_up fa_at (x209 : Int).toNat x210) j ≤ 5 := z_upP (P := fun j v => 0 ≤ v ∧ v ≤ 5) Hfa_at (by omega)
                          refine z_iloadn C 3 dX11_follows_181 rfl rfl ?_
                          refine z_iconst C dX11_follows_182 ?_
                          refine z_icmp_eq (t := 203) C dX11_follows_183 (by decide) (by omega) (by omega) (fun c212 => ?_) (fun c212 => ?_)
                          · skip
                            refine z_aloadn C 0 dX11_follows_203 rfl rfl ?_
                            have hAT : ∀ m, m < 3 → (va_up fa_at (x209 : Int).toNat x210) m = z_goA (zo_n3 (fun m => a_places (3 * i0.toNat + m))) a_machine a_to e0 f0 m := by
                              first | (rw [z_goA1 (show f0 = -1 by omega)]; subst_vars; exact z_up_pt hA) | (rw [z_goA2 (show f0 ≠ -1 by omega)]; subst_vars; exact z_up_pt (z_up_pt hA))
                            have hZ5 : zo_Z 18018 20020 40027 n205 := ((zo_set_Z (r := z_or a_resets e0 f0) (hg2.2.flat (by omega))).mono (Int.le_refl _) (by omega) (Int.le_refl _)).congr (fun k hk => (hset k hk).symm)
                            refine z_callV C (cx_X11_keepLimits l h211 Ha_limits Ha_limitOf h208 hlr hZ5 (by omega) (by omega)) mv_11_133 (z_atS 0 11 (by decide) rfl rfl rfl) pd_X11_keepLimits ⟨by omega, by omega⟩ ⟨by omega, by omega⟩ rfl (Nat.le_of_ble_eq_true rfl) dX11_follows_204 ?_
                            rintro _ _ _ ⟨n213, rfl, rfl, h216, z217, rfl, hz217⟩
                            have hk204 := hz217
                            refine z_if_eq (t := 221) C dX11_follows_207 (by decide) (by omega) (fun c218 => ?_) (fun c218 => ?_)
                            · skip
                              refine z_iconst C dX11_follows_221 ?_
                              rw [hQ]
                              exact z_zret C hrt (by omega) dX11_follows_222 (⟨(va_up fa_at (x209 : Int).toNat x210), n213, a_ahead, rfl, rfl, h211, h216, Ha_ahead, _, rfl, by first | (obtain ⟨_, hl1, hl2⟩ := hk211.elim id (fun q => absurd q.1 (by omega)); exact Or.inl ⟨rfl, zo_F5 hst hg2.1 hset hAT hkG hl1, hl2⟩) | exact Or.inr ⟨rfl, zo_F4 hg2.1 hset hAT hkG (hk211.elim (fun q => absurd q.1 (by omega)) (fun q => q.2))⟩ | exact Or.inr ⟨rfl, zo_F3 hg2.1 hset hAT (hk204.elim (fun q => absurd q.1 (by omega)) (fun q => q.2))⟩⟩) (by omega) (by omega)
                            · skip
                              refine z_aloadn C 0 dX11_follows_210 rfl rfl ?_
                              obtain ⟨_, hkG, hkZ⟩ := zo_kl hk204 (by omega)
                              refine z_callV C (cx_X11_later l (by omega) Ha_guards Ha_guardOf Ha_limits Ha_limitOf h216 Ha_ahead h211 hmo hmr hlr hkZ (by omega) (by omega)) mv_11_146 (z_atS 0 11 (by decide) rfl rfl rfl) pd_X11_later ⟨by omega, by omega⟩ ⟨by omega, by omega⟩ rfl (Nat.le_of_ble_eq_true rfl) dX11_follows_211 ?_
                              rintro _ _ _ ⟨n219, n220, rfl, rfl, h223, h224, z225, rfl, hz225⟩
                              have hk211 := hz225
                              refine z_if_eq (t := 221) C dX11_follows_214 (by decide) (by omega) (fun c226 => ?_) (fun c226 => ?_)
                              · skip
                                refine z_iconst C dX11_follows_221 ?_
                                rw [hQ]
                                exact z_zret C hrt (by omega) dX11_follows_222 (⟨(va_up fa_at (x209 : Int).toNat x210), n219, n220, rfl, rfl, h211, h223, h224, _, rfl, by first | (obtain ⟨_, hl1, hl2⟩ := hk211.elim id (fun q => absurd q.1 (by omega)); exact Or.inl ⟨rfl, zo_F5 hst hg2.1 hset hAT hkG hl1, hl2⟩) | exact Or.inr ⟨rfl, zo_F4 hg2.1 hset hAT hkG (hk211.elim (fun q => absurd q.1 (by omega)) (fun q => q.2))⟩ | exact Or.inr ⟨rfl, zo_F3 hg2.1 hset hAT (hk204.elim (fun q => absurd q.1 (by omega)) (fun q => q.2))⟩⟩) (by omega) (by omega)
                              · skip
                                refine z_iconst C dX11_follows_217 ?_
                                refine z_goto (t := 222) C dX11_follows_218 (by decide) ?_
                                rw [hQ]
                                exact z_zret C hrt (by omega) dX11_follows_222 (⟨(va_up fa_at (x209 : Int).toNat x210), n219, n220, rfl, rfl, h211, h223, h224, _, rfl, by first | (obtain ⟨_, hl1, hl2⟩ := hk211.elim id (fun q => absurd q.1 (by omega)); exact Or.inl ⟨rfl, zo_F5 hst hg2.1 hset hAT hkG hl1, hl2⟩) | exact Or.inr ⟨rfl, zo_F4 hg2.1 hset hAT hkG (hk211.elim (fun q => absurd q.1 (by omega)) (fun q => q.2))⟩ | exact Or.inr ⟨rfl, zo_F3 hg2.1 hset hAT (hk204.elim (fun q => absurd q.1 (by omega)) (fun q => q.2))⟩⟩) (by omega) (by omega)
                          · skip
                            refine z_aloadn C 0 dX11_follows_186 rfl rfl ?_
                            refine z_get C 0 (by decide) rfl rfl z_it11 21 (by decide) rfl fl_11_65 rfl dX11_follows_187 ?_
                            refine z_aloadn C 0 dX11_follows_190 rfl rfl ?_
                            refine z_get C 0 (by decide) rfl rfl z_it11 1 (by decide) rfl fl_11_7 rfl dX11_follows_191 ?_
                            refine z_iloadn C 3 dX11_follows_194 rfl rfl ?_
                            refine z_iald C 1 (by decide) rfl (by decide) (by omega) (by omega) dX11_follows_195 ?_
                            have rx227 := Ha_machine (f0 : Int).toNat
                            generalize ex227 : a_machine (f0 : Int).toNat = x227 at rx227 ⊢
                            refine z_aloadn C 0 dX11_follows_196 rfl rfl ?_
                            refine z_get C 0 (by decide) rfl rfl z_it11 3 (by decide) rfl fl_11_16 rfl dX11_follows_197 ?_
                            refine z_iloadn C 3 dX11_follows_200 rfl rfl ?_
                            refine z_iald C 3 (by decide) rfl (by decide) (by omega) (by omega) dX11_follows_201 ?_
                            have rx228 := Ha_to (f0 : Int).toNat
                            generalize ex228 : a_to (f0 : Int).toNat = x228 at rx228 ⊢
                            refine z_iast C 18 (by decide) rfl (by decide) (by omega) (by omega) dX11_follows_202 ?_
                            refine z_ext (S' := (z_zm ad ks s_edges s_isNeeded s_explored s_states s_isMoved s_runs s_runTime s_runMoves w_h a_machine a_from a_to a_channel a_resets a_guards a_guardOf a_limits a_limitOf a_places a_zones a_parent a_moveE a_moveF a_moves n205 a_ahead (va_up (va_up fa_at (x209 : Int).toNat x210) (x227 : Int).toNat x228) a_amounts a_way a_moments a_runAt a_runClock)) upM_a_at ?_
                            have h229 : ∀ j, 0 ≤ (va_up (va_up fa_at (x209 : Int).toNat x210) (x227 : Int).toNat x228) j ∧ (va_up (va_up fa_at (x209 : Int).toNat x210) (x227 : Int).toNat x228) j ≤ 5 := z_upP (P := fun j v => 0 ≤ v ∧ v ≤ 5) h211 (by omega)
                            refine z_aloadn C 0 dX11_follows_203 rfl rfl ?_
                            have hAT : ∀ m, m < 3 → (va_up (va_up fa_at (x209 : Int).toNat x210) (x227 : Int).toNat x228) m = z_goA (zo_n3 (fun m => a_places (3 * i0.toNat + m))) a_machine a_to e0 f0 m := by
                              first | (rw [z_goA1 (show f0 = -1 by omega)]; subst_vars; exact z_up_pt hA) | (rw [z_goA2 (show f0 ≠ -1 by omega)]; subst_vars; exact z_up_pt (z_up_pt hA))
                            have hZ5 : zo_Z 18018 20020 40027 n205 := ((zo_set_Z (r := z_or a_resets e0 f0) (hg2.2.flat (by omega))).mono (Int.le_refl _) (by omega) (Int.le_refl _)).congr (fun k hk => (hset k hk).symm)
                            refine z_callV C (cx_X11_keepLimits l h229 Ha_limits Ha_limitOf h208 hlr hZ5 (by omega) (by omega)) mv_11_133 (z_atS 0 11 (by decide) rfl rfl rfl) pd_X11_keepLimits ⟨by omega, by omega⟩ ⟨by omega, by omega⟩ rfl (Nat.le_of_ble_eq_true rfl) dX11_follows_204 ?_
                            rintro _ _ _ ⟨n230, rfl, rfl, h233, z234, rfl, hz234⟩
                            have hk204 := hz234
                            refine z_if_eq (t := 221) C dX11_follows_207 (by decide) (by omega) (fun c235 => ?_) (fun c235 => ?_)
                            · skip
                              refine z_iconst C dX11_follows_221 ?_
                              rw [hQ]
                              exact z_zret C hrt (by omega) dX11_follows_222 (⟨(va_up (va_up fa_at (x209 : Int).toNat x210) (x227 : Int).toNat x228), n230, a_ahead, rfl, rfl, h229, h233, Ha_ahead, _, rfl, by first | (obtain ⟨_, hl1, hl2⟩ := hk211.elim id (fun q => absurd q.1 (by omega)); exact Or.inl ⟨rfl, zo_F5 hst hg2.1 hset hAT hkG hl1, hl2⟩) | exact Or.inr ⟨rfl, zo_F4 hg2.1 hset hAT hkG (hk211.elim (fun q => absurd q.1 (by omega)) (fun q => q.2))⟩ | exact Or.inr ⟨rfl, zo_F3 hg2.1 hset hAT (hk204.elim (fun q => absurd q.1 (by omega)) (fun q => q.2))⟩⟩) (by omega) (by omega)
                            · skip
                              refine z_aloadn C 0 dX11_follows_210 rfl rfl ?_
                              obtain ⟨_, hkG, hkZ⟩ := zo_kl hk204 (by omega)
                              refine z_callV C (cx_X11_later l (by omega) Ha_guards Ha_guardOf Ha_limits Ha_limitOf h233 Ha_ahead h229 hmo hmr hlr hkZ (by omega) (by omega)) mv_11_146 (z_atS 0 11 (by decide) rfl rfl rfl) pd_X11_later ⟨by omega, by omega⟩ ⟨by omega, by omega⟩ rfl (Nat.le_of_ble_eq_true rfl) dX11_follows_211 ?_
                              rintro _ _ _ ⟨n236, n237, rfl, rfl, h240, h241, z242, rfl, hz242⟩
                              have hk211 := hz242
                              refine z_if_eq (t := 221) C dX11_follows_214 (by decide) (by omega) (fun c243 => ?_) (fun c243 => ?_)
                              · skip
                                refine z_iconst C dX11_follows_221 ?_
                                rw [hQ]
                                exact z_zret C hrt (by omega) dX11_follows_222 (⟨(va_up (va_up fa_at (x209 : Int).toNat x210) (x227 : Int).toNat x228), n236, n237, rfl, rfl, h229, h240, h241, _, rfl, by first | (obtain ⟨_, hl1, hl2⟩ := hk211.elim id (fun q => absurd q.1 (by omega)); exact Or.inl ⟨rfl, zo_F5 hst hg2.1 hset hAT hkG hl1, hl2⟩) | exact Or.inr ⟨rfl, zo_F4 hg2.1 hset hAT hkG (hk211.elim (fun q => absurd q.1 (by omega)) (fun q => q.2))⟩ | exact Or.inr ⟨rfl, zo_F3 hg2.1 hset hAT (hk204.elim (fun q => absurd q.1 (by omega)) (fun q => q.2))⟩⟩) (by omega) (by omega)
                              · skip
                                refine z_iconst C dX11_follows_217 ?_
                                refine z_goto (t := 222) C dX11_follows_218 (by decide) ?_
                                rw [hQ]
                                exact z_zret C hrt (by omega) dX11_follows_222 (⟨(va_up (va_up fa_at (x209 : Int).toNat x210) (x227 : Int).toNat x228), n236, n237, rfl, rfl, h229, h240, h241, _, rfl, by first | (obtain ⟨_, hl1, hl2⟩ := hk211.elim id (fun q => absurd q.1 (by omega)); exact Or.inl ⟨rfl, zo_F5 hst hg2.1 hset hAT hkG hl1, hl2⟩) | exact Or.inr ⟨rfl, zo_F4 hg2.1 hset hAT hkG (hk211.elim (fun q => absurd q.1 (by omega)) (fun q => q.2))⟩ | exact Or.inr ⟨rfl, zo_F3 hg2.1 hset hAT (hk204.elim (fun q => absurd q.1 (by omega)) (fun q => q.2))⟩⟩) (by omega) (by omega)
                        · skip
                          refine z_iconst C dX11_follows_150 ?_
                          refine z_goto (t := 160) C dX11_follows_151 (by decide) ?_
                          obtain ⟨b244, hb244, rb244⟩ := z_bits (z_i x201 ||| z_i 0)
                          refine z_ior C hb244 dX11_follows_160 ?_
                          have qb244 := z_bitsE hb244 rb244
                          have hor : b244 = z_or a_resets e0 f0 := by
                            rw [← qb244]; unfold z_or
                            first | (rw [if_pos (show f0 = -1 by omega), ← zo_or0 (Ha_resets e0.toNat)]; subst_vars; rfl) | (rw [if_neg (show ¬ f0 = -1 by omega)]; subst_vars; rfl)
                          refine z_callV C (cx_X11_set l b244 h197 (by omega) (hg2.2.1.1 0 (by omega))) mv_11_142 (z_atS 0 11 (by decide) rfl rfl rfl) pd_X11_set ⟨by omega, by omega⟩ ⟨by omega, by omega⟩ rfl (Nat.le_of_ble_eq_true rfl) dX11_follows_161 ?_
                          rintro _ _ _ ⟨n245, rfl, rfl, h248, q161_0, rfl⟩
                          have hset := q161_0
                          rw [hor] at hset
                          refine z_aloadn C 0 dX11_follows_164 rfl rfl ?_
                          refine z_get C 0 (by decide) rfl rfl z_it11 21 (by decide) rfl fl_11_65 rfl dX11_follows_165 ?_
                          refine z_aloadn C 0 dX11_follows_168 rfl rfl ?_
                          refine z_get C 0 (by decide) rfl rfl z_it11 1 (by decide) rfl fl_11_7 rfl dX11_follows_169 ?_
                          refine z_iloadn C 2 dX11_follows_172 rfl rfl ?_
                          refine z_iald C 1 (by decide) rfl (by decide) (by omega) (by omega) dX11_follows_173 ?_
                          have rx249 := Ha_machine (e0 : Int).toNat
                          generalize ex249 : a_machine (e0 : Int).toNat = x249 at rx249 ⊢
                          refine z_aloadn C 0 dX11_follows_174 rfl rfl ?_
                          refine z_get C 0 (by decide) rfl rfl z_it11 3 (by decide) rfl fl_11_16 rfl dX11_follows_175 ?_
                          refine z_iloadn C 2 dX11_follows_178 rfl rfl ?_
                          refine z_iald C 3 (by decide) rfl (by decide) (by omega) (by omega) dX11_follows_179 ?_
                          have rx250 := Ha_to (e0 : Int).toNat
                          generalize ex250 : a_to (e0 : Int).toNat = x250 at rx250 ⊢
                          refine z_iast C 18 (by decide) rfl (by decide) (by omega) (by omega) dX11_follows_180 ?_
                          refine z_ext (S' := (z_zm ad ks s_edges s_isNeeded s_explored s_states s_isMoved s_runs s_runTime s_runMoves w_h a_machine a_from a_to a_channel a_resets a_guards a_guardOf a_limits a_limitOf a_places a_zones a_parent a_moveE a_moveF a_moves n245 a_ahead (va_up fa_at (x249 : Int).toNat x250) a_amounts a_way a_moments a_runAt a_runClock)) upM_a_at ?_
                          have h251 : ∀ j, 0 ≤ (va_up fa_at (x249 : Int).toNat x250) j ∧ (va_up fa_at (x249 : Int).toNat x250) j ≤ 5 := z_upP (P := fun j v => 0 ≤ v ∧ v ≤ 5) Hfa_at (by omega)
                          refine z_iloadn C 3 dX11_follows_181 rfl rfl ?_
                          refine z_iconst C dX11_follows_182 ?_
                          refine z_icmp_eq (t := 203) C dX11_follows_183 (by decide) (by omega) (by omega) (fun c252 => ?_) (fun c252 => ?_)
                          · skip
                            refine z_aloadn C 0 dX11_follows_203 rfl rfl ?_
                            have hAT : ∀ m, m < 3 → (va_up fa_at (x249 : Int).toNat x250) m = z_goA (zo_n3 (fun m => a_places (3 * i0.toNat + m))) a_machine a_to e0 f0 m := by
                              first | (rw [z_goA1 (show f0 = -1 by omega)]; subst_vars; exact z_up_pt hA) | (rw [z_goA2 (show f0 ≠ -1 by omega)]; subst_vars; exact z_up_pt (z_up_pt hA))
                            have hZ5 : zo_Z 18018 20020 40027 n245 := ((zo_set_Z (r := z_or a_resets e0 f0) (hg2.2.flat (by omega))).mono (Int.le_refl _) (by omega) (Int.le_refl _)).congr (fun k hk => (hset k hk).symm)
                            refine z_callV C (cx_X11_keepLimits l h251 Ha_limits Ha_limitOf h248 hlr hZ5 (by omega) (by omega)) mv_11_133 (z_atS 0 11 (by decide) rfl rfl rfl) pd_X11_keepLimits ⟨by omega, by omega⟩ ⟨by omega, by omega⟩ rfl (Nat.le_of_ble_eq_true rfl) dX11_follows_204 ?_
                            rintro _ _ _ ⟨n253, rfl, rfl, h256, z257, rfl, hz257⟩
                            have hk204 := hz257
                            refine z_if_eq (t := 221) C dX11_follows_207 (by decide) (by omega) (fun c258 => ?_) (fun c258 => ?_)
                            · skip
                              refine z_iconst C dX11_follows_221 ?_
                              rw [hQ]
                              exact z_zret C hrt (by omega) dX11_follows_222 (⟨(va_up fa_at (x249 : Int).toNat x250), n253, a_ahead, rfl, rfl, h251, h256, Ha_ahead, _, rfl, by first | (obtain ⟨_, hl1, hl2⟩ := hk211.elim id (fun q => absurd q.1 (by omega)); exact Or.inl ⟨rfl, zo_F5 hst hg2.1 hset hAT hkG hl1, hl2⟩) | exact Or.inr ⟨rfl, zo_F4 hg2.1 hset hAT hkG (hk211.elim (fun q => absurd q.1 (by omega)) (fun q => q.2))⟩ | exact Or.inr ⟨rfl, zo_F3 hg2.1 hset hAT (hk204.elim (fun q => absurd q.1 (by omega)) (fun q => q.2))⟩⟩) (by omega) (by omega)
                            · skip
                              refine z_aloadn C 0 dX11_follows_210 rfl rfl ?_
                              obtain ⟨_, hkG, hkZ⟩ := zo_kl hk204 (by omega)
                              refine z_callV C (cx_X11_later l (by omega) Ha_guards Ha_guardOf Ha_limits Ha_limitOf h256 Ha_ahead h251 hmo hmr hlr hkZ (by omega) (by omega)) mv_11_146 (z_atS 0 11 (by decide) rfl rfl rfl) pd_X11_later ⟨by omega, by omega⟩ ⟨by omega, by omega⟩ rfl (Nat.le_of_ble_eq_true rfl) dX11_follows_211 ?_
                              rintro _ _ _ ⟨n259, n260, rfl, rfl, h263, h264, z265, rfl, hz265⟩
                              have hk211 := hz265
                              refine z_if_eq (t := 221) C dX11_follows_214 (by decide) (by omega) (fun c266 => ?_) (fun c266 => ?_)
                              · skip
                                refine z_iconst C dX11_follows_221 ?_
                                rw [hQ]
                                exact z_zret C hrt (by omega) dX11_follows_222 (⟨(va_up fa_at (x249 : Int).toNat x250), n259, n260, rfl, rfl, h251, h263, h264, _, rfl, by first | (obtain ⟨_, hl1, hl2⟩ := hk211.elim id (fun q => absurd q.1 (by omega)); exact Or.inl ⟨rfl, zo_F5 hst hg2.1 hset hAT hkG hl1, hl2⟩) | exact Or.inr ⟨rfl, zo_F4 hg2.1 hset hAT hkG (hk211.elim (fun q => absurd q.1 (by omega)) (fun q => q.2))⟩ | exact Or.inr ⟨rfl, zo_F3 hg2.1 hset hAT (hk204.elim (fun q => absurd q.1 (by omega)) (fun q => q.2))⟩⟩) (by omega) (by omega)
                              · skip
                                refine z_iconst C dX11_follows_217 ?_
                                refine z_goto (t := 222) C dX11_follows_218 (by decide) ?_
                                rw [hQ]
                                exact z_zret C hrt (by omega) dX11_follows_222 (⟨(va_up fa_at (x249 : Int).toNat x250), n259, n260, rfl, rfl, h251, h263, h264, _, rfl, by first | (obtain ⟨_, hl1, hl2⟩ := hk211.elim id (fun q => absurd q.1 (by omega)); exact Or.inl ⟨rfl, zo_F5 hst hg2.1 hset hAT hkG hl1, hl2⟩) | exact Or.inr ⟨rfl, zo_F4 hg2.1 hset hAT hkG (hk211.elim (fun q => absurd q.1 (by omega)) (fun q => q.2))⟩ | exact Or.inr ⟨rfl, zo_F3 hg2.1 hset hAT (hk204.elim (fun q => absurd q.1 (by omega)) (fun q => q.2))⟩⟩) (by omega) (by omega)
                          · skip
                            refine z_aloadn C 0 dX11_follows_186 rfl rfl ?_
                            refine z_get C 0 (by decide) rfl rfl z_it11 21 (by decide) rfl fl_11_65 rfl dX11_follows_187 ?_
                            refine z_aloadn C 0 dX11_follows_190 rfl rfl ?_
                            refine z_get C 0 (by decide) rfl rfl z_it11 1 (by decide) rfl fl_11_7 rfl dX11_follows_191 ?_
                            refine z_iloadn C 3 dX11_follows_194 rfl rfl ?_
                            refine z_iald C 1 (by decide) rfl (by decide) (by omega) (by omega) dX11_follows_195 ?_
                            have rx267 := Ha_machine (f0 : Int).toNat
                            generalize ex267 : a_machine (f0 : Int).toNat = x267 at rx267 ⊢
                            refine z_aloadn C 0 dX11_follows_196 rfl rfl ?_
                            refine z_get C 0 (by decide) rfl rfl z_it11 3 (by decide) rfl fl_11_16 rfl dX11_follows_197 ?_
                            refine z_iloadn C 3 dX11_follows_200 rfl rfl ?_
                            refine z_iald C 3 (by decide) rfl (by decide) (by omega) (by omega) dX11_follows_201 ?_
                            have rx268 := Ha_to (f0 : Int).toNat
                            generalize ex268 : a_to (f0 : Int).toNat = x268 at rx268 ⊢
                            refine z_iast C 18 (by decide) rfl (by decide) (by omega) (by omega) dX11_follows_202 ?_
                            refine z_ext (S' := (z_zm ad ks s_edges s_isNeeded s_explored s_states s_isMoved s_runs s_runTime s_runMoves w_h a_machine a_from a_to a_channel a_resets a_guards a_guardOf a_limits a_limitOf a_places a_zones a_parent a_moveE a_moveF a_moves n245 a_ahead (va_up (va_up fa_at (x249 : Int).toNat x250) (x267 : Int).toNat x268) a_amounts a_way a_moments a_runAt a_runClock)) upM_a_at ?_
                            have h269 : ∀ j, 0 ≤ (va_up (va_up fa_at (x249 : Int).toNat x250) (x267 : Int).toNat x268) j ∧ (va_up (va_up fa_at (x249 : Int).toNat x250) (x267 : Int).toNat x268) j ≤ 5 := z_upP (P := fun j v => 0 ≤ v ∧ v ≤ 5) h251 (by omega)
                            refine z_aloadn C 0 dX11_follows_203 rfl rfl ?_
                            have hAT : ∀ m, m < 3 → (va_up (va_up fa_at (x249 : Int).toNat x250) (x267 : Int).toNat x268) m = z_goA (zo_n3 (fun m => a_places (3 * i0.toNat + m))) a_machine a_to e0 f0 m := by
                              first | (rw [z_goA1 (show f0 = -1 by omega)]; subst_vars; exact z_up_pt hA) | (rw [z_goA2 (show f0 ≠ -1 by omega)]; subst_vars; exact z_up_pt (z_up_pt hA))
                            have hZ5 : zo_Z 18018 20020 40027 n245 := ((zo_set_Z (r := z_or a_resets e0 f0) (hg2.2.flat (by omega))).mono (Int.le_refl _) (by omega) (Int.le_refl _)).congr (fun k hk => (hset k hk).symm)
                            refine z_callV C (cx_X11_keepLimits l h269 Ha_limits Ha_limitOf h248 hlr hZ5 (by omega) (by omega)) mv_11_133 (z_atS 0 11 (by decide) rfl rfl rfl) pd_X11_keepLimits ⟨by omega, by omega⟩ ⟨by omega, by omega⟩ rfl (Nat.le_of_ble_eq_true rfl) dX11_follows_204 ?_
                            rintro _ _ _ ⟨n270, rfl, rfl, h273, z274, rfl, hz274⟩
                            have hk204 := hz274
                            refine z_if_eq (t := 221) C dX11_follows_207 (by decide) (by omega) (fun c275 => ?_) (fun c275 => ?_)
                            · skip
                              refine z_iconst C dX11_follows_221 ?_
                              rw [hQ]
                              exact z_zret C hrt (by omega) dX11_follows_222 (⟨(va_up (va_up fa_at (x249 : Int).toNat x250) (x267 : Int).toNat x268), n270, a_ahead, rfl, rfl, h269, h273, Ha_ahead, _, rfl, by first | (obtain ⟨_, hl1, hl2⟩ := hk211.elim id (fun q => absurd q.1 (by omega)); exact Or.inl ⟨rfl, zo_F5 hst hg2.1 hset hAT hkG hl1, hl2⟩) | exact Or.inr ⟨rfl, zo_F4 hg2.1 hset hAT hkG (hk211.elim (fun q => absurd q.1 (by omega)) (fun q => q.2))⟩ | exact Or.inr ⟨rfl, zo_F3 hg2.1 hset hAT (hk204.elim (fun q => absurd q.1 (by omega)) (fun q => q.2))⟩⟩) (by omega) (by omega)
                            · skip
                              refine z_aloadn C 0 dX11_follows_210 rfl rfl ?_
                              obtain ⟨_, hkG, hkZ⟩ := zo_kl hk204 (by omega)
                              refine z_callV C (cx_X11_later l (by omega) Ha_guards Ha_guardOf Ha_limits Ha_limitOf h273 Ha_ahead h269 hmo hmr hlr hkZ (by omega) (by omega)) mv_11_146 (z_atS 0 11 (by decide) rfl rfl rfl) pd_X11_later ⟨by omega, by omega⟩ ⟨by omega, by omega⟩ rfl (Nat.le_of_ble_eq_true rfl) dX11_follows_211 ?_
                              rintro _ _ _ ⟨n276, n277, rfl, rfl, h280, h281, z282, rfl, hz282⟩
                              have hk211 := hz282
                              refine z_if_eq (t := 221) C dX11_follows_214 (by decide) (by omega) (fun c283 => ?_) (fun c283 => ?_)
                              · skip
                                refine z_iconst C dX11_follows_221 ?_
                                rw [hQ]
                                exact z_zret C hrt (by omega) dX11_follows_222 (⟨(va_up (va_up fa_at (x249 : Int).toNat x250) (x267 : Int).toNat x268), n276, n277, rfl, rfl, h269, h280, h281, _, rfl, by first | (obtain ⟨_, hl1, hl2⟩ := hk211.elim id (fun q => absurd q.1 (by omega)); exact Or.inl ⟨rfl, zo_F5 hst hg2.1 hset hAT hkG hl1, hl2⟩) | exact Or.inr ⟨rfl, zo_F4 hg2.1 hset hAT hkG (hk211.elim (fun q => absurd q.1 (by omega)) (fun q => q.2))⟩ | exact Or.inr ⟨rfl, zo_F3 hg2.1 hset hAT (hk204.elim (fun q => absurd q.1 (by omega)) (fun q => q.2))⟩⟩) (by omega) (by omega)
                              · skip
                                refine z_iconst C dX11_follows_217 ?_
                                refine z_goto (t := 222) C dX11_follows_218 (by decide) ?_
                                rw [hQ]
                                exact z_zret C hrt (by omega) dX11_follows_222 (⟨(va_up (va_up fa_at (x249 : Int).toNat x250) (x267 : Int).toNat x268), n276, n277, rfl, rfl, h269, h280, h281, _, rfl, by first | (obtain ⟨_, hl1, hl2⟩ := hk211.elim id (fun q => absurd q.1 (by omega)); exact Or.inl ⟨rfl, zo_F5 hst hg2.1 hset hAT hkG hl1, hl2⟩) | exact Or.inr ⟨rfl, zo_F4 hg2.1 hset hAT hkG (hk211.elim (fun q => absurd q.1 (by omega)) (fun q => q.2))⟩ | exact Or.inr ⟨rfl, zo_F3 hg2.1 hset hAT (hk204.elim (fun q => absurd q.1 (by omega)) (fun q => q.2))⟩⟩) (by omega) (by omega)
                      · skip
                        refine z_aloadn C 0 dX11_follows_128 rfl rfl ?_
                        refine z_iloadn C 3 dX11_follows_129 rfl rfl ?_
                        obtain ⟨_, hgA, hZA⟩ := hg117.elim id (fun q => absurd q.1 (by omega))
                        refine z_callV C (cx_X11_keepGuards l f0 Ha_guards Ha_guardOf h197 (by omega) (hgr f0 (by omega) (by omega)) hZA (by omega) (by omega)) mv_11_139 (z_atS 0 11 (by decide) rfl rfl rfl) pd_X11_keepGuards ⟨by omega, by omega⟩ ⟨by omega, by omega⟩ rfl (Nat.le_of_ble_eq_true rfl) dX11_follows_130 ?_
                        rintro _ _ _ ⟨n284, rfl, rfl, h287, z288, rfl, hz288⟩
                        have hg130 := zo_toG (fun _ _ => rfl) hz288
                        refine z_if_ne (t := 138) C dX11_follows_133 (by decide) (by omega) (fun c289 => ?_) (fun c289 => ?_)
                        · skip
                          have hg2 : zo_g2 a_guards a_guardOf e0 f0 (zo_n16 (fun k => a_zones (16 * i0.toNat + k))) n284 ∧ zo_Z 16016 18018 40027 n284 := by
                            first | (obtain ⟨_, hgB, hZB⟩ := hg130.elim id (fun q => absurd q.1 (by omega)); exact ⟨⟨_, hgA, Or.inr ⟨by omega, hgB⟩⟩, hZB.mono (Int.le_refl _) (Int.le_refl _) (by omega)⟩) | (obtain ⟨_, hgB, hZB⟩ := hg117.elim id (fun q => absurd q.1 (by omega)); exact ⟨⟨_, hgB, Or.inl ⟨by omega, fun _ _ => rfl⟩⟩, hZB.mono (Int.le_refl _) (Int.le_refl _) (by omega)⟩)
                          refine z_aloadn C 0 dX11_follows_138 rfl rfl ?_
                          refine z_aloadn C 0 dX11_follows_139 rfl rfl ?_
                          refine z_get C 0 (by decide) rfl rfl z_it11 5 (by decide) rfl fl_11_22 rfl dX11_follows_140 ?_
                          refine z_iloadn C 2 dX11_follows_143 rfl rfl ?_
                          refine z_iald C 5 (by decide) rfl (by decide) (by omega) (by omega) dX11_follows_144 ?_
                          have rx290 := Ha_resets (e0 : Int).toNat
                          generalize ex290 : a_resets (e0 : Int).toNat = x290 at rx290 ⊢
                          refine z_iloadn C 3 dX11_follows_145 rfl rfl ?_
                          refine z_iconst C dX11_follows_146 ?_
                          refine z_icmp_ne (t := 154) C dX11_follows_147 (by decide) (by omega) (by omega) (fun c291 => ?_) (fun c291 => ?_)
                          · skip
                            refine z_aloadn C 0 dX11_follows_154 rfl rfl ?_
                            refine z_get C 0 (by decide) rfl rfl z_it11 5 (by decide) rfl fl_11_22 rfl dX11_follows_155 ?_
                            refine z_iloadn C 3 dX11_follows_158 rfl rfl ?_
                            refine z_iald C 5 (by decide) rfl (by decide) (by omega) (by omega) dX11_follows_159 ?_
                            have rx292 := Ha_resets (f0 : Int).toNat
                            generalize ex292 : a_resets (f0 : Int).toNat = x292 at rx292 ⊢
                            obtain ⟨b293, hb293, rb293⟩ := z_bits (z_i x290 ||| z_i x292)
                            refine z_ior C hb293 dX11_follows_160 ?_
                            have qb293 := z_bitsE hb293 rb293
                            have hor : b293 = z_or a_resets e0 f0 := by
                              rw [← qb293]; unfold z_or
                              first | (rw [if_pos (show f0 = -1 by omega), ← zo_or0 (Ha_resets e0.toNat)]; subst_vars; rfl) | (rw [if_neg (show ¬ f0 = -1 by omega)]; subst_vars; rfl)
                            refine z_callV C (cx_X11_set l b293 h287 (by omega) (hg2.2.1.1 0 (by omega))) mv_11_142 (z_atS 0 11 (by decide) rfl rfl rfl) pd_X11_set ⟨by omega, by omega⟩ ⟨by omega, by omega⟩ rfl (Nat.le_of_ble_eq_true rfl) dX11_follows_161 ?_
                            rintro _ _ _ ⟨n294, rfl, rfl, h297, q161_0, rfl⟩
                            have hset := q161_0
                            rw [hor] at hset
                            refine z_aloadn C 0 dX11_follows_164 rfl rfl ?_
                            refine z_get C 0 (by decide) rfl rfl z_it11 21 (by decide) rfl fl_11_65 rfl dX11_follows_165 ?_
                            refine z_aloadn C 0 dX11_follows_168 rfl rfl ?_
                            refine z_get C 0 (by decide) rfl rfl z_it11 1 (by decide) rfl fl_11_7 rfl dX11_follows_169 ?_
                            refine z_iloadn C 2 dX11_follows_172 rfl rfl ?_
                            refine z_iald C 1 (by decide) rfl (by decide) (by omega) (by omega) dX11_follows_173 ?_
                            have rx298 := Ha_machine (e0 : Int).toNat
                            generalize ex298 : a_machine (e0 : Int).toNat = x298 at rx298 ⊢
                            refine z_aloadn C 0 dX11_follows_174 rfl rfl ?_
                            refine z_get C 0 (by decide) rfl rfl z_it11 3 (by decide) rfl fl_11_16 rfl dX11_follows_175 ?_
                            refine z_iloadn C 2 dX11_follows_178 rfl rfl ?_
                            refine z_iald C 3 (by decide) rfl (by decide) (by omega) (by omega) dX11_follows_179 ?_
                            have rx299 := Ha_to (e0 : Int).toNat
                            generalize ex299 : a_to (e0 : Int).toNat = x299 at rx299 ⊢
                            refine z_iast C 18 (by decide) rfl (by decide) (by omega) (by omega) dX11_follows_180 ?_
                            refine z_ext (S' := (z_zm ad ks s_edges s_isNeeded s_explored s_states s_isMoved s_runs s_runTime s_runMoves w_h a_machine a_from a_to a_channel a_resets a_guards a_guardOf a_limits a_limitOf a_places a_zones a_parent a_moveE a_moveF a_moves n294 a_ahead (va_up fa_at (x298 : Int).toNat x299) a_amounts a_way a_moments a_runAt a_runClock)) upM_a_at ?_
                            have h300 : ∀ j, 0 ≤ (va_up fa_at (x298 : Int).toNat x299) j ∧ (va_up fa_at (x298 : Int).toNat x299) j ≤ 5 := z_upP (P := fun j v => 0 ≤ v ∧ v ≤ 5) Hfa_at (by omega)
                            refine z_iloadn C 3 dX11_follows_181 rfl rfl ?_
                            refine z_iconst C dX11_follows_182 ?_
                            refine z_icmp_eq (t := 203) C dX11_follows_183 (by decide) (by omega) (by omega) (fun c301 => ?_) (fun c301 => ?_)
                            · skip
                              refine z_aloadn C 0 dX11_follows_203 rfl rfl ?_
                              have hAT : ∀ m, m < 3 → (va_up fa_at (x298 : Int).toNat x299) m = z_goA (zo_n3 (fun m => a_places (3 * i0.toNat + m))) a_machine a_to e0 f0 m := by
                                first | (rw [z_goA1 (show f0 = -1 by omega)]; subst_vars; exact z_up_pt hA) | (rw [z_goA2 (show f0 ≠ -1 by omega)]; subst_vars; exact z_up_pt (z_up_pt hA))
                              have hZ5 : zo_Z 18018 20020 40027 n294 := ((zo_set_Z (r := z_or a_resets e0 f0) (hg2.2.flat (by omega))).mono (Int.le_refl _) (by omega) (Int.le_refl _)).congr (fun k hk => (hset k hk).symm)
                              refine z_callV C (cx_X11_keepLimits l h300 Ha_limits Ha_limitOf h297 hlr hZ5 (by omega) (by omega)) mv_11_133 (z_atS 0 11 (by decide) rfl rfl rfl) pd_X11_keepLimits ⟨by omega, by omega⟩ ⟨by omega, by omega⟩ rfl (Nat.le_of_ble_eq_true rfl) dX11_follows_204 ?_
                              rintro _ _ _ ⟨n302, rfl, rfl, h305, z306, rfl, hz306⟩
                              have hk204 := hz306
                              refine z_if_eq (t := 221) C dX11_follows_207 (by decide) (by omega) (fun c307 => ?_) (fun c307 => ?_)
                              · skip
                                refine z_iconst C dX11_follows_221 ?_
                                rw [hQ]
                                exact z_zret C hrt (by omega) dX11_follows_222 (⟨(va_up fa_at (x298 : Int).toNat x299), n302, a_ahead, rfl, rfl, h300, h305, Ha_ahead, _, rfl, by first | (obtain ⟨_, hl1, hl2⟩ := hk211.elim id (fun q => absurd q.1 (by omega)); exact Or.inl ⟨rfl, zo_F5 hst hg2.1 hset hAT hkG hl1, hl2⟩) | exact Or.inr ⟨rfl, zo_F4 hg2.1 hset hAT hkG (hk211.elim (fun q => absurd q.1 (by omega)) (fun q => q.2))⟩ | exact Or.inr ⟨rfl, zo_F3 hg2.1 hset hAT (hk204.elim (fun q => absurd q.1 (by omega)) (fun q => q.2))⟩⟩) (by omega) (by omega)
                              · skip
                                refine z_aloadn C 0 dX11_follows_210 rfl rfl ?_
                                obtain ⟨_, hkG, hkZ⟩ := zo_kl hk204 (by omega)
                                refine z_callV C (cx_X11_later l (by omega) Ha_guards Ha_guardOf Ha_limits Ha_limitOf h305 Ha_ahead h300 hmo hmr hlr hkZ (by omega) (by omega)) mv_11_146 (z_atS 0 11 (by decide) rfl rfl rfl) pd_X11_later ⟨by omega, by omega⟩ ⟨by omega, by omega⟩ rfl (Nat.le_of_ble_eq_true rfl) dX11_follows_211 ?_
                                rintro _ _ _ ⟨n308, n309, rfl, rfl, h312, h313, z314, rfl, hz314⟩
                                have hk211 := hz314
                                refine z_if_eq (t := 221) C dX11_follows_214 (by decide) (by omega) (fun c315 => ?_) (fun c315 => ?_)
                                · skip
                                  refine z_iconst C dX11_follows_221 ?_
                                  rw [hQ]
                                  exact z_zret C hrt (by omega) dX11_follows_222 (⟨(va_up fa_at (x298 : Int).toNat x299), n308, n309, rfl, rfl, h300, h312, h313, _, rfl, by first | (obtain ⟨_, hl1, hl2⟩ := hk211.elim id (fun q => absurd q.1 (by omega)); exact Or.inl ⟨rfl, zo_F5 hst hg2.1 hset hAT hkG hl1, hl2⟩) | exact Or.inr ⟨rfl, zo_F4 hg2.1 hset hAT hkG (hk211.elim (fun q => absurd q.1 (by omega)) (fun q => q.2))⟩ | exact Or.inr ⟨rfl, zo_F3 hg2.1 hset hAT (hk204.elim (fun q => absurd q.1 (by omega)) (fun q => q.2))⟩⟩) (by omega) (by omega)
                                · skip
                                  refine z_iconst C dX11_follows_217 ?_
                                  refine z_goto (t := 222) C dX11_follows_218 (by decide) ?_
                                  rw [hQ]
                                  exact z_zret C hrt (by omega) dX11_follows_222 (⟨(va_up fa_at (x298 : Int).toNat x299), n308, n309, rfl, rfl, h300, h312, h313, _, rfl, by first | (obtain ⟨_, hl1, hl2⟩ := hk211.elim id (fun q => absurd q.1 (by omega)); exact Or.inl ⟨rfl, zo_F5 hst hg2.1 hset hAT hkG hl1, hl2⟩) | exact Or.inr ⟨rfl, zo_F4 hg2.1 hset hAT hkG (hk211.elim (fun q => absurd q.1 (by omega)) (fun q => q.2))⟩ | exact Or.inr ⟨rfl, zo_F3 hg2.1 hset hAT (hk204.elim (fun q => absurd q.1 (by omega)) (fun q => q.2))⟩⟩) (by omega) (by omega)
                            · skip
                              refine z_aloadn C 0 dX11_follows_186 rfl rfl ?_
                              refine z_get C 0 (by decide) rfl rfl z_it11 21 (by decide) rfl fl_11_65 rfl dX11_follows_187 ?_
                              refine z_aloadn C 0 dX11_follows_190 rfl rfl ?_
                              refine z_get C 0 (by decide) rfl rfl z_it11 1 (by decide) rfl fl_11_7 rfl dX11_follows_191 ?_
                              refine z_iloadn C 3 dX11_follows_194 rfl rfl ?_
                              refine z_iald C 1 (by decide) rfl (by decide) (by omega) (by omega) dX11_follows_195 ?_
                              have rx316 := Ha_machine (f0 : Int).toNat
                              generalize ex316 : a_machine (f0 : Int).toNat = x316 at rx316 ⊢
                              refine z_aloadn C 0 dX11_follows_196 rfl rfl ?_
                              refine z_get C 0 (by decide) rfl rfl z_it11 3 (by decide) rfl fl_11_16 rfl dX11_follows_197 ?_
                              refine z_iloadn C 3 dX11_follows_200 rfl rfl ?_
                              refine z_iald C 3 (by decide) rfl (by decide) (by omega) (by omega) dX11_follows_201 ?_
                              have rx317 := Ha_to (f0 : Int).toNat
                              generalize ex317 : a_to (f0 : Int).toNat = x317 at rx317 ⊢
                              refine z_iast C 18 (by decide) rfl (by decide) (by omega) (by omega) dX11_follows_202 ?_
                              refine z_ext (S' := (z_zm ad ks s_edges s_isNeeded s_explored s_states s_isMoved s_runs s_runTime s_runMoves w_h a_machine a_from a_to a_channel a_resets a_guards a_guardOf a_limits a_limitOf a_places a_zones a_parent a_moveE a_moveF a_moves n294 a_ahead (va_up (va_up fa_at (x298 : Int).toNat x299) (x316 : Int).toNat x317) a_amounts a_way a_moments a_runAt a_runClock)) upM_a_at ?_
                              have h318 : ∀ j, 0 ≤ (va_up (va_up fa_at (x298 : Int).toNat x299) (x316 : Int).toNat x317) j ∧ (va_up (va_up fa_at (x298 : Int).toNat x299) (x316 : Int).toNat x317) j ≤ 5 := z_upP (P := fun j v => 0 ≤ v ∧ v ≤ 5) h300 (by omega)
                              refine z_aloadn C 0 dX11_follows_203 rfl rfl ?_
                              have hAT : ∀ m, m < 3 → (va_up (va_up fa_at (x298 : Int).toNat x299) (x316 : Int).toNat x317) m = z_goA (zo_n3 (fun m => a_places (3 * i0.toNat + m))) a_machine a_to e0 f0 m := by
                                first | (rw [z_goA1 (show f0 = -1 by omega)]; subst_vars; exact z_up_pt hA) | (rw [z_goA2 (show f0 ≠ -1 by omega)]; subst_vars; exact z_up_pt (z_up_pt hA))
                              have hZ5 : zo_Z 18018 20020 40027 n294 := ((zo_set_Z (r := z_or a_resets e0 f0) (hg2.2.flat (by omega))).mono (Int.le_refl _) (by omega) (Int.le_refl _)).congr (fun k hk => (hset k hk).symm)
                              refine z_callV C (cx_X11_keepLimits l h318 Ha_limits Ha_limitOf h297 hlr hZ5 (by omega) (by omega)) mv_11_133 (z_atS 0 11 (by decide) rfl rfl rfl) pd_X11_keepLimits ⟨by omega, by omega⟩ ⟨by omega, by omega⟩ rfl (Nat.le_of_ble_eq_true rfl) dX11_follows_204 ?_
                              rintro _ _ _ ⟨n319, rfl, rfl, h322, z323, rfl, hz323⟩
                              have hk204 := hz323
                              refine z_if_eq (t := 221) C dX11_follows_207 (by decide) (by omega) (fun c324 => ?_) (fun c324 => ?_)
                              · skip
                                refine z_iconst C dX11_follows_221 ?_
                                rw [hQ]
                                exact z_zret C hrt (by omega) dX11_follows_222 (⟨(va_up (va_up fa_at (x298 : Int).toNat x299) (x316 : Int).toNat x317), n319, a_ahead, rfl, rfl, h318, h322, Ha_ahead, _, rfl, by first | (obtain ⟨_, hl1, hl2⟩ := hk211.elim id (fun q => absurd q.1 (by omega)); exact Or.inl ⟨rfl, zo_F5 hst hg2.1 hset hAT hkG hl1, hl2⟩) | exact Or.inr ⟨rfl, zo_F4 hg2.1 hset hAT hkG (hk211.elim (fun q => absurd q.1 (by omega)) (fun q => q.2))⟩ | exact Or.inr ⟨rfl, zo_F3 hg2.1 hset hAT (hk204.elim (fun q => absurd q.1 (by omega)) (fun q => q.2))⟩⟩) (by omega) (by omega)
                              · skip
                                refine z_aloadn C 0 dX11_follows_210 rfl rfl ?_
                                obtain ⟨_, hkG, hkZ⟩ := zo_kl hk204 (by omega)
                                refine z_callV C (cx_X11_later l (by omega) Ha_guards Ha_guardOf Ha_limits Ha_limitOf h322 Ha_ahead h318 hmo hmr hlr hkZ (by omega) (by omega)) mv_11_146 (z_atS 0 11 (by decide) rfl rfl rfl) pd_X11_later ⟨by omega, by omega⟩ ⟨by omega, by omega⟩ rfl (Nat.le_of_ble_eq_true rfl) dX11_follows_211 ?_
                                rintro _ _ _ ⟨n325, n326, rfl, rfl, h329, h330, z331, rfl, hz331⟩
                                have hk211 := hz331
                                refine z_if_eq (t := 221) C dX11_follows_214 (by decide) (by omega) (fun c332 => ?_) (fun c332 => ?_)
                                · skip
                                  refine z_iconst C dX11_follows_221 ?_
                                  rw [hQ]
                                  exact z_zret C hrt (by omega) dX11_follows_222 (⟨(va_up (va_up fa_at (x298 : Int).toNat x299) (x316 : Int).toNat x317), n325, n326, rfl, rfl, h318, h329, h330, _, rfl, by first | (obtain ⟨_, hl1, hl2⟩ := hk211.elim id (fun q => absurd q.1 (by omega)); exact Or.inl ⟨rfl, zo_F5 hst hg2.1 hset hAT hkG hl1, hl2⟩) | exact Or.inr ⟨rfl, zo_F4 hg2.1 hset hAT hkG (hk211.elim (fun q => absurd q.1 (by omega)) (fun q => q.2))⟩ | exact Or.inr ⟨rfl, zo_F3 hg2.1 hset hAT (hk204.elim (fun q => absurd q.1 (by omega)) (fun q => q.2))⟩⟩) (by omega) (by omega)
                                · skip
                                  refine z_iconst C dX11_follows_217 ?_
                                  refine z_goto (t := 222) C dX11_follows_218 (by decide) ?_
                                  rw [hQ]
                                  exact z_zret C hrt (by omega) dX11_follows_222 (⟨(va_up (va_up fa_at (x298 : Int).toNat x299) (x316 : Int).toNat x317), n325, n326, rfl, rfl, h318, h329, h330, _, rfl, by first | (obtain ⟨_, hl1, hl2⟩ := hk211.elim id (fun q => absurd q.1 (by omega)); exact Or.inl ⟨rfl, zo_F5 hst hg2.1 hset hAT hkG hl1, hl2⟩) | exact Or.inr ⟨rfl, zo_F4 hg2.1 hset hAT hkG (hk211.elim (fun q => absurd q.1 (by omega)) (fun q => q.2))⟩ | exact Or.inr ⟨rfl, zo_F3 hg2.1 hset hAT (hk204.elim (fun q => absurd q.1 (by omega)) (fun q => q.2))⟩⟩) (by omega) (by omega)
                          · skip
                            refine z_iconst C dX11_follows_150 ?_
                            refine z_goto (t := 160) C dX11_follows_151 (by decide) ?_
                            obtain ⟨b333, hb333, rb333⟩ := z_bits (z_i x290 ||| z_i 0)
                            refine z_ior C hb333 dX11_follows_160 ?_
                            have qb333 := z_bitsE hb333 rb333
                            have hor : b333 = z_or a_resets e0 f0 := by
                              rw [← qb333]; unfold z_or
                              first | (rw [if_pos (show f0 = -1 by omega), ← zo_or0 (Ha_resets e0.toNat)]; subst_vars; rfl) | (rw [if_neg (show ¬ f0 = -1 by omega)]; subst_vars; rfl)
                            refine z_callV C (cx_X11_set l b333 h287 (by omega) (hg2.2.1.1 0 (by omega))) mv_11_142 (z_atS 0 11 (by decide) rfl rfl rfl) pd_X11_set ⟨by omega, by omega⟩ ⟨by omega, by omega⟩ rfl (Nat.le_of_ble_eq_true rfl) dX11_follows_161 ?_
                            rintro _ _ _ ⟨n334, rfl, rfl, h337, q161_0, rfl⟩
                            have hset := q161_0
                            rw [hor] at hset
                            refine z_aloadn C 0 dX11_follows_164 rfl rfl ?_
                            refine z_get C 0 (by decide) rfl rfl z_it11 21 (by decide) rfl fl_11_65 rfl dX11_follows_165 ?_
                            refine z_aloadn C 0 dX11_follows_168 rfl rfl ?_
                            refine z_get C 0 (by decide) rfl rfl z_it11 1 (by decide) rfl fl_11_7 rfl dX11_follows_169 ?_
                            refine z_iloadn C 2 dX11_follows_172 rfl rfl ?_
                            refine z_iald C 1 (by decide) rfl (by decide) (by omega) (by omega) dX11_follows_173 ?_
                            have rx338 := Ha_machine (e0 : Int).toNat
                            generalize ex338 : a_machine (e0 : Int).toNat = x338 at rx338 ⊢
                            refine z_aloadn C 0 dX11_follows_174 rfl rfl ?_
                            refine z_get C 0 (by decide) rfl rfl z_it11 3 (by decide) rfl fl_11_16 rfl dX11_follows_175 ?_
                            refine z_iloadn C 2 dX11_follows_178 rfl rfl ?_
                            refine z_iald C 3 (by decide) rfl (by decide) (by omega) (by omega) dX11_follows_179 ?_
                            have rx339 := Ha_to (e0 : Int).toNat
                            generalize ex339 : a_to (e0 : Int).toNat = x339 at rx339 ⊢
                            refine z_iast C 18 (by decide) rfl (by decide) (by omega) (by omega) dX11_follows_180 ?_
                            refine z_ext (S' := (z_zm ad ks s_edges s_isNeeded s_explored s_states s_isMoved s_runs s_runTime s_runMoves w_h a_machine a_from a_to a_channel a_resets a_guards a_guardOf a_limits a_limitOf a_places a_zones a_parent a_moveE a_moveF a_moves n334 a_ahead (va_up fa_at (x338 : Int).toNat x339) a_amounts a_way a_moments a_runAt a_runClock)) upM_a_at ?_
                            have h340 : ∀ j, 0 ≤ (va_up fa_at (x338 : Int).toNat x339) j ∧ (va_up fa_at (x338 : Int).toNat x339) j ≤ 5 := z_upP (P := fun j v => 0 ≤ v ∧ v ≤ 5) Hfa_at (by omega)
                            refine z_iloadn C 3 dX11_follows_181 rfl rfl ?_
                            refine z_iconst C dX11_follows_182 ?_
                            refine z_icmp_eq (t := 203) C dX11_follows_183 (by decide) (by omega) (by omega) (fun c341 => ?_) (fun c341 => ?_)
                            · skip
                              refine z_aloadn C 0 dX11_follows_203 rfl rfl ?_
                              have hAT : ∀ m, m < 3 → (va_up fa_at (x338 : Int).toNat x339) m = z_goA (zo_n3 (fun m => a_places (3 * i0.toNat + m))) a_machine a_to e0 f0 m := by
                                first | (rw [z_goA1 (show f0 = -1 by omega)]; subst_vars; exact z_up_pt hA) | (rw [z_goA2 (show f0 ≠ -1 by omega)]; subst_vars; exact z_up_pt (z_up_pt hA))
                              have hZ5 : zo_Z 18018 20020 40027 n334 := ((zo_set_Z (r := z_or a_resets e0 f0) (hg2.2.flat (by omega))).mono (Int.le_refl _) (by omega) (Int.le_refl _)).congr (fun k hk => (hset k hk).symm)
                              refine z_callV C (cx_X11_keepLimits l h340 Ha_limits Ha_limitOf h337 hlr hZ5 (by omega) (by omega)) mv_11_133 (z_atS 0 11 (by decide) rfl rfl rfl) pd_X11_keepLimits ⟨by omega, by omega⟩ ⟨by omega, by omega⟩ rfl (Nat.le_of_ble_eq_true rfl) dX11_follows_204 ?_
                              rintro _ _ _ ⟨n342, rfl, rfl, h345, z346, rfl, hz346⟩
                              have hk204 := hz346
                              refine z_if_eq (t := 221) C dX11_follows_207 (by decide) (by omega) (fun c347 => ?_) (fun c347 => ?_)
                              · skip
                                refine z_iconst C dX11_follows_221 ?_
                                rw [hQ]
                                exact z_zret C hrt (by omega) dX11_follows_222 (⟨(va_up fa_at (x338 : Int).toNat x339), n342, a_ahead, rfl, rfl, h340, h345, Ha_ahead, _, rfl, by first | (obtain ⟨_, hl1, hl2⟩ := hk211.elim id (fun q => absurd q.1 (by omega)); exact Or.inl ⟨rfl, zo_F5 hst hg2.1 hset hAT hkG hl1, hl2⟩) | exact Or.inr ⟨rfl, zo_F4 hg2.1 hset hAT hkG (hk211.elim (fun q => absurd q.1 (by omega)) (fun q => q.2))⟩ | exact Or.inr ⟨rfl, zo_F3 hg2.1 hset hAT (hk204.elim (fun q => absurd q.1 (by omega)) (fun q => q.2))⟩⟩) (by omega) (by omega)
                              · skip
                                refine z_aloadn C 0 dX11_follows_210 rfl rfl ?_
                                obtain ⟨_, hkG, hkZ⟩ := zo_kl hk204 (by omega)
                                refine z_callV C (cx_X11_later l (by omega) Ha_guards Ha_guardOf Ha_limits Ha_limitOf h345 Ha_ahead h340 hmo hmr hlr hkZ (by omega) (by omega)) mv_11_146 (z_atS 0 11 (by decide) rfl rfl rfl) pd_X11_later ⟨by omega, by omega⟩ ⟨by omega, by omega⟩ rfl (Nat.le_of_ble_eq_true rfl) dX11_follows_211 ?_
                                rintro _ _ _ ⟨n348, n349, rfl, rfl, h352, h353, z354, rfl, hz354⟩
                                have hk211 := hz354
                                refine z_if_eq (t := 221) C dX11_follows_214 (by decide) (by omega) (fun c355 => ?_) (fun c355 => ?_)
                                · skip
                                  refine z_iconst C dX11_follows_221 ?_
                                  rw [hQ]
                                  exact z_zret C hrt (by omega) dX11_follows_222 (⟨(va_up fa_at (x338 : Int).toNat x339), n348, n349, rfl, rfl, h340, h352, h353, _, rfl, by first | (obtain ⟨_, hl1, hl2⟩ := hk211.elim id (fun q => absurd q.1 (by omega)); exact Or.inl ⟨rfl, zo_F5 hst hg2.1 hset hAT hkG hl1, hl2⟩) | exact Or.inr ⟨rfl, zo_F4 hg2.1 hset hAT hkG (hk211.elim (fun q => absurd q.1 (by omega)) (fun q => q.2))⟩ | exact Or.inr ⟨rfl, zo_F3 hg2.1 hset hAT (hk204.elim (fun q => absurd q.1 (by omega)) (fun q => q.2))⟩⟩) (by omega) (by omega)
                                · skip
                                  refine z_iconst C dX11_follows_217 ?_
                                  refine z_goto (t := 222) C dX11_follows_218 (by decide) ?_
                                  rw [hQ]
                                  exact z_zret C hrt (by omega) dX11_follows_222 (⟨(va_up fa_at (x338 : Int).toNat x339), n348, n349, rfl, rfl, h340, h352, h353, _, rfl, by first | (obtain ⟨_, hl1, hl2⟩ := hk211.elim id (fun q => absurd q.1 (by omega)); exact Or.inl ⟨rfl, zo_F5 hst hg2.1 hset hAT hkG hl1, hl2⟩) | exact Or.inr ⟨rfl, zo_F4 hg2.1 hset hAT hkG (hk211.elim (fun q => absurd q.1 (by omega)) (fun q => q.2))⟩ | exact Or.inr ⟨rfl, zo_F3 hg2.1 hset hAT (hk204.elim (fun q => absurd q.1 (by omega)) (fun q => q.2))⟩⟩) (by omega) (by omega)
                            · skip
                              refine z_aloadn C 0 dX11_follows_186 rfl rfl ?_
                              refine z_get C 0 (by decide) rfl rfl z_it11 21 (by decide) rfl fl_11_65 rfl dX11_follows_187 ?_
                              refine z_aloadn C 0 dX11_follows_190 rfl rfl ?_
                              refine z_get C 0 (by decide) rfl rfl z_it11 1 (by decide) rfl fl_11_7 rfl dX11_follows_191 ?_
                              refine z_iloadn C 3 dX11_follows_194 rfl rfl ?_
                              refine z_iald C 1 (by decide) rfl (by decide) (by omega) (by omega) dX11_follows_195 ?_
                              have rx356 := Ha_machine (f0 : Int).toNat
                              generalize ex356 : a_machine (f0 : Int).toNat = x356 at rx356 ⊢
                              refine z_aloadn C 0 dX11_follows_196 rfl rfl ?_
                              refine z_get C 0 (by decide) rfl rfl z_it11 3 (by decide) rfl fl_11_16 rfl dX11_follows_197 ?_
                              refine z_iloadn C 3 dX11_follows_200 rfl rfl ?_
                              refine z_iald C 3 (by decide) rfl (by decide) (by omega) (by omega) dX11_follows_201 ?_
                              have rx357 := Ha_to (f0 : Int).toNat
                              generalize ex357 : a_to (f0 : Int).toNat = x357 at rx357 ⊢
                              refine z_iast C 18 (by decide) rfl (by decide) (by omega) (by omega) dX11_follows_202 ?_
                              refine z_ext (S' := (z_zm ad ks s_edges s_isNeeded s_explored s_states s_isMoved s_runs s_runTime s_runMoves w_h a_machine a_from a_to a_channel a_resets a_guards a_guardOf a_limits a_limitOf a_places a_zones a_parent a_moveE a_moveF a_moves n334 a_ahead (va_up (va_up fa_at (x338 : Int).toNat x339) (x356 : Int).toNat x357) a_amounts a_way a_moments a_runAt a_runClock)) upM_a_at ?_
                              have h358 : ∀ j, 0 ≤ (va_up (va_up fa_at (x338 : Int).toNat x339) (x356 : Int).toNat x357) j ∧ (va_up (va_up fa_at (x338 : Int).toNat x339) (x356 : Int).toNat x357) j ≤ 5 := z_upP (P := fun j v => 0 ≤ v ∧ v ≤ 5) h340 (by omega)
                              refine z_aloadn C 0 dX11_follows_203 rfl rfl ?_
                              have hAT : ∀ m, m < 3 → (va_up (va_up fa_at (x338 : Int).toNat x339) (x356 : Int).toNat x357) m = z_goA (zo_n3 (fun m => a_places (3 * i0.toNat + m))) a_machine a_to e0 f0 m := by
                                first | (rw [z_goA1 (show f0 = -1 by omega)]; subst_vars; exact z_up_pt hA) | (rw [z_goA2 (show f0 ≠ -1 by omega)]; subst_vars; exact z_up_pt (z_up_pt hA))
                              have hZ5 : zo_Z 18018 20020 40027 n334 := ((zo_set_Z (r := z_or a_resets e0 f0) (hg2.2.flat (by omega))).mono (Int.le_refl _) (by omega) (Int.le_refl _)).congr (fun k hk => (hset k hk).symm)
                              refine z_callV C (cx_X11_keepLimits l h358 Ha_limits Ha_limitOf h337 hlr hZ5 (by omega) (by omega)) mv_11_133 (z_atS 0 11 (by decide) rfl rfl rfl) pd_X11_keepLimits ⟨by omega, by omega⟩ ⟨by omega, by omega⟩ rfl (Nat.le_of_ble_eq_true rfl) dX11_follows_204 ?_
                              rintro _ _ _ ⟨n359, rfl, rfl, h362, z363, rfl, hz363⟩
                              have hk204 := hz363
                              refine z_if_eq (t := 221) C dX11_follows_207 (by decide) (by omega) (fun c364 => ?_) (fun c364 => ?_)
                              · skip
                                refine z_iconst C dX11_follows_221 ?_
                                rw [hQ]
                                exact z_zret C hrt (by omega) dX11_follows_222 (⟨(va_up (va_up fa_at (x338 : Int).toNat x339) (x356 : Int).toNat x357), n359, a_ahead, rfl, rfl, h358, h362, Ha_ahead, _, rfl, by first | (obtain ⟨_, hl1, hl2⟩ := hk211.elim id (fun q => absurd q.1 (by omega)); exact Or.inl ⟨rfl, zo_F5 hst hg2.1 hset hAT hkG hl1, hl2⟩) | exact Or.inr ⟨rfl, zo_F4 hg2.1 hset hAT hkG (hk211.elim (fun q => absurd q.1 (by omega)) (fun q => q.2))⟩ | exact Or.inr ⟨rfl, zo_F3 hg2.1 hset hAT (hk204.elim (fun q => absurd q.1 (by omega)) (fun q => q.2))⟩⟩) (by omega) (by omega)
                              · skip
                                refine z_aloadn C 0 dX11_follows_210 rfl rfl ?_
                                obtain ⟨_, hkG, hkZ⟩ := zo_kl hk204 (by omega)
                                refine z_callV C (cx_X11_later l (by omega) Ha_guards Ha_guardOf Ha_limits Ha_limitOf h362 Ha_ahead h358 hmo hmr hlr hkZ (by omega) (by omega)) mv_11_146 (z_atS 0 11 (by decide) rfl rfl rfl) pd_X11_later ⟨by omega, by omega⟩ ⟨by omega, by omega⟩ rfl (Nat.le_of_ble_eq_true rfl) dX11_follows_211 ?_
                                rintro _ _ _ ⟨n365, n366, rfl, rfl, h369, h370, z371, rfl, hz371⟩
                                have hk211 := hz371
                                refine z_if_eq (t := 221) C dX11_follows_214 (by decide) (by omega) (fun c372 => ?_) (fun c372 => ?_)
                                · skip
                                  refine z_iconst C dX11_follows_221 ?_
                                  rw [hQ]
                                  exact z_zret C hrt (by omega) dX11_follows_222 (⟨(va_up (va_up fa_at (x338 : Int).toNat x339) (x356 : Int).toNat x357), n365, n366, rfl, rfl, h358, h369, h370, _, rfl, by first | (obtain ⟨_, hl1, hl2⟩ := hk211.elim id (fun q => absurd q.1 (by omega)); exact Or.inl ⟨rfl, zo_F5 hst hg2.1 hset hAT hkG hl1, hl2⟩) | exact Or.inr ⟨rfl, zo_F4 hg2.1 hset hAT hkG (hk211.elim (fun q => absurd q.1 (by omega)) (fun q => q.2))⟩ | exact Or.inr ⟨rfl, zo_F3 hg2.1 hset hAT (hk204.elim (fun q => absurd q.1 (by omega)) (fun q => q.2))⟩⟩) (by omega) (by omega)
                                · skip
                                  refine z_iconst C dX11_follows_217 ?_
                                  refine z_goto (t := 222) C dX11_follows_218 (by decide) ?_
                                  rw [hQ]
                                  exact z_zret C hrt (by omega) dX11_follows_222 (⟨(va_up (va_up fa_at (x338 : Int).toNat x339) (x356 : Int).toNat x357), n365, n366, rfl, rfl, h358, h369, h370, _, rfl, by first | (obtain ⟨_, hl1, hl2⟩ := hk211.elim id (fun q => absurd q.1 (by omega)); exact Or.inl ⟨rfl, zo_F5 hst hg2.1 hset hAT hkG hl1, hl2⟩) | exact Or.inr ⟨rfl, zo_F4 hg2.1 hset hAT hkG (hk211.elim (fun q => absurd q.1 (by omega)) (fun q => q.2))⟩ | exact Or.inr ⟨rfl, zo_F3 hg2.1 hset hAT (hk204.elim (fun q => absurd q.1 (by omega)) (fun q => q.2))⟩⟩) (by omega) (by omega)
                        · skip
                          refine z_iconst C dX11_follows_136 ?_
                          rw [hQ]
                          exact z_zret C hrt (by omega) dX11_follows_137 (⟨fa_at, n284, a_ahead, rfl, rfl, Hfa_at, h287, Ha_ahead, _, rfl, by first | exact Or.inr ⟨rfl, zo_F2 hgA (by omega) (hg130.elim (fun q => absurd q.1 (by omega)) (fun q => q.2))⟩ | exact Or.inr ⟨rfl, zo_F1 (hg117.elim (fun q => absurd q.1 (by omega)) (fun q => q.2))⟩⟩) (by omega) (by omega)
                  · skip
                    refine z_aloadn C 0 dX11_follows_90 rfl rfl ?_
                    refine z_get C 0 (by decide) rfl rfl z_it11 19 (by decide) rfl fl_11_59 rfl dX11_follows_91 ?_
                    refine z_iload C 4 dX11_follows_94 rfl ?_
                    refine z_aloadn C 0 dX11_follows_96 rfl rfl ?_
                    refine z_get C 0 (by decide) rfl rfl z_it11 14 (by decide) rfl fl_11_44 rfl dX11_follows_97 ?_
                    refine z_bipush C dX11_follows_100 (by decide) ?_
                    refine z_iloadn C 1 dX11_follows_102 rfl rfl ?_
                    refine z_imul C dX11_follows_103 ?_
                    refine z_iload C 4 dX11_follows_104 rfl ?_
                    refine z_iadd C dX11_follows_106 ?_
                    refine z_iald C 11 (by decide) rfl (by decide) (by omega) (by omega) dX11_follows_107 ?_
                    have rx373 := Ha_zones (((16 * i0) + i4) : Int).toNat
                    generalize ex373 : a_zones (((16 * i0) + i4) : Int).toNat = x373 at rx373 ⊢
                    refine z_iast C 16 (by decide) rfl (by decide) (by omega) (by omega) dX11_follows_108 ?_
                    refine z_ext (S' := (z_zm ad ks s_edges s_isNeeded s_explored s_states s_isMoved s_runs s_runTime s_runMoves w_h a_machine a_from a_to a_channel a_resets a_guards a_guardOf a_limits a_limitOf a_places a_zones a_parent a_moveE a_moveF a_moves (va_up fa_z (i4 : Int).toNat x373) a_ahead fa_at a_amounts a_way a_moments a_runAt a_runClock)) upM_a_z ?_
                    have h374 : ∀ j, z_rg ((va_up fa_z (i4 : Int).toNat x373) j) := z_upP (P := fun j v => z_rg (v)) Hfa_z (by omega)
                    refine z_iinc (L' := [(4, z_v (i4 + 1)), (0, .ref (ad 0)), (1, z_v i0), (2, z_v e0), (3, z_v f0)]) C 4 dX11_follows_109 rfl (by decide) rfl ?_
                    refine z_goto (t := 83) C dX11_follows_112 (by decide) ?_
                    refine z_loc (L' := [(0, .ref (ad 0)), (1, z_v i0), (2, z_v e0), (3, z_v f0), (4, z_v (i4 + 1))]) [1, 2, 3, 4, 0] rfl ?_
                    exact ih83 (i4 + 1) (va_up fa_z (i4 : Int).toNat x373) h374 (by subst_vars; exact zo_cp16 FZ (by omega) (by omega)) (by omega) (by omega)
              refine z_loc (L' := [(0, .ref (ad 0)), (1, z_v i0), (2, z_v e0), (3, z_v f0), (4, z_v 0)]) [1, 2, 3, 4, 0] rfl ?_
              exact (L83 (((16 : Int) - 0).toNat + 1)) 0 a_z Ha_z (fun j hj => absurd hj (by omega)) (by omega) (Nat.lt_succ_self _)
            · skip
              have hst : ¬ zo_st2 a_machine a_from (zo_n3 (fun m => a_places (3 * i0.toNat + m))) e0 f0 := by
                rintro ⟨h1, h2⟩
                rw [← hA _ (by have := Ha_machine e0.toNat; omega)] at h1
                rcases h2 with h2 | ⟨h2, h3⟩
                · subst_vars; omega
                · rw [← hA _ (by have := Ha_machine f0.toNat; omega)] at h3; subst_vars; omega
              refine z_iconst C dX11_follows_78 ?_
              rw [hQ]
              exact z_zret C hrt (by omega) dX11_follows_79 (⟨fa_at, a_z, a_ahead, rfl, rfl, Hfa_at, Ha_z, Ha_ahead, _, rfl, Or.inr ⟨rfl, zo_F0 hst⟩⟩) (by omega) (by omega)
      · skip
        refine z_aloadn C 0 dX11_follows_9 rfl rfl ?_
        refine z_get C 0 (by decide) rfl rfl z_it11 21 (by decide) rfl fl_11_65 rfl dX11_follows_10 ?_
        refine z_iload C 4 dX11_follows_13 rfl ?_
        refine z_aloadn C 0 dX11_follows_15 rfl rfl ?_
        refine z_get C 0 (by decide) rfl rfl z_it11 13 (by decide) rfl fl_11_41 rfl dX11_follows_16 ?_
        refine z_iconst C dX11_follows_19 ?_
        refine z_iloadn C 1 dX11_follows_20 rfl rfl ?_
        refine z_imul C dX11_follows_21 ?_
        refine z_iload C 4 dX11_follows_22 rfl ?_
        refine z_iadd C dX11_follows_24 ?_
        refine z_iald C 10 (by decide) rfl (by decide) (by omega) (by omega) dX11_follows_25 ?_
        have rx375 := Ha_places (((3 * i0) + i4) : Int).toNat
        generalize ex375 : a_places (((3 * i0) + i4) : Int).toNat = x375 at rx375 ⊢
        refine z_iast C 18 (by decide) rfl (by decide) (by omega) (by omega) dX11_follows_26 ?_
        refine z_ext (S' := (z_zm ad ks s_edges s_isNeeded s_explored s_states s_isMoved s_runs s_runTime s_runMoves w_h a_machine a_from a_to a_channel a_resets a_guards a_guardOf a_limits a_limitOf a_places a_zones a_parent a_moveE a_moveF a_moves a_z a_ahead (va_up fa_at (i4 : Int).toNat x375) a_amounts a_way a_moments a_runAt a_runClock)) upM_a_at ?_
        have h376 : ∀ j, 0 ≤ (va_up fa_at (i4 : Int).toNat x375) j ∧ (va_up fa_at (i4 : Int).toNat x375) j ≤ 5 := z_upP (P := fun j v => 0 ≤ v ∧ v ≤ 5) Hfa_at (by omega)
        refine z_iinc (L' := [(4, z_v (i4 + 1)), (0, .ref (ad 0)), (1, z_v i0), (2, z_v e0), (3, z_v f0)]) C 4 dX11_follows_27 rfl (by decide) rfl ?_
        refine z_goto (t := 3) C dX11_follows_30 (by decide) ?_
        refine z_loc (L' := [(0, .ref (ad 0)), (1, z_v i0), (2, z_v e0), (3, z_v f0), (4, z_v (i4 + 1))]) [1, 2, 3, 4, 0] rfl ?_
        exact ih3 (i4 + 1) (va_up fa_at (i4 : Int).toNat x375) h376 (by subst_vars; exact zo_cp3 FA (by omega) (by omega)) (by omega) (by omega)
  refine z_loc (L' := [(0, .ref (ad 0)), (1, z_v i0), (2, z_v e0), (3, z_v f0), (4, z_v 0)]) [1, 2, 3, 4, 0] rfl ?_
  exact (L3 (((3 : Int) - 0).toNat + 1)) 0 a_at Ha_at (fun j hj => absurd hj (by omega)) (by omega) (Nat.lt_succ_self _)
