/-! each state that is met has a run along its way -/
def zr_p : Nat → Int
  | 0 => 1
  | m + 1 => 2 * zr_p m
theorem zr_p1 (m : Nat) : 1 ≤ zr_p m := by
  induction m with
  | zero => exact Int.le_refl _
  | succ m ih => show 1 ≤ 2 * zr_p m; omega
theorem zr_ps (m : Nat) : zr_p (m + 1) = 2 * zr_p m := rfl
section ZRS
variable {G s U V L N : Int} {em ef et er gn gt ln lt mo at0 z c c' v u w : Nat → Int}
abbrev zr_hl (ln lt : Nat → Int) : Prop := ∀ k : Int, 0 ≤ k → k < 18 → 0 ≤ ln k.toNat ∧ zo_tr (ln k.toNat) lt (6 * k)
abbrev zr_hg (N : Int) (gn gt : Nat → Int) : Prop := ∀ e : Int, 0 ≤ e → e < N → 0 ≤ gn e.toNat ∧ zo_tr (gn e.toNat) gt (6 * e)
abbrev zr_hp (at0 : Nat → Int) : Prop := ∀ m : Int, 0 ≤ m → m < 3 → 0 ≤ at0 m.toNat ∧ at0 m.toNat ≤ 5
abbrev zr_hm (N : Int) (gn gt ln lt mo : Nat → Int) : Prop := (∀ x : Int, 1 ≤ x → x ≤ 3 → z_gr x N gn gt ln lt (mo x.toNat)) ∧ ∀ x, 1 ≤ x → x < 4 → 0 ≤ mo x ∧ mo x ≤ 1000
theorem zr_Mg (hm : zr_hm N gn gt ln lt mo) (hg : zr_hg N gn gt) {e : Int} (h0 : 0 ≤ e) (h1 : e < N) : zr_M mo (gn e.toNat) gt (6 * e) := fun j j0 j1 => by
  have r := (hg e h0 h1).2 j j0 j1
  exact (hm.1 _ r.1.1 r.1.2).2.1 _ (Or.inl ⟨e, h0, h1, j, j0, j1, rfl, rfl⟩)
theorem zr_Ml (hm : zr_hm N gn gt ln lt mo) (hl : zr_hl ln lt) {e : Int} (h0 : 0 ≤ e) (h1 : e < 18) : zr_M mo (ln e.toNat) lt (6 * e) := fun j j0 j1 => by
  have r := (hl e h0 h1).2 j j0 j1
  exact (hm.1 _ r.1.1 r.1.2).2.1 _ (Or.inr ⟨e, h0, h1, j, j0, j1, rfl, rfl⟩)
theorem zr_li.of (h : zo_sl ln lt at0 w) (hl : zr_hl ln lt) (hp : zr_hp at0) (hv : zq_in G s zq_all v w) (h0 : v 0 = 0) (hs : 0 ≤ s ∧ s ≤ G) : zr_li G s ln lt at0 v := fun m m0 m1 => by
  have := hp m m0 m1
  exact zr_ts.of (h m m0 m1) (hl _ (by omega) (by omega)).2 hv h0 hs
theorem zr_li.sim (h : zr_li G s ln lt at0 v) (hm : zr_hm N gn gt ln lt mo) (hl : zr_hl ln lt) (hp : zr_hp at0) (hs : 1 ≤ s ∧ s ≤ G) (e : zq_sim G mo v u) : zr_li G 1 ln lt at0 u := fun m m0 m1 => by
  have := hp m m0 m1
  exact (h m m0 m1).sim (hl _ (by omega) (by omega)).2 (zr_Ml hm hl (by omega) (by omega)) hs e
theorem zr_st {m : Nat} (hz : zo_Z 18018 20020 L z) (hp : zr_hp at0) (hl : zr_hl ln lt) (hm : zr_hm N gn gt ln lt mo) (h : zo_settle ln lt at0 mo z c') (hG : 2 * zr_p (m + 4) ≤ G) (hv : zq_in G (zr_p (m + 4)) zq_all v c') (h0 : v 0 = 0) :
    ∃ v1 v0 a, zq_sim G mo v v1 ∧ 0 ≤ a ∧ v0 0 = 0 ∧ zq_in G (zr_p m) zq_all v0 z ∧ (∀ x, 1 ≤ x → x < 4 → v1 x = v0 x + a) ∧ zr_li G (zr_p m) ln lt at0 v0 ∧ zr_li G (zr_p m) ln lt at0 v1 := by
  have p1 := zr_p1 m
  have e1 : zr_p (m + 1) = 2 * zr_p (m) := rfl
  have e2 : zr_p (m + 2) = 2 * zr_p (m + 1) := rfl
  have e3 : zr_p (m + 3) = 2 * zr_p (m + 2) := rfl
  have e4 : zr_p (m + 4) = 2 * zr_p (m + 3) := rfl
  obtain ⟨c5, g5, d, gd, gw⟩ := h
  obtain ⟨L5, z5⟩ := zr_LZ hz hp hl g5 (by omega) (by omega)
  have zt := (zo_tm_Z (by omega) (by omega) z5).mono (Int.le_refl _) (show (20020 : Int) ≤ 22022 by omega) (Int.le_refl _)
  obtain ⟨Ld, zd⟩ := zr_LZ zt hp hl gd (by omega) (by omega)
  have w1 := hv.up gw.2.1 (by omega)
  obtain ⟨v1, a1, a2, a3⟩ := zq_wd (s1 := zr_p (m + 3)) (s2 := zr_p (m + 2)) (s3 := zr_p (m + 1)) zd.1 (zq_U.of zd (by omega) (by omega)) (fun j hj => (zd.2.2 j hj).2) (fun x h1 h4 => (hm.2 x h1 h4).1) h0 (by omega) w1
  obtain ⟨a, b1, b2⟩ := zq_tm (s' := zr_p m) z5.1 (zq_U.of z5 (by omega) (by omega)) (by omega) a1 (a2.up gd.2.1.1 (by omega))
  have l1 := zr_li.of gd.2.1.2 hl hp a2 a1 (by omega)
  have l0 := zr_li.of g5.2.1.2 hl hp b2 rfl (by omega)
  exact ⟨v1, (fun i => if i = 0 then 0 else v1 i - a), a, a3, b1, rfl, b2.up g5.2.1.1 (by omega), fun x h1 h4 => by dsimp only; rw [if_neg (by omega)]; omega, l0, fun m m0 m1 => (l1 m m0 m1).weak (by omega)⟩
end ZRS
/-- the way to a state: its moves, places and zones -/
def zr_ch (N : Int) (em ef et er gn gt ln lt mo E F : Nat → Int) (A Z : Nat → Nat → Int) (n : Nat) : Prop := zo_settle ln lt (A 0) mo (fun _ => 1) (Z 0) ∧ (∀ j, j < n → (0 ≤ E (j + 1) ∧ E (j + 1) < N) ∧ (-1 ≤ F (j + 1) ∧ F (j + 1) < N) ∧ zo_flw em ef et er gn gt ln lt mo (A j) (Z j) (E (j + 1)) (F (j + 1)) (A (j + 1)) (Z (j + 1))) ∧ ∀ j, j ≤ n → zo_Z 16016 16016 32015 (Z j) ∧ zr_hp (A j)
section ZRR
variable {N : Int} {em ef et er gn gt ln lt mo E F : Nat → Int} {A Z : Nat → Nat → Int} {n : Nat}
theorem zr_g2 {G : Int} {m : Nat} {e f : Int} {z c u u' : Nat → Int} (hz : zo_Z 16016 16016 32015 z) (hg : zr_hg N gn gt) (hl : zr_hl ln lt) (hm : zr_hm N gn gt ln lt mo) (he : 0 ≤ e ∧ e < N) (hf : -1 ≤ f ∧ f < N) (h : zo_g2 gn gt e f z c) (hG : 2 * zr_p m ≤ G) : (∃ L, zo_Z 16016 18018 L c) ∧ (zq_in G (zr_p m) zq_all u c → u 0 = 0 → zq_in G (zr_p m) zq_all u z ∧ (zq_sim G mo u u' → zr_gu G 1 gn gt e f u')) := by
  have p1 := zr_p1 m
  obtain ⟨c1, g1, r⟩ := h
  have hz' := hz.mono (Int.le_refl _) (show (16016 : Int) ≤ 18018 by omega) (Int.le_refl _)
  obtain ⟨L1, z1⟩ := zr_GZ hz' (hg e he.1 he.2).2 (hg e he.1 he.2).1 g1 (by omega) (by omega)
  rcases r with ⟨rf, re⟩ | ⟨rf, g2⟩
  · refine ⟨⟨L1, z1.congr (fun k hk => (re k hk).symm)⟩, fun hu h0 => ?_⟩
    have u1 := hu.up (z' := c1) (fun k hk => by rw [re k hk]; exact Int.le_refl _) (by omega)
    refine ⟨u1.up g1.2.1.1 (by omega), fun q => ⟨?_, fun x => absurd rf x⟩⟩
    exact (zr_ts.of g1.2.1.2 (hg e he.1 he.2).2 u1 h0 (by omega)).sim (hg e he.1 he.2).2 (zr_Mg hm hg he.1 he.2) (by omega) q
  · have tf := hg f (by omega) hf.2
    obtain ⟨L2, z2⟩ := zr_GZ z1 tf.2 tf.1 g2 (by omega) (by omega)
    refine ⟨⟨L2, z2⟩, fun hu h0 => ?_⟩
    have u1 := hu.up g2.2.1.1 (by omega)
    refine ⟨u1.up g1.2.1.1 (by omega), fun q => ⟨?_, fun _ => ?_⟩⟩
    · exact (zr_ts.of g1.2.1.2 (hg e he.1 he.2).2 u1 h0 (by omega)).sim (hg e he.1 he.2).2 (zr_Mg hm hg he.1 he.2) (by omega) q
    · exact (zr_ts.of g2.2.1.2 tf.2 hu h0 (by omega)).sim tf.2 (zr_Mg hm hg (by omega) hf.2) (by omega) q
theorem zr_run (h : zr_ch N em ef et er gn gt ln lt mo E F A Z n) (hg : zr_hg N gn gt) (hl : zr_hl ln lt) (hm : zr_hm N gn gt ln lt mo) : ∀ k, k ≤ n → ∀ m, 8 * (k + 1) ≤ m → ∀ (G : Int) (v : Nat → Int), 2 * zr_p m ≤ G → v 0 = 0 → zq_in G (zr_p m) zq_all v (Z k) → ∃ (t : Nat → Int) (T : Int), zr_F G 1 er gn gt ln lt E F A k t ∧ t 0 = 0 ∧ t k ≤ T ∧ zr_li G 1 ln lt (A k) (fun x => T - t (zr_ls er E F x k)) ∧ zq_sim G mo v (fun x => T - t (zr_ls er E F x k)) := by
  intro k
  induction k with
  | zero =>
    intro _ m hk G v hG h0 hv
    obtain ⟨m', rfl⟩ : ∃ m', m = m' + 4 := ⟨m - 4, by omega⟩
    have p1 := zr_p1 m'
    have e1 : zr_p (m' + 1) = 2 * zr_p (m') := rfl
    have e2 : zr_p (m' + 2) = 2 * zr_p (m' + 1) := rfl
    have e3 : zr_p (m' + 3) = 2 * zr_p (m' + 2) := rfl
    have e4 : zr_p (m' + 4) = 2 * zr_p (m' + 3) := rfl
    have z1 : zo_Z 18018 20020 32015 (fun _ => 1) := zo_one_Z.mono (by omega) (by omega) (Int.le_refl _)
    obtain ⟨v1, v0, a, s1, a0, v00, i0, ev, l0, l1⟩ := zr_st z1 (h.2.2 0 (by omega)).2 hl hm h.1 hG hv h0
    have e0 : ∀ x, x < 4 → v0 x = 0 := fun x hx => by
      have q1 := (i0 x 0 hx (by omega) trivial trivial (show (1 : Int) < 100000 by decide)).1 (show (1 : Int) % 2 = 1 by decide)
      have q2 := (i0 0 x (by omega) hx trivial trivial (show (1 : Int) < 100000 by decide)).1 (show (1 : Int) % 2 = 1 by decide)
      dsimp only at q1 q2
      rw [show (1 : Int) / 2 = 0 by decide, Int.mul_zero] at q1 q2
      omega
    have sv : zq_sim G mo v1 (fun _ => a - 0) := fun x h1 h4 => Or.inl (by rw [ev x h1 h4, e0 x h4]; show 0 + a = a - 0; omega)
    exact ⟨fun _ => 0, a, fun j hj => absurd hj (by omega), rfl, a0, l1.sim hm hl (h.2.2 0 (by omega)).2 (by omega) sv, s1.tr sv⟩
  | succ k ih =>
    intro hk m hm8 G v hG h0 hv
    obtain ⟨m', rfl⟩ : ∃ m', m = m' + 3 + 4 := ⟨m - 7, by omega⟩
    have p1 := zr_p1 m'
    have e1 : zr_p (m' + 1) = 2 * zr_p (m') := rfl
    have e2 : zr_p (m' + 2) = 2 * zr_p (m' + 1) := rfl
    have e3 : zr_p (m' + 3) = 2 * zr_p (m' + 2) := rfl
    have e4 : zr_p (m' + 3 + 1) = 2 * zr_p (m' + 3) := rfl
    have e5 : zr_p (m' + 3 + 2) = 2 * zr_p (m' + 3 + 1) := rfl
    have e6 : zr_p (m' + 3 + 3) = 2 * zr_p (m' + 3 + 2) := rfl
    have e7 : zr_p (m' + 3 + 4) = 2 * zr_p (m' + 3 + 3) := rfl
    obtain ⟨he, hf, _, ⟨c, g2, st⟩, hpl⟩ := h.2.1 k (by omega)
    have zk := h.2.2 k (by omega)
    have zk1 := h.2.2 (k + 1) (by omega)
    have g2' := fun u u' => zr_g2 (m := m') (u := u) (u' := u') zk.1 hg hl hm he hf g2 (show 2 * zr_p m' ≤ G by omega)
    obtain ⟨Lc, zc⟩ := (g2' v v).1
    obtain ⟨v1, v0, a, s1, a0, v00, i0, ev, l0, l1⟩ := zr_st (m := m' + 3) ((zo_set_Z (zc.flat (by omega))).mono (Int.le_refl _) (by omega) (Int.le_refl _)) zk1.2 hl hm st hG hv h0
    obtain ⟨u, u0, iu, eu⟩ := zq_set (s1 := zr_p (m' + 2)) (s2 := zr_p (m' + 1)) (s3 := zr_p m') zc (by omega) (by omega) (by omega) v00 i0
    have gu := fun u' => (g2' u u').2 iu u0
    obtain ⟨t, T, fF, t0, tk, lk, sk⟩ := ih (by omega) m' (by omega) G u (by omega) u0 (gu u).1
    have lsle := fun x j => zr_ls_le er E F x j
    have up : ∀ j, j ≤ k → va_up t (k + 1) T j = t j := fun j hj => if_neg (by omega)
    have upS : va_up t (k + 1) T (k + 1) = T := if_pos rfl
    have uj : ∀ i j, i ≤ k → j ≤ k → zr_u er E F (va_up t (k + 1) T) i j = zr_u er E F t i j := fun i j hi hj => by
      funext x
      unfold zr_u
      rw [up j hj, up _ (Nat.le_trans (lsle x i) hi)]
    have uk : zr_u er E F (va_up t (k + 1) T) k (k + 1) = fun x => T - t (zr_ls er E F x k) := by
      funext x
      unfold zr_u
      rw [upS, up _ (lsle x k)]
    have sv0 : zq_sim G mo v0 (zr_u er E F (va_up t (k + 1) T) (k + 1) (k + 1)) := fun x h1 h4 => by
      unfold zr_u
      rw [upS]
      unfold zr_ls
      by_cases c : z_btv (z_or er (E (k + 1)) (F (k + 1))) x ≠ 0
      · rw [if_pos c, upS]
        exact Or.inl (by rw [(eu x h1 h4).1 c]; omega)
      · rw [if_neg c, up _ (lsle x k), ← (eu x h1 h4).2 (by omega)]
        exact sk x h1 h4
    have sv1 : zq_sim G mo v1 (fun x => (T + a) - va_up t (k + 1) T (zr_ls er E F x (k + 1))) := fun x h1 h4 => by
      have q := sv0 x h1 h4
      simp only [zr_u, upS] at q
      rw [ev x h1 h4]
      dsimp only
      rcases q with q | q
      · exact Or.inl (by omega)
      · exact Or.inr (by omega)
    refine ⟨va_up t (k + 1) T, T + a, fun j hj => ?_, up 0 (by omega) ▸ t0, by rw [upS]; omega, l1.sim hm hl zk1.2 (by omega) sv1, s1.tr sv1⟩
    by_cases c : j = k
    · subst c
      rw [up j (Nat.le_refl _), upS, uk]
      exact ⟨tk, (gu _).2 sk, lk, l0.sim hm hl zk1.2 (by omega) sv0⟩
    · rw [up j (by omega), up (j + 1) (by omega), uj j (j + 1) (by omega) (by omega), uj (j + 1) (j + 1) (by omega) (by omega)]
      exact fF j (by omega)
theorem zr_feas (h : zr_ch N em ef et er gn gt ln lt mo E F A Z n) (hg : zr_hg N gn gt) (hl : zr_hl ln lt) (hm : zr_hm N gn gt ln lt mo) : ∃ (G : Int) (t : Nat → Int), 0 < G ∧ zr_F G 1 er gn gt ln lt E F A n t ∧ t 0 = 0 := by
  have zn := (h.2.2 n (Nat.le_refl _)).1
  have p1 := zr_p1 (8 * (n + 1))
  have e1 : zr_p (8 * (n + 1) + 1) = 2 * zr_p (8 * (n + 1)) := rfl
  have e2 : zr_p (8 * (n + 1) + 2) = 2 * zr_p (8 * (n + 1) + 1) := rfl
  have e3 : zr_p (8 * (n + 1) + 3) = 2 * zr_p (8 * (n + 1) + 2) := rfl
  obtain ⟨v, v0, iv⟩ := zq_pt (G := zr_p (8 * (n + 1) + 3)) (s := zr_p (8 * (n + 1) + 3)) (s1 := zr_p (8 * (n + 1) + 2)) (s2 := zr_p (8 * (n + 1) + 1)) (s3 := zr_p (8 * (n + 1))) zn.1 (zq_U.of zn (by omega) (by omega)) (fun j hj => (zn.2.2 j hj).2) (by omega)
  obtain ⟨t, T, fF, t0, _⟩ := zr_run h hg hl hm n (Nat.le_refl _) _ (Nat.le_refl _) (zr_p (8 * (n + 1) + 3)) v (by omega) v0 iv
  exact ⟨_, t, by omega, fF, t0⟩
end ZRR
