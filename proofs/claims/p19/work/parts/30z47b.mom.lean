/-! moment: what the law keeps of it, and that both sides answer alike -/
def zw_W (mn S N : Int) (em ef et ec er gn gt ln lt pl zn pa me mf mv : Nat → Int) : Prop := mn = 0 → ∃ mo, zr_hm N gn gt ln lt mo ∧ zo_wk N em ef et ec er gn gt ln lt mo (zo_ab S (zo_sM pl zn pa me mf mv))
theorem z_sel10 {P : Prop} [Decidable P] {m : Int} (h : z_sel P 1 m = 0) : ¬ P ∧ m = 0 := by
  by_cases q : P
  · rw [z_sel_pos q] at h
    omega
  · rw [z_sel_neg q] at h
    exact ⟨q, h⟩
section ZWW
variable {cn ct cz mn mx S N : Int} {em ef et ec er gn gt ln lt sf sb pl zn pa me mf mv : Nat → Int} {i k z z' : Int}
theorem zw_W.one : zw_W 1 S N em ef et ec er gn gt ln lt pl zn pa me mf mv := fun q => absurd q (by decide)
theorem zw_W.of {mn' S' N' : Int} {em' ef' et' ec' er' gn' gt' ln' lt' : Nat → Int} (h : zw_W mn S N em ef et ec er gn gt ln lt pl zn pa me mf mv) (q : mn' = 0 → mn = 0 ∧ S' = S ∧ N' = N ∧ em' = em ∧ ef' = ef ∧ et' = et ∧ ec' = ec ∧ er' = er ∧ gn' = gn ∧ gt' = gt ∧ ln' = ln ∧ lt' = lt) : zw_W mn' S' N' em' ef' et' ec' er' gn' gt' ln' lt' pl zn pa me mf mv := fun r => by
  obtain ⟨a, rfl, rfl, rfl, rfl, rfl, rfl, rfl, rfl, rfl, rfl, rfl⟩ := q r
  exact h a
theorem zw_W.exp {mn' mx' S' n mc : Int} {f1 s1 mo pl' zn' pa' me' mf' mv' : Nat → Int} {V ZS : Prop} (h : zw_W mn S N em ef et ec er gn gt ln lt pl zn pa me mf mv) (hML : z_ml N mc f1 s1 em ec) (hm : zr_hm N gn gt ln lt mo)
    (h2 : (¬ V ∧ z' = -102 ∧ mx' = mx ∧ mn' = mn ∧ S' = S ∧ pl' = pl ∧ zn' = zn ∧ pa' = pa ∧ me' = me ∧ mf' = mf ∧ mv' = mv) ∨ (V ∧ mx = 40 ∧ z' = -104 ∧ mx' = mx ∧ mn' = mn ∧ S' = S ∧ pl' = pl ∧ zn' = zn ∧ pa' = pa ∧ me' = me ∧ mf' = mf ∧ mv' = mv) ∨ (V ∧ mx ≠ 40 ∧ (mx' = mx + 1 ∧ mn' = 0 ∧ ZS ∧ ((zo_run (zo_nx em ef et er gn gt ln lt mo) n (zo_mv mc f1 s1 0) 121 0 (zo_L0 ln lt mo) = (zo_ab S' (zo_sM pl' zn' pa' me' mf' mv'), false) ∧ z' = S') ∨ (zo_run (zo_nx em ef et er gn gt ln lt mo) n (zo_mv mc f1 s1 0) 121 0 (zo_L0 ln lt mo) = (zo_ab S' (zo_sM pl' zn' pa' me' mf' mv'), true) ∧ z' = -1 - n))))) : zw_W mn' S' N em ef et ec er gn gt ln lt pl' zn' pa' me' mf' mv' := by
  rcases h2 with ⟨_, _, rfl, rfl, rfl, rfl, rfl, rfl, rfl, rfl, rfl⟩ | ⟨_, _, _, rfl, rfl, rfl, rfl, rfl, rfl, rfl, rfl, rfl⟩ | ⟨_, _, _, _, _, r⟩
  · exact h
  · exact h
  · intro _
    refine ⟨mo, hm, ?_⟩
    have q := zo_wk_run (n := n) (zo_pm_mv hML) 121 0 _ (zo_wk_L0 (N := N) (em := em) (ef := ef) (et := et) (ec := ec) (er := er) (gn := gn) (gt := gt) (ln := ln) (lt := lt) (mo := mo))
    rcases r with ⟨r, _⟩ | ⟨r, _⟩ <;> (rw [r] at q; exact q)
theorem zw_W.ex1 (W : zw_W mn S N em ef et ec er gn gt ln lt pl zn pa me mf mv) (EX : z_EX cn ct cz sf sb mn mx S pl zn pa me mf mv) (hc : z_ch S pa mv me) (hmv : ∀ j, 0 ≤ mv j ∧ mv j ≤ 40) (hp : ∀ j, 0 ≤ pl j ∧ pl j ≤ 5) (hg : zr_hg N gn gt) (hl : zr_hl ln lt) : mn = 0 → 0 ≤ i → i < S → zw_ex N er gn gt ln lt pa me mf (fun j m => pl (3 * j + m)) (mv i.toNat) i ∧ ∀ j, j < (mv i.toNat).toNat → z_isM (zw_E pa me (mv i.toNat) i (j + 1)) (zw_E pa mf (mv i.toNat) i (j + 1)) em ec := fun q h0 h1 => by
  obtain ⟨mo, hm, hw⟩ := W q
  exact zw_feas hc hmv hw (EX.2.2.2 q).2.2 hp hg hl hm ⟨h0, h1⟩
theorem zw_W.exM (W : zw_W mn S N em ef et ec er gn gt ln lt pl zn pa me mf mv) (EX : z_EX cn ct cz sf sb mn mx S pl zn pa me mf mv) (hc : z_ch S pa mv me) (hmv : ∀ j, 0 ≤ mv j ∧ mv j ≤ 40) (hp : ∀ j, 0 ≤ pl j ∧ pl j ≤ 5) (hg : zr_hg N gn gt) (hl : zr_hl ln lt) : mn = 0 → 0 ≤ i → i < S → zw_ex N er gn gt ln lt pa me mf (fun j m => pl (3 * j + m)) (mv i.toNat) i := fun q h0 h1 => (W.ex1 EX hc hmv hp hg hl q h0 h1).1
/-- the two sides' ways ask alike -/
theorem zw_al (SR : zo_SR S sf sb pl zn pa me mf mv) (hc : z_ch S pa mv me) (hi : 0 ≤ i ∧ i < S) (hM : 0 ≤ mv i.toNat) : sf (i * 7 + 6 : Int).toNat = mv i.toNat ∧ ∀ k : Nat, k ≤ (mv i.toNat).toNat → zw_E (fun j => sf (7 * j + 3)) (fun j => sf (7 * j + 4)) (mv i.toNat) i k = zw_E pa me (mv i.toNat) i k ∧ zw_E (fun j => sf (7 * j + 3)) (fun j => sf (7 * j + 5)) (mv i.toNat) i k = zw_E pa mf (mv i.toNat) i k ∧ ∀ m, m < 3 → zw_A (fun j => sf (7 * j + 3)) (fun j m => sf (7 * j + m)) (mv i.toNat) i k m = zw_A pa (fun j m => pl (3 * j + m)) (mv i.toNat) i k m := by
  refine ⟨?_, fun k hk => ?_⟩
  · rw [show (i * 7 + 6 : Int).toNat = 7 * i.toNat + 6 by omega]
    exact (SR i.toNat (by omega)).2.2.2.2.2
  · obtain ⟨u1, u2, _⟩ := z_up_eq (pb := fun j => sf (7 * j + 3)) hc hi (fun j hj => (SR j hj).2.2.1.symm) (mv i.toNat - (k : Int)).toNat (by omega)
    have s := SR (z_up pa (mv i.toNat - (k : Int)).toNat i).toNat (by omega)
    refine ⟨?_, ?_, fun m hm => ?_⟩
    · show sf (7 * (z_up _ _ i).toNat + 4) = me _
      rw [← u1]
      exact s.2.2.2.1
    · show sf (7 * (z_up _ _ i).toNat + 5) = mf _
      rw [← u1]
      exact s.2.2.2.2.1
    · show sf (7 * (z_up _ _ i).toNat + m) = pl _
      rw [← u1]
      exact s.1 m hm
theorem zw_alK (SR : zo_SR S sf sb pl zn pa me mf mv) (hc : z_ch S pa mv me) (hi : 0 ≤ i ∧ i < S) (hM : 0 ≤ mv i.toNat) : zw_K er gn gt ln lt (fun j => sf (7 * j + 3)) (fun j => sf (7 * j + 4)) (fun j => sf (7 * j + 5)) (fun j m => sf (7 * j + m)) (mv i.toNat) i = zw_K er gn gt ln lt pa me mf (fun j m => pl (3 * j + m)) (mv i.toNat) i := by
  have a := (zw_al SR hc hi hM).2
  exact zs_Kr_congr (fun k hk => (a k hk).1) (fun k hk => (a k hk).2.1) (fun k hk => (a k hk).2.2)
theorem zw_W.exC {mc : Int} {f1 s1 : Nat → Int} (W : zw_W mn S N em ef et ec er gn gt ln lt pl zn pa me mf mv) (EX : z_EX cn ct cz sf sb mn mx S pl zn pa me mf mv) (hc : z_ch S pa mv me) (hmv : ∀ j, 0 ≤ mv j ∧ mv j ≤ 40) (hp : ∀ j, 0 ≤ pl j ∧ pl j ≤ 5) (hg : zr_hg N gn gt) (hl : zr_hl ln lt) (hML : z_ml N mc f1 s1 em ec) : cn = 0 → 0 ≤ i → i < cz → zw_ex N er gn gt ln lt (fun j => sf (7 * j + 3)) (fun j => sf (7 * j + 4)) (fun j => sf (7 * j + 5)) (fun j m => sf (7 * j + m)) (sf (i * 7 + 6 : Int).toNat) i ∧ ∀ j, j < (sf (i * 7 + 6 : Int).toNat).toNat → z_mem mc f1 s1 (zw_E (fun j => sf (7 * j + 3)) (fun j => sf (7 * j + 4)) (sf (i * 7 + 6 : Int).toNat) i (j + 1)) (zw_E (fun j => sf (7 * j + 3)) (fun j => sf (7 * j + 5)) (sf (i * 7 + 6 : Int).toNat) i (j + 1)) := by
  intro q h0 h1
  have q' : mn = 0 := EX.1.symm.trans q
  obtain ⟨eS, SR, _⟩ := EX.2.2.2 q'
  rw [eS] at SR
  have hi : 0 ≤ i ∧ i < S := by omega
  have hM := (hmv i.toNat).1
  obtain ⟨⟨L, a1, a2, a3, a4, a5⟩, im⟩ := W.ex1 EX hc hmv hp hg hl q' h0 hi.2
  obtain ⟨e1, al⟩ := zw_al SR hc hi hM
  have eK := zw_alK (er := er) (gn := gn) (gt := gt) (ln := ln) (lt := lt) SR hc hi hM
  rw [e1]
  refine ⟨⟨L, ?_, ?_, a3, fun j hj => ?_, fun j hj m m0 m1 => ?_⟩, fun j hj => ?_⟩
  · rw [eK]; exact a1
  · rw [eK]; exact a2
  · rw [(al (j + 1) (by omega)).1, (al (j + 1) (by omega)).2.1]; exact a4 j hj
  · rw [(al j hj).2.2 m.toNat (by omega)]; exact a5 j hj m m0 m1
  · rw [(al (j + 1) (by omega)).1, (al (j + 1) (by omega)).2.1]
    have r := a4 j hj
    exact (hML.2 _ _).mpr ⟨⟨r.1.1, r.1.2, r.2.1, r.2.2⟩, im j hj⟩
theorem z_EX.mo (EX : z_EX cn ct cz sf sb mn mx S pl zn pa me mf mv) (hc : z_ch S pa mv me) (hmv : ∀ j, 0 ≤ mv j ∧ mv j ≤ 40) (hx : mn = 0 → 0 ≤ i → i < S → zw_ex N er gn gt ln lt pa me mf (fun j m => pl (3 * j + m)) (mv i.toNat) i) (h1 : zw_R (zw_K er gn gt ln lt (fun j => sf (7 * j + 3)) (fun j => sf (7 * j + 4)) (fun j => sf (7 * j + 5)) (fun j m => sf (7 * j + m)) (sf (i * 7 + 6 : Int).toNat) i) i k cn cz (sf (i * 7 + 6 : Int).toNat) z) (h2 : zw_R (zw_K er gn gt ln lt pa me mf (fun j m => pl (3 * j + m)) (mv i.toNat) i) i k mn S (mv i.toNat) z') : z = z' := by
  obtain ⟨e1, _, _, h4⟩ := EX
  subst e1
  by_cases q : cn = 0
  · obtain ⟨eS, SR, _⟩ := h4 q
    subst eS
    by_cases hi : 0 ≤ i ∧ i < cz
    · have hM := (hmv i.toNat).1
      rw [(zw_al SR hc hi hM).1, zw_alK SR hc hi hM] at h1
      rcases h1 with ⟨a1, a2⟩ | ⟨a1, a2, a3⟩ | ⟨a1, a2⟩ <;> rcases h2 with ⟨b1, b2⟩ | ⟨b1, b2, b3⟩ | ⟨b1, b2⟩
      · omega
      · exact absurd q a1
      · exact absurd q a1
      · exact absurd q b1
      · omega
      · exact absurd b1.2 a2
      · exact absurd q b1
      · exact absurd a1.2 b2
      · obtain ⟨L, _, hL, _⟩ := hx q hi.1 hi.2
        rw [a2 L hL, b2 L hL]
    · have z1 : z = -101 := by
        rcases h1 with ⟨a1, a2⟩ | ⟨a1, a2, a3⟩ | ⟨a1, a2⟩
        · exact absurd q a1
        · exact a3
        · exact absurd a1.2.1 hi
      have z2 : z' = -101 := by
        rcases h2 with ⟨a1, a2⟩ | ⟨a1, a2, a3⟩ | ⟨a1, a2⟩
        · exact absurd q a1
        · exact a3
        · exact absurd a1.2.1 hi
      omega
  · have z1 : z = -103 := by
      rcases h1 with ⟨a1, a2⟩ | ⟨a1, a2, a3⟩ | ⟨a1, a2⟩
      · exact a2
      · exact absurd a1 q
      · exact absurd a1.1 q
    have z2 : z' = -103 := by
      rcases h2 with ⟨a1, a2⟩ | ⟨a1, a2, a3⟩ | ⟨a1, a2⟩
      · exact a2
      · exact absurd a1 q
      · exact absurd a1.1 q
    omega
/-- limits stay ceilings -/
theorem zs_lc.lim {P : Prop} [Decidable P] {ln2 lt2 : Nat → Int} (h : zs_lc ln lt) (q : P → zs_lc ln2 lt2) : zs_lc (if P then ln2 else ln) (if P then lt2 else lt) := by
  by_cases c : P
  · rw [if_pos c, if_pos c]; exact q c
  · rw [if_neg c, if_neg c]; exact h
theorem zs_lc.add (h : zs_lc ln lt) (hr : ∀ j, 0 ≤ ln j ∧ ln j ≤ 2) {m p x s c : Int} (q : z_lOK m p x s c (ln (6 * m + p).toNat)) : zs_lc (va_up ln (6 * m + p).toNat (ln (6 * m + p).toNat + 1)) (z_t3 lt (6 * (6 * m + p) + 3 * ln (6 * m + p).toNat) x s c) := by
  intro k k0 k1 j j0 j1
  have r1 := hr (6 * m + p).toNat
  have r2 := hr k.toNat
  unfold z_t3
  simp only [va_up] at j1 ⊢
  by_cases e : k.toNat = (6 * m + p).toNat
  · rw [if_pos e] at j1
    have ev : ln k.toNat = ln (6 * m + p).toNat := by rw [e]
    by_cases e2 : j = ln (6 * m + p).toNat
    · rw [if_neg (by omega), if_pos (by omega)]
      omega
    · rw [if_neg (by omega), if_neg (by omega), if_neg (by omega)]
      exact h k k0 k1 j j0 (by omega)
  · rw [if_neg e] at j1
    rw [if_neg (by omega), if_neg (by omega), if_neg (by omega)]
    exact h k k0 k1 j j0 j1
theorem zs_lc.no (q : ∀ j, j < 18 → ln j = 0) : zs_lc ln lt := fun k k0 k1 j j0 j1 => by
  rw [q k.toNat (by omega)] at j1
  omega
end ZWW
