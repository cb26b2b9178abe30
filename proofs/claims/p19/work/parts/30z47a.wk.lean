/-! states as they were met: each has a way, and its way has times -/
section ZFL
variable {em ef et er gn gt ln lt mo pl z p q p' q' c c' at0 at1 : Nat → Int} {e f : Int}
theorem zo_settle.cg (h : zo_settle ln lt at0 mo z c) (r : ∀ k, k < 16 → c k = c' k) : zo_settle ln lt at0 mo z c' := let ⟨d, g, d2, g2, g3⟩ := h; ⟨d, g, d2, g2, g3.congr (zo_le.dc _) r⟩
theorem zo_settle.ata (h : zo_settle ln lt at0 mo z c) (r : ∀ m, m < 3 → at0 m = at1 m) : zo_settle ln lt at1 mo z c := let ⟨d, g, d2, g2, g3⟩ := h; ⟨d, g.iff (fun w _ => by rw [zo_sl_pt r w]), d2, g2.iff (fun w _ => by rw [zo_sl_pt r w]), g3⟩
theorem zo_flw.cg (h : zo_flw em ef et er gn gt ln lt mo pl z e f p q) (r : ∀ m, m < 3 → p m = p' m) (r' : ∀ k, k < 16 → q k = q' k) : zo_flw em ef et er gn gt ln lt mo pl z e f p' q' := let ⟨h1, ⟨d, h2, h3⟩, h4⟩ := h; ⟨h1, ⟨d, h2, (h3.ata r).cg r'⟩, fun m hm => (r m hm).symm.trans (h4 m hm)⟩
theorem zo_nx_flw (h : zo_nx em ef et er gn gt ln lt mo pl z e f = some (p, q)) : zo_flw em ef et er gn gt ln lt mo pl z e f p q := by
  unfold zo_nx at h
  by_cases x : ∃ p : zo_PZ, zo_flw em ef et er gn gt ln lt mo pl z e f p.1 p.2
  · rw [dif_pos x] at h
    have a := Prod.mk.inj (Option.some.inj h)
    rw [← a.1, ← a.2]
    exact (Classical.choose_spec x).cg (fun m hm => (zo_n3_at hm).symm) (fun k hk => (zo_n16_at hk).symm)
  · rw [dif_neg x] at h
    cases h
end ZFL
/-- how each state of a list was met -/
def zo_wk (N : Int) (em ef et ec er gn gt ln lt mo : Nat → Int) (L : List zo_S) : Prop := ∀ (i : Nat) (s : zo_S), L[i]? = some s → (s.2.2.2.2.2 = 0 ∧ zo_settle ln lt s.1 mo (fun _ => 1) s.2.1) ∨ ∃ (p : Nat) (r : zo_S), p < i ∧ s.2.2.1 = (p : Int) ∧ L[p]? = some r ∧ s.2.2.2.2.2 = r.2.2.2.2.2 + 1 ∧ ((0 ≤ s.2.2.2.1 ∧ s.2.2.2.1 < N) ∧ -1 ≤ s.2.2.2.2.1 ∧ s.2.2.2.2.1 < N) ∧ z_isM s.2.2.2.1 s.2.2.2.2.1 em ec ∧ zo_nx em ef et er gn gt ln lt mo r.1 r.2.1 s.2.2.2.1 s.2.2.2.2.1 = some (s.1, s.2.1)
section ZWK
variable {N n : Int} {em ef et ec er gn gt ln lt mo : Nat → Int} {L : List zo_S}
def zo_pm (N : Int) (em ec : Nat → Int) (mv : Int × Int) : Prop := ((0 ≤ mv.1 ∧ mv.1 < N) ∧ -1 ≤ mv.2 ∧ mv.2 < N) ∧ z_isM mv.1 mv.2 em ec
theorem zo_wk_L0 : zo_wk N em ef et ec er gn gt ln lt mo (zo_L0 ln lt mo) := by
  intro i s h
  unfold zo_L0 zo_ini at h
  by_cases x : ∃ c, zo_settle ln lt (fun _ => 0) mo (fun _ => 1) c
  · rw [dif_pos x] at h
    cases i with
    | zero =>
      have e := Option.some.inj h
      subst e
      exact Or.inl ⟨rfl, ((Classical.choose_spec x).cg (fun k hk => (zo_n16_at hk).symm)).ata (fun m hm => (zo_n3_at (f := fun _ => 0) hm).symm)⟩
    | succ i => simp at h
  · rw [dif_neg x] at h
    simp at h
theorem zo_wk_stp {i : Nat} {mv : Int × Int} {L' : List zo_S} (hp : zo_pm N em ec mv) (h : zo_wk N em ef et ec er gn gt ln lt mo L) (q : zo_stp (zo_nx em ef et er gn gt ln lt mo) n i L mv = some L') : zo_wk N em ef et ec er gn gt ln lt mo L' := by
  unfold zo_stp at q
  cases hs : L[i]? with
  | none => rw [hs] at q; cases q; exact h
  | some s =>
    rw [hs] at q
    simp only [] at q
    by_cases c4 : 40 ≤ s.2.2.2.2.2
    · rw [if_pos c4] at q; cases q; exact h
    · rw [if_neg c4] at q
      cases hx : zo_nx em ef et er gn gt ln lt mo s.1 s.2.1 mv.1 mv.2 with
      | none => rw [hx] at q; cases q; exact h
      | some p =>
        rw [hx] at q
        simp only [] at q
        by_cases cc : zo_cov L p.1 p.2
        · rw [if_pos cc] at q; cases q; exact h
        · rw [if_neg cc] at q
          by_cases cn : n ≤ (L.length : Int)
          · rw [if_pos cn] at q; cases q
          · rw [if_neg cn] at q
            have e := Option.some.inj q
            subst e
            have hi : i < L.length := by
              have := (List.getElem?_eq_some_iff.mp hs).1
              exact this
            intro j t ht
            by_cases cj : j < L.length
            · rw [List.getElem?_append_left cj] at ht
              rcases h j t ht with a | ⟨p0, r, a1, a2, a3, a4⟩
              · exact Or.inl a
              · exact Or.inr ⟨p0, r, a1, a2, by rw [List.getElem?_append_left (by omega)]; exact a3, a4⟩
            · rw [List.getElem?_append_right (by omega)] at ht
              have j0 : j - L.length = 0 := by
                by_cases z : j - L.length = 0
                · exact z
                · rw [List.getElem?_eq_none (by simp; omega)] at ht
                  cases ht
              rw [j0] at ht
              have e := Option.some.inj ht
              subst e
              exact Or.inr ⟨i, s, by omega, rfl, by rw [List.getElem?_append_left hi]; exact hs, rfl, hp.1, hp.2, hx⟩
theorem zo_wk_go {i : Nat} : ∀ (mvs : List (Int × Int)) (L : List zo_S), (∀ mv ∈ mvs, zo_pm N em ec mv) → zo_wk N em ef et ec er gn gt ln lt mo L → zo_wk N em ef et ec er gn gt ln lt mo (zo_go (zo_nx em ef et er gn gt ln lt mo) n i mvs L).1 := by
  intro mvs
  induction mvs with
  | nil => exact fun L _ h => h
  | cons mv r ih =>
    intro L hp h
    unfold zo_go
    cases hq : zo_stp (zo_nx em ef et er gn gt ln lt mo) n i L mv with
    | none => exact h
    | some L' => exact ih L' (fun x hx => hp x (List.mem_cons_of_mem _ hx)) (zo_wk_stp (hp mv List.mem_cons_self) h hq)
theorem zo_wk_run {mvs : List (Int × Int)} (hp : ∀ mv ∈ mvs, zo_pm N em ec mv) : ∀ (t i : Nat) (L : List zo_S), zo_wk N em ef et ec er gn gt ln lt mo L → zo_wk N em ef et ec er gn gt ln lt mo (zo_run (zo_nx em ef et er gn gt ln lt mo) n mvs t i L).1 := by
  intro t
  induction t with
  | zero => exact fun i L h => h
  | succ t ih =>
    intro i L h
    unfold zo_run
    by_cases c : i < L.length
    · rw [if_pos c]
      by_cases d : (zo_go (zo_nx em ef et er gn gt ln lt mo) n i mvs L).2 = true
      · rw [if_pos d]
        exact zo_wk_go mvs L hp h
      · rw [if_neg d]
        exact ih (i + 1) _ (zo_wk_go mvs L hp h)
    · rw [if_neg c]
      exact h
theorem zo_pm_mv {mc : Int} {mf ms : Nat → Int} (h : z_ml N mc mf ms em ec) : ∀ mv ∈ zo_mv mc mf ms 0, zo_pm N em ec mv := by
  intro mv hm
  unfold zo_mv at hm
  rw [List.mem_map] at hm
  obtain ⟨t, ht, rfl⟩ := hm
  have hl := List.mem_range.mp ht
  have q := (h.2 (mf t) (ms t)).mp ⟨t, by omega, by omega, rfl, rfl⟩
  have e : (0 : Int).toNat + t = t := by show 0 + t = t; omega
  rw [e]
  exact ⟨⟨⟨q.1.1, q.1.2.1⟩, q.1.2.2.1, q.1.2.2.2⟩, q.2⟩
end ZWK
section ZWC
variable {N S : Int} {em ef et ec er gn gt ln lt mo pl zn pa me mf mv : Nat → Int} {i : Int}
abbrev zw_u (pa mv : Nat → Int) (i : Int) (k : Nat) : Int := z_up pa (mv i.toNat - (k : Int)).toNat i
theorem zw_ur (hc : z_ch S pa mv me) (hi : 0 ≤ i ∧ i < S) : ∀ k : Nat, (k : Int) ≤ mv i.toNat → (0 ≤ zw_u pa mv i k ∧ zw_u pa mv i k < S) ∧ mv (zw_u pa mv i k).toNat = k := by
  intro k hk
  have q := z_up_eq hc hi (fun _ _ => rfl) (mv i.toNat - (k : Int)).toNat (by omega)
  exact ⟨q.2.1, by rw [q.2.2]; omega⟩
theorem zw_up (k : Nat) (hk : (k : Int) + 1 ≤ mv i.toNat) : pa (zw_u pa mv i (k + 1)).toNat = zw_u pa mv i k := by
  show pa (z_up pa (mv i.toNat - ((k + 1 : Nat) : Int)).toNat i).toNat = z_up pa (mv i.toNat - (k : Int)).toNat i
  rw [show (mv i.toNat - (k : Int)).toNat = (mv i.toNat - ((k + 1 : Nat) : Int)).toNat + 1 by omega]
  rfl
theorem zw_ch (hc : z_ch S pa mv me) (hmv : ∀ j, 0 ≤ mv j) (hw : zo_wk N em ef et ec er gn gt ln lt mo (zo_ab S (zo_sM pl zn pa me mf mv))) (hZ : ∀ i : Nat, (i : Int) < S → zo_Z 16016 16016 32015 (fun k => zn (16 * i + k))) (hp : ∀ j, 0 ≤ pl j ∧ pl j ≤ 5) (hi : 0 ≤ i ∧ i < S) :
    zr_ch N em ef et er gn gt ln lt mo (zw_E pa me (mv i.toNat) i) (zw_E pa mf (mv i.toNat) i) (fun k => zo_n3 (fun m => pl (3 * (zw_u pa mv i k).toNat + m))) (fun k => zo_n16 (fun q => zn (16 * (zw_u pa mv i k).toNat + q))) (mv i.toNat).toNat ∧ ∀ j, j < (mv i.toNat).toNat → z_isM (zw_E pa me (mv i.toNat) i (j + 1)) (zw_E pa mf (mv i.toNat) i (j + 1)) em ec := by
  have hM := hmv i.toNat
  have ur := zw_ur hc hi
  have st : ∀ k : Nat, (k : Int) ≤ mv i.toNat → (zo_ab S (zo_sM pl zn pa me mf mv))[(zw_u pa mv i k).toNat]? = some (zo_sM pl zn pa me mf mv (zw_u pa mv i k).toNat) := fun k hk => zo_ab_at (by have := (ur k hk).1; omega)
  have step : ∀ j : Nat, j < (mv i.toNat).toNat → (((0 ≤ me (zw_u pa mv i (j + 1)).toNat ∧ me (zw_u pa mv i (j + 1)).toNat < N) ∧ -1 ≤ mf (zw_u pa mv i (j + 1)).toNat ∧ mf (zw_u pa mv i (j + 1)).toNat < N) ∧ z_isM (me (zw_u pa mv i (j + 1)).toNat) (mf (zw_u pa mv i (j + 1)).toNat) em ec) ∧ zo_nx em ef et er gn gt ln lt mo (zo_n3 (fun m => pl (3 * (zw_u pa mv i j).toNat + m))) (zo_n16 (fun q => zn (16 * (zw_u pa mv i j).toNat + q))) (me (zw_u pa mv i (j + 1)).toNat) (mf (zw_u pa mv i (j + 1)).toNat) = some (zo_n3 (fun m => pl (3 * (zw_u pa mv i (j + 1)).toNat + m)), zo_n16 (fun q => zn (16 * (zw_u pa mv i (j + 1)).toNat + q))) := by
    intro j hj
    have u1 := ur (j + 1) (by omega)
    rcases hw _ _ (st (j + 1) (by omega)) with a | ⟨p, r, _, a2, a3, _, a5, a6, a7⟩
    · have z : mv (zw_u pa mv i (j + 1)).toNat = 0 := a.1
      omega
    · have e1 : pa (zw_u pa mv i (j + 1)).toNat = (p : Int) := a2
      rw [zw_up (pa := pa) (mv := mv) (i := i) j (by omega)] at e1
      have e2 : p = (zw_u pa mv i j).toNat := by omega
      rw [e2, st j (by omega)] at a3
      have e3 := Option.some.inj a3
      subst e3
      exact ⟨⟨a5, a6⟩, a7⟩
  refine ⟨⟨?_, fun j hj => ⟨(step j hj).1.1.1, (step j hj).1.1.2, zo_nx_flw (step j hj).2⟩, fun j hj => ⟨?_, ?_⟩⟩, fun j hj => (step j hj).1.2⟩
  · have u0 := ur 0 (by omega)
    rcases hw _ _ (st 0 (by omega)) with a | ⟨p, r, a1, a2, a3, a4, _⟩
    · exact a.2
    · have b : r = zo_sM pl zn pa me mf mv p := by
        have q := zo_ab_at (N := S) (st := zo_sM pl zn pa me mf mv) (i := p) (by omega)
        rw [q] at a3
        exact (Option.some.inj a3).symm
      subst b
      have m1 : mv (zw_u pa mv i 0).toNat = mv p + 1 := a4
      have m2 := hmv p
      omega
  · exact (hZ (zw_u pa mv i j).toNat (by have := (ur j (by omega)).1; omega)).congr (fun k hk => (zo_n16_at (f := fun q => zn (16 * (zw_u pa mv i j).toNat + q)) hk).symm)
  · intro m m0 m1
    have e : zo_n3 (fun m => pl (3 * (zw_u pa mv i j).toNat + m)) m.toNat = pl (3 * (zw_u pa mv i j).toNat + m.toNat) := zo_n3_at (f := fun m => pl (3 * (zw_u pa mv i j).toNat + m)) (by omega)
    have h := hp (3 * (zw_u pa mv i j).toNat + m.toNat)
    rw [← e] at h
    exact h
theorem zw_feas (hc : z_ch S pa mv me) (hmv : ∀ j, 0 ≤ mv j ∧ mv j ≤ 40) (hw : zo_wk N em ef et ec er gn gt ln lt mo (zo_ab S (zo_sM pl zn pa me mf mv))) (hZ : ∀ i : Nat, (i : Int) < S → zo_Z 16016 16016 32015 (fun k => zn (16 * i + k))) (hp : ∀ j, 0 ≤ pl j ∧ pl j ≤ 5) (hg : zr_hg N gn gt) (hl : zr_hl ln lt) (hm : zr_hm N gn gt ln lt mo) (hi : 0 ≤ i ∧ i < S) : zw_ex N er gn gt ln lt pa me mf (fun j m => pl (3 * j + m)) (mv i.toNat) i ∧ ∀ j, j < (mv i.toNat).toNat → z_isM (zw_E pa me (mv i.toNat) i (j + 1)) (zw_E pa mf (mv i.toNat) i (j + 1)) em ec := by
  obtain ⟨ch, im⟩ := zw_ch hc (fun j => (hmv j).1) hw hZ hp hi
  refine ⟨?_, im⟩
  obtain ⟨G, t, hG, hF, t0⟩ := zr_feas ch hg hl hm
  have h40 := (hmv i.toNat).2
  obtain ⟨q, qF, q0⟩ := hF.rd hG (by omega) t0
  have eK : zs_Kr er gn gt ln lt (zw_E pa me (mv i.toNat) i) (zw_E pa mf (mv i.toNat) i) (fun k => zo_n3 (fun m => pl (3 * (zw_u pa mv i k).toNat + m))) (mv i.toNat).toNat = zw_K er gn gt ln lt pa me mf (fun j m => pl (3 * j + m)) (mv i.toNat) i := zs_Kr_congr (fun _ _ => rfl) (fun _ _ => rfl) (fun k _ m hm => zo_n3_at (f := fun m => pl (3 * (zw_u pa mv i k).toNat + m)) hm)
  have hS := zs_Kr_S.mpr qF
  rw [eK] at hS
  have qn : zs_nn (mv i.toNat).toNat q := by
    intro v
    induction v with
    | zero => intro _; rw [q0]; exact Int.le_refl _
    | succ v ih =>
      intro hv
      have := ih (by omega)
      have := (qF v (by omega)).1
      omega
  obtain ⟨L, hL⟩ := zs_L.ex hS qn
  have hE : ∀ j, j < (mv i.toNat).toNat → (0 ≤ zw_E pa me (mv i.toNat) i (j + 1) ∧ zw_E pa me (mv i.toNat) i (j + 1) < N) ∧ -1 ≤ zw_E pa mf (mv i.toNat) i (j + 1) ∧ zw_E pa mf (mv i.toNat) i (j + 1) < N := fun j hj => ⟨(ch.2.1 j hj).1, (ch.2.1 j hj).2.1⟩
  have hP : ∀ j, j ≤ (mv i.toNat).toNat → zr_hp (zw_A pa (fun j m => pl (3 * j + m)) (mv i.toNat) i j) := fun j _ m m0 m1 => hp _
  refine ⟨L, zs_Kr_K hg hl hP hE, hL, ?_, hE, hP⟩
  have a := hL.2.2 q hS qn 0 (by omega)
  have b := hL.2.1 0 (by omega)
  omega
end ZWC
