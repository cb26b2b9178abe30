section ZRI
variable {nx : (Nat → Int) → (Nat → Int) → Int → Int → Option zo_PZ} {n N mc k e f i : Int} {mf ms : Nat → Int} {mvs rest : List (Int × Int)} {st st' : Nat → zo_S} {s : zo_S} {p : zo_PZ} {R : List zo_S × Bool} {t j : Nat} {P : Prop}
theorem zo_rI0 (RI : zo_run nx n (zo_mv mc mf ms 0) (121 - i).toNat i.toNat (zo_ab N st) = R) (h0 : 0 ≤ i) (h1 : i < 120) (hl : i < N) : zo_mid nx n (zo_mv mc mf ms 0) (120 - i).toNat i.toNat (zo_mv mc mf ms 0) (zo_ab N st) = R := by
  rw [show (121 - i).toNat = (120 - i).toNat + 1 by omega, zo_run_in] at RI
  · exact RI
  · have := zo_ab_len (N := N) (st := st) (by omega)
    omega
theorem zo_rI1 {L : List zo_S} (RM : zo_mid nx n mvs (120 - i).toNat i.toNat rest L = R) (hr : rest = []) (h0 : 0 ≤ i) : zo_run nx n mvs (121 - (i + 1)).toNat (i + 1).toNat L = R := by
  rw [hr, zo_mid_nil] at RM
  rw [show (121 - (i + 1)).toNat = (120 - i).toNat by omega, show (i + 1).toNat = i.toNat + 1 by omega]
  exact RM
theorem zo_rI2 {L : List zo_S} (RM : zo_mid nx n mvs (120 - i).toNat i.toNat rest L = R) (hs : L[i.toNat]? = some s) (h : 40 ≤ s.2.2.2.2.2) (h0 : 0 ≤ i) : zo_run nx n mvs (121 - (i + 1)).toNat (i + 1).toNat L = R := by
  rw [zo_mid_long hs h] at RM
  rw [show (121 - (i + 1)).toNat = (120 - i).toNat by omega, show (i + 1).toNat = i.toNat + 1 by omega]
  exact RM
theorem zo_rEnd (RI : zo_run nx n mvs t j (zo_ab N st) = R) (h : N ≤ (j : Int)) : R = (zo_ab N st, false) := by
  rw [← RI]
  refine zo_run_out ?_
  unfold zo_ab
  rw [List.length_map, List.length_range]
  omega
theorem zo_rOn {L L' : List zo_S} (RM : zo_mid nx n mvs t j (zo_mv mc mf ms k) L = R) (hy : k < mc ∧ mf k.toNat = e ∧ ms k.toNat = f ∧ P) (h0 : 0 ≤ k) (h : zo_stp nx n j L (e, f) = some L') : zo_mid nx n mvs t j (zo_mv mc mf ms (k + 1)) L' = R := by
  obtain ⟨h1, rfl, rfl, _⟩ := hy
  rw [zo_mv_cons h0 h1, zo_mid_on h] at RM
  exact RM
theorem zo_rNone {L : List zo_S} (RM : zo_mid nx n mvs t j (zo_mv mc mf ms k) L = R) (hy : k < mc ∧ mf k.toNat = e ∧ ms k.toNat = f ∧ P) (h0 : 0 ≤ k) (hs : L[j]? = some s) (hnn : nx s.1 s.2.1 e f = none) : zo_mid nx n mvs t j (zo_mv mc mf ms (k + 1)) L = R := zo_rOn RM hy h0 (zo_stp_none hs hnn)
theorem zo_rCov {L : List zo_S} (RM : zo_mid nx n mvs t j (zo_mv mc mf ms k) L = R) (hy : k < mc ∧ mf k.toNat = e ∧ ms k.toNat = f ∧ P) (h0 : 0 ≤ k) (hs : L[j]? = some s) (hx : nx s.1 s.2.1 e f = some p) (hc : zo_cov L p.1 p.2) : zo_mid nx n mvs t j (zo_mv mc mf ms (k + 1)) L = R := zo_rOn RM hy h0 (zo_stp_cov hs hx hc)
theorem zo_rNew (RM : zo_mid nx n mvs t j (zo_mv mc mf ms k) (zo_ab N st) = R) (hy : k < mc ∧ mf k.toNat = e ∧ ms k.toNat = f ∧ P) (h0 : 0 ≤ k) (hs : (zo_ab N st)[j]? = some s) (h4 : ¬ 40 ≤ s.2.2.2.2.2) (hx : nx s.1 s.2.1 e f = some p) (hc : ¬ zo_cov (zo_ab N st) p.1 p.2) (hN : 0 ≤ N ∧ N < n) {b v e' f' : Int} (q : zo_ab (N + 1) st' = zo_ab N st ++ [(p.1, p.2, b, e', f', v)]) (hb : b = (j : Int)) (he : e' = e) (hf : f' = f) (hv : v = s.2.2.2.2.2 + 1) : zo_mid nx n mvs t j (zo_mv mc mf ms (k + 1)) (zo_ab (N + 1) st') = R := by
  have len := zo_ab_len (N := N) (st := st) hN.1
  rw [q, hb, he, hf, hv]
  exact zo_rOn RM hy h0 (zo_stp_new hs h4 hx hc (by omega))
theorem zo_rFull (RM : zo_mid nx n mvs t j (zo_mv mc mf ms k) (zo_ab N st) = R) (hy : k < mc ∧ mf k.toNat = e ∧ ms k.toNat = f ∧ P) (h0 : 0 ≤ k) (hs : (zo_ab N st)[j]? = some s) (h4 : ¬ 40 ≤ s.2.2.2.2.2) (hx : nx s.1 s.2.1 e f = some p) (hc : ¬ zo_cov (zo_ab N st) p.1 p.2) (hN : 0 ≤ N ∧ n ≤ N) : R = (zo_ab N st, true) := by
  have len := zo_ab_len (N := N) (st := st) hN.1
  obtain ⟨h1, rfl, rfl, _⟩ := hy
  rw [zo_mv_cons h0 h1, zo_mid_stop (zo_stp_full hs h4 hx hc (by omega))] at RM
  exact RM.symm
end ZRI
def zo_cv (pl zn at0 z : Nat → Int) (i : Int) : Prop := (∀ m : Int, 0 ≤ m → m < 3 → pl (3 * i + m).toNat = at0 m.toNat) ∧ ∀ k : Int, 0 ≤ k → k < 16 → z k.toNat ≤ zn (16 * i + k).toNat
theorem zo_cv_iff {N : Int} {pl zn pa me mf mv at0 z : Nat → Int} (hN : 0 ≤ N) : (∃ i : Int, 0 ≤ i ∧ i < N ∧ zo_cv pl zn at0 z i) ↔ zo_cov (zo_ab N (zo_sM pl zn pa me mf mv)) (zo_n3 at0) (zo_n16 z) := by
  rw [zo_ab_cov hN]
  constructor
  · rintro ⟨i, h0, h1, h2, h3⟩
    refine ⟨i.toNat, by omega, fun m hm => ?_, fun k hk => ?_⟩
    · show zo_n3 (fun m => pl (3 * i.toNat + m)) m = zo_n3 at0 m
      rw [zo_n3_at hm, zo_n3_at hm]
      have := h2 m (by omega) (by omega)
      rw [show (3 * i + (m : Int)).toNat = 3 * i.toNat + m by omega] at this
      exact this
    · show zo_n16 z k ≤ zo_n16 (fun k => zn (16 * i.toNat + k)) k
      rw [zo_n16_at hk, zo_n16_at hk]
      have := h3 k (by omega) (by omega)
      rw [show (16 * i + (k : Int)).toNat = 16 * i.toNat + k by omega] at this
      exact this
  · rintro ⟨i, h1, h2, h3⟩
    refine ⟨i, by omega, h1, fun m h0 hm => ?_, fun k h0 hk => ?_⟩
    · have := h2 m.toNat (by omega)
      have e : zo_n3 (fun m => pl (3 * i + m)) m.toNat = zo_n3 at0 m.toNat := this
      rw [zo_n3_at (by omega), zo_n3_at (by omega)] at e
      rw [show (3 * (i : Int) + m).toNat = 3 * i + m.toNat by omega]
      exact e
    · have := h3 k.toNat (by omega)
      have e : zo_n16 z k.toNat ≤ zo_n16 (fun k => zn (16 * i + k)) k.toNat := this
      rw [zo_n16_at (by omega), zo_n16_at (by omega)] at e
      rw [show (16 * (i : Int) + k).toNat = 16 * i + k.toNat by omega]
      exact e
theorem zo_ZSn {N : Int} {zn zn' z : Nat → Int} (ZS : ∀ i : Nat, (i : Int) < N → zo_Z 16016 16016 32015 (fun k => zn (16 * i + k))) (hZ : zo_Z 16016 16016 32015 z) (q3 : ∀ k, k < 16 → zn' (16 * N.toNat + k) = z k) (q4 : ∀ j : Nat, (j : Int) < 16 * N → zn' j = zn j) (hN : 0 ≤ N) : ∀ i : Nat, (i : Int) < N + 1 → zo_Z 16016 16016 32015 (fun k => zn' (16 * i + k)) := by
  intro i hi
  by_cases c : i = N.toNat
  · subst c
    exact hZ.congr (fun k hk => (q3 k hk).symm)
  · exact (ZS i (by omega)).congr (fun k hk => (q4 (16 * i + k) (by omega)).symm)
