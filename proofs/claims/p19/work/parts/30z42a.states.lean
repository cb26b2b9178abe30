/-! states met, as a list: what both explorations compute -/
theorem zo_le_pt {f g : Nat → Int} (e : ∀ k, k < 16 → f k = g k) (w : Nat → Int) : zo_le w f ↔ zo_le w g := zo_le_iff e w
theorem zo_sl_pt {ln lt a b : Nat → Int} (e : ∀ m, m < 3 → a m = b m) (w : Nat → Int) : zo_sl ln lt a w ↔ zo_sl ln lt b w := by
  constructor
  · intro h m h0 h1
    have := h m h0 h1
    rw [e m.toNat (by omega)] at this
    exact this
  · intro h m h0 h1
    have := h m h0 h1
    rw [← e m.toNat (by omega)] at this
    exact this
def zo_settle (ln lt at0 mo z c' : Nat → Int) : Prop := ∃ c, zo_GC (fun w => zo_le w z ∧ zo_sl ln lt at0 w) c ∧ zo_later ln lt at0 mo c c'
def zo_gd (gn gt : Nat → Int) (e : Int) (z c : Nat → Int) : Prop := zo_GC (fun w => zo_le w z ∧ zo_sat (gn e.toNat) gt (6 * e) w) c
def zo_g2 (gn gt : Nat → Int) (e f : Int) (z c : Nat → Int) : Prop := ∃ c1, zo_gd gn gt e z c1 ∧ ((f = -1 ∧ ∀ k, k < 16 → c k = c1 k) ∨ (f ≠ -1 ∧ zo_gd gn gt f c1 c))
def zo_st2 (em ef pl : Nat → Int) (e f : Int) : Prop := pl (em e.toNat).toNat = ef e.toNat ∧ (f = -1 ∨ f ≠ -1 ∧ pl (em f.toNat).toNat = ef f.toNat)
def zo_flw (em ef et er gn gt ln lt mo pl z : Nat → Int) (e f : Int) (pl' z' : Nat → Int) : Prop := zo_st2 em ef pl e f ∧ (∃ c, zo_g2 gn gt e f z c ∧ zo_settle ln lt pl' mo (zo_set (z_or er e f) c) z') ∧ ∀ m, m < 3 → pl' m = z_goA pl em et e f m
section ZFN
variable {em ef et er gn gt ln lt mo mo' pl z pl' z' a b c d : Nat → Int} {e f : Int}
theorem zo_gd.fn (h : zo_gd gn gt e a c) (h' : zo_gd gn gt e b d) (q : ∀ k, k < 16 → a k = b k) : ∀ k, k < 16 → c k = d k := (h.iff (fun w _ => by rw [zo_le_pt q w])).uniq h'
theorem zo_g2.fn (h : zo_g2 gn gt e f a c) (h' : zo_g2 gn gt e f b d) (q : ∀ k, k < 16 → a k = b k) : ∀ k, k < 16 → c k = d k := by
  obtain ⟨c1, g1, r1⟩ := h
  obtain ⟨d1, g2, r2⟩ := h'
  have q1 := g1.fn g2 q
  rcases r1 with ⟨u1, v1⟩ | ⟨u1, v1⟩ <;> rcases r2 with ⟨u2, v2⟩ | ⟨u2, v2⟩
  · exact fun k hk => (v1 k hk).trans ((q1 k hk).trans (v2 k hk).symm)
  · exact absurd u1 u2
  · exact absurd u2 u1
  · exact v1.fn v2 q1
theorem zo_later.fn (h : zo_later ln lt pl mo a c) (h' : zo_later ln lt pl' mo b d) (q : ∀ k, k < 16 → a k = b k) (ep : ∀ m, m < 3 → pl m = pl' m) : ∀ k, k < 16 → c k = d k := by
  obtain ⟨c1, g1, r1⟩ := h
  obtain ⟨d1, g2, r2⟩ := h'
  have q1 := (g1.iff (K' := fun w => zo_le w (zo_tm b) ∧ zo_sl ln lt pl' w) (fun w _ => by rw [zo_le_pt (zo_tm_pt q) w, zo_sl_pt ep w])).uniq g2
  exact (r1.iff (fun w _ => zo_le_pt (zo_wd_pt (fun _ _ _ => rfl) q1) w)).uniq r2
theorem zo_settle.fn (h : zo_settle ln lt pl mo a c) (h' : zo_settle ln lt pl' mo b d) (q : ∀ k, k < 16 → a k = b k) (ep : ∀ m, m < 3 → pl m = pl' m) : ∀ k, k < 16 → c k = d k := by
  obtain ⟨c1, g1, r1⟩ := h
  obtain ⟨d1, g2, r2⟩ := h'
  have q1 := (g1.iff (K' := fun w => zo_le w b ∧ zo_sl ln lt pl' w) (fun w _ => by rw [zo_le_pt q w, zo_sl_pt ep w])).uniq g2
  exact r1.fn r2 q1 ep
theorem zo_flw.fn (h : zo_flw em ef et er gn gt ln lt mo pl z e f a c) (h' : zo_flw em ef et er gn gt ln lt mo pl z e f b d) : (∀ m, m < 3 → a m = b m) ∧ ∀ k, k < 16 → c k = d k := by
  obtain ⟨_, ⟨c1, g1, r1⟩, p1⟩ := h
  obtain ⟨_, ⟨d1, g2, r2⟩, p2⟩ := h'
  have ep : ∀ m, m < 3 → a m = b m := fun m hm => (p1 m hm).trans (p2 m hm).symm
  have q1 := g1.fn g2 (fun _ _ => rfl)
  exact ⟨ep, r1.fn r2 (zo_set_pt q1) ep⟩
end ZFN
def zo_n3 (f : Nat → Int) : Nat → Int := fun m => if m < 3 then f m else 0
def zo_n16 (f : Nat → Int) : Nat → Int := fun k => if k < 16 then f k else 0
theorem zo_n3_at {f : Nat → Int} {m : Nat} (h : m < 3) : zo_n3 f m = f m := if_pos h
theorem zo_n16_at {f : Nat → Int} {m : Nat} (h : m < 16) : zo_n16 f m = f m := if_pos h
theorem zo_n3_eq {f g : Nat → Int} (e : ∀ m, m < 3 → f m = g m) : zo_n3 f = zo_n3 g := by
  funext m
  unfold zo_n3
  split
  · exact e m (by assumption)
  · rfl
theorem zo_n16_eq {f g : Nat → Int} (e : ∀ m, m < 16 → f m = g m) : zo_n16 f = zo_n16 g := by
  funext m
  unfold zo_n16
  split
  · exact e m (by assumption)
  · rfl
abbrev zo_PZ : Type := (Nat → Int) × (Nat → Int)
/-- what a move leads to -/
noncomputable def zo_nx (em ef et er gn gt ln lt mo pl z : Nat → Int) (e f : Int) : Option zo_PZ := @dite _ (∃ p : zo_PZ, zo_flw em ef et er gn gt ln lt mo pl z e f p.1 p.2) (Classical.propDecidable _) (fun h => some (zo_n3 (Classical.choose h).1, zo_n16 (Classical.choose h).2)) (fun _ => none)
section ZNX
variable {em ef et er gn gt ln lt mo pl z pl' z' : Nat → Int} {e f : Int}
theorem zo_nx_some (h : zo_flw em ef et er gn gt ln lt mo pl z e f pl' z') : zo_nx em ef et er gn gt ln lt mo pl z e f = some (zo_n3 pl', zo_n16 z') := by
  have hx : ∃ p : zo_PZ, zo_flw em ef et er gn gt ln lt mo pl z e f p.1 p.2 := ⟨(pl', z'), h⟩
  unfold zo_nx
  rw [dif_pos hx]
  have q := (Classical.choose_spec hx).fn h
  rw [zo_n3_eq q.1, zo_n16_eq q.2]
theorem zo_nx_none (h : ∀ p z2, ¬ zo_flw em ef et er gn gt ln lt mo pl z e f p z2) : zo_nx em ef et er gn gt ln lt mo pl z e f = none := by
  unfold zo_nx
  rw [dif_neg (fun ⟨p, q⟩ => h p.1 p.2 q)]
end ZNX
/-- a state: places, zone, the state it was met from, the move, how many moves -/
abbrev zo_S : Type := (Nat → Int) × (Nat → Int) × Int × Int × Int × Int
def zo_cov (L : List zo_S) (pl z : Nat → Int) : Prop := ∃ s ∈ L, (∀ m, m < 3 → s.1 m = pl m) ∧ ∀ k, k < 16 → z k ≤ s.2.1 k
noncomputable def zo_stp (nx : (Nat → Int) → (Nat → Int) → Int → Int → Option zo_PZ) (n : Int) (i : Nat) (L : List zo_S) (mv : Int × Int) : Option (List zo_S) :=
  match L[i]? with
  | none => some L
  | some s => if 40 ≤ s.2.2.2.2.2 then some L else
    match nx s.1 s.2.1 mv.1 mv.2 with
    | none => some L
    | some p => @ite _ (zo_cov L p.1 p.2) (Classical.propDecidable _) (some L) (if n ≤ (L.length : Int) then none else some (L ++ [(p.1, p.2, (i : Int), mv.1, mv.2, s.2.2.2.2.2 + 1)]))
noncomputable def zo_go (nx : (Nat → Int) → (Nat → Int) → Int → Int → Option zo_PZ) (n : Int) (i : Nat) : List (Int × Int) → List zo_S → List zo_S × Bool
  | [], L => (L, false)
  | mv :: r, L => match zo_stp nx n i L mv with
    | none => (L, true)
    | some L' => zo_go nx n i r L'
noncomputable def zo_run (nx : (Nat → Int) → (Nat → Int) → Int → Int → Option zo_PZ) (n : Int) (mvs : List (Int × Int)) : Nat → Nat → List zo_S → List zo_S × Bool
  | 0, _, L => (L, false)
  | t + 1, i, L => if i < L.length then (if (zo_go nx n i mvs L).2 then zo_go nx n i mvs L else zo_run nx n mvs t (i + 1) (zo_go nx n i mvs L).1) else (L, false)
/-- from the middle of a state's moves -/
noncomputable def zo_mid (nx : (Nat → Int) → (Nat → Int) → Int → Int → Option zo_PZ) (n : Int) (mvs : List (Int × Int)) (t i : Nat) (rest : List (Int × Int)) (L : List zo_S) : List zo_S × Bool := if (zo_go nx n i rest L).2 then zo_go nx n i rest L else zo_run nx n mvs t (i + 1) (zo_go nx n i rest L).1
section ZRUN
variable {nx : (Nat → Int) → (Nat → Int) → Int → Int → Option zo_PZ} {n : Int} {mvs rest : List (Int × Int)} {t i : Nat} {L L' : List zo_S} {mv : Int × Int} {s : zo_S} {p : zo_PZ}
theorem zo_run_in (h : i < L.length) : zo_run nx n mvs (t + 1) i L = zo_mid nx n mvs t i mvs L := by
  show (if i < L.length then _ else _) = _
  rw [if_pos h]
  rfl
theorem zo_run_out (h : ¬ i < L.length) : zo_run nx n mvs t i L = (L, false) := by
  cases t with
  | zero => rfl
  | succ t =>
    show (if i < L.length then _ else _) = _
    rw [if_neg h]
theorem zo_mid_nil : zo_mid nx n mvs t i [] L = zo_run nx n mvs t (i + 1) L := by
  unfold zo_mid zo_go
  simp
theorem zo_mid_on (h : zo_stp nx n i L mv = some L') : zo_mid nx n mvs t i (mv :: rest) L = zo_mid nx n mvs t i rest L' := by
  unfold zo_mid
  have e : zo_go nx n i (mv :: rest) L = zo_go nx n i rest L' := by
    show (match zo_stp nx n i L mv with | none => (L, true) | some L' => zo_go nx n i rest L') = _
    rw [h]
  rw [e]
theorem zo_mid_stop (h : zo_stp nx n i L mv = none) : zo_mid nx n mvs t i (mv :: rest) L = (L, true) := by
  unfold zo_mid
  have e : zo_go nx n i (mv :: rest) L = (L, true) := by
    show (match zo_stp nx n i L mv with | none => (L, true) | some L' => zo_go nx n i rest L') = _
    rw [h]
  rw [e]
  simp
/-- what one move does -/
theorem zo_stp_long (hs : L[i]? = some s) (h : 40 ≤ s.2.2.2.2.2) : zo_stp nx n i L mv = some L := by
  unfold zo_stp
  rw [hs]
  simp [h]
theorem zo_stp_none (hs : L[i]? = some s) (h : nx s.1 s.2.1 mv.1 mv.2 = none) : zo_stp nx n i L mv = some L := by
  unfold zo_stp
  rw [hs]
  simp only []
  rw [h]
  split <;> rfl
theorem zo_stp_cov (hs : L[i]? = some s) (h : nx s.1 s.2.1 mv.1 mv.2 = some p) (hc : zo_cov L p.1 p.2) : zo_stp nx n i L mv = some L := by
  unfold zo_stp
  rw [hs]
  simp only []
  rw [h]
  split
  · rfl
  · simp only []
    rw [if_pos hc]
theorem zo_stp_full (hs : L[i]? = some s) (h4 : ¬ 40 ≤ s.2.2.2.2.2) (h : nx s.1 s.2.1 mv.1 mv.2 = some p) (hc : ¬ zo_cov L p.1 p.2) (hn : n ≤ (L.length : Int)) : zo_stp nx n i L mv = none := by
  unfold zo_stp
  rw [hs]
  simp only []
  rw [if_neg h4, h]
  simp only []
  rw [if_neg hc, if_pos hn]
theorem zo_stp_new (hs : L[i]? = some s) (h4 : ¬ 40 ≤ s.2.2.2.2.2) (h : nx s.1 s.2.1 mv.1 mv.2 = some p) (hc : ¬ zo_cov L p.1 p.2) (hn : ¬ n ≤ (L.length : Int)) : zo_stp nx n i L mv = some (L ++ [(p.1, p.2, (i : Int), mv.1, mv.2, s.2.2.2.2.2 + 1)]) := by
  unfold zo_stp
  rw [hs]
  simp only []
  rw [if_neg h4, h]
  simp only []
  rw [if_neg hc, if_neg hn]
theorem zo_mid_long (hs : L[i]? = some s) (h : 40 ≤ s.2.2.2.2.2) : zo_mid nx n mvs t i rest L = zo_run nx n mvs t (i + 1) L := by
  induction rest with
  | nil => exact zo_mid_nil
  | cons mv rest ih => rw [zo_mid_on (zo_stp_long hs h)]; exact ih
end ZRUN
/-- the moves, from k on -/
def zo_mv (mc : Int) (mf ms : Nat → Int) (k : Int) : List (Int × Int) := (List.range (mc - k).toNat).map (fun t => (mf (k.toNat + t), ms (k.toNat + t)))
theorem zo_mv_nil {mc k : Int} {mf ms : Nat → Int} (h : mc ≤ k) : zo_mv mc mf ms k = [] := by
  unfold zo_mv
  rw [show (mc - k).toNat = 0 by omega]
  rfl
theorem zo_mv_cons {mc k : Int} {mf ms : Nat → Int} (h0 : 0 ≤ k) (h : k < mc) : zo_mv mc mf ms k = (mf k.toNat, ms k.toNat) :: zo_mv mc mf ms (k + 1) := by
  unfold zo_mv
  rw [show (mc - k).toNat = (mc - (k + 1)).toNat + 1 by omega, List.range_succ_eq_map, List.map_cons, List.map_map]
  congr 1
  apply List.map_congr_left
  intro t _
  simp only [Function.comp]
  rw [show (k + 1).toNat + t = k.toNat + (t + 1) by omega]
/-! the lists of states out of the arrays -/
def zo_sM (pl zn pa me mf mv : Nat → Int) (i : Nat) : zo_S := (zo_n3 (fun m => pl (3 * i + m)), zo_n16 (fun k => zn (16 * i + k)), pa i, me i, mf i, mv i)
def zo_sC (sf sb : Nat → Int) (i : Nat) : zo_S := (zo_n3 (fun m => sf (7 * i + m)), zo_n16 (fun k => sb (16 * i + k)), sf (7 * i + 3), sf (7 * i + 4), sf (7 * i + 5), sf (7 * i + 6))
def zo_ab (N : Int) (st : Nat → zo_S) : List zo_S := (List.range N.toNat).map st
theorem zo_ab_len {N : Int} {st : Nat → zo_S} (h : 0 ≤ N) : ((zo_ab N st).length : Int) = N := by
  unfold zo_ab
  rw [List.length_map, List.length_range]
  omega
theorem zo_ab_at {N : Int} {st : Nat → zo_S} {i : Nat} (h : (i : Int) < N) : (zo_ab N st)[i]? = some (st i) := by
  unfold zo_ab
  rw [List.getElem?_map, List.getElem?_range (by omega)]
  rfl
theorem zo_ab_add {N : Int} {st st' : Nat → zo_S} {s : zo_S} (h : 0 ≤ N) (e : ∀ i : Nat, (i : Int) < N → st' i = st i) (en : st' N.toNat = s) : zo_ab (N + 1) st' = zo_ab N st ++ [s] := by
  unfold zo_ab
  rw [show (N + 1).toNat = N.toNat + 1 by omega, List.range_succ, List.map_append, List.map_singleton, en]
  congr 1
  apply List.map_congr_left
  intro i hi
  exact e i (by have := List.mem_range.mp hi; omega)
theorem zo_ab_0 {st : Nat → zo_S} : zo_ab 0 st = [] := rfl
theorem zo_ab_cov {N : Int} {st : Nat → zo_S} {pl z : Nat → Int} (hN : 0 ≤ N) : zo_cov (zo_ab N st) pl z ↔ ∃ i : Nat, (i : Int) < N ∧ (∀ m, m < 3 → (st i).1 m = pl m) ∧ ∀ k, k < 16 → z k ≤ (st i).2.1 k := by
  unfold zo_cov zo_ab
  constructor
  · rintro ⟨s, hs, h⟩
    obtain ⟨i, hi, rfl⟩ := List.mem_map.mp hs
    exact ⟨i, by have := List.mem_range.mp hi; omega, h⟩
  · rintro ⟨i, hi, h⟩
    exact ⟨st i, List.mem_map.mpr ⟨i, List.mem_range.mpr (by omega), rfl⟩, h⟩
