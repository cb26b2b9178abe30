/-! the net's cells, exactly: lists of tests, edges, limits, moves, against arrays of numbers -/
def z_sel (c : Prop) [Decidable c] (a b : Int) : Int := if c then a else b
theorem z_sel_pos {c : Prop} [Decidable c] {a b : Int} (h : c) : z_sel c a b = a := if_pos h
theorem z_sel_neg {c : Prop} [Decidable c] {a b : Int} (h : ¬ c) : z_sel c a b = b := if_neg h
theorem z_sel_or {c : Prop} [Decidable c] {a b : Int} {P : Int → Prop} (ha : P a) (hb : P b) : P (z_sel c a b) := by unfold z_sel; split <;> assumption
section ZNET
variable {ks : z_Ks} {Y Y' : Nat → Option va_E}
/-- the list at q with its array at t: n tests, their numbers in T from o on -/
def z_TX (ks : z_Ks) (Y : Nat → Option va_E) (q t : Nat) (n : Int) (T : Nat → Int) (o : Int) : Prop :=
  Y q = some (z_ob 6 [.ref t, z_v n]) ∧ (0 ≤ n ∧ n ≤ 2) ∧ ∃ g : Nat → Option Nat, Y t = some (z_rr ks.2.2.2.2 2 g) ∧ ∀ j : Int, 0 ≤ j → j < n → ∃ (b : Nat) (c s m : Int), g j.toNat = some b ∧ Y b = some (z_ob 5 [z_v c, z_v s, z_v m]) ∧ (T (o + 3 * j).toNat = c ∧ T (o + 3 * j + 1).toNat = s ∧ T (o + 3 * j + 2).toNat = m) ∧ (1 ≤ c ∧ c ≤ 3 ∧ 0 ≤ s ∧ s ≤ 4 ∧ 0 ≤ m ∧ m ≤ 1000)
def z_lv (n : Int) (i : Nat) : Prop := (i : Int) < n ∨ 20 ≤ i ∧ i < 38
def z_N (ks : z_Ks) (Y : Nat → Option va_E) (ge gl : Nat → Option Nat) (n : Int) (em ef et ec er gn gt ln lt : Nat → Int) (qe ql qt : Nat → Nat) : Prop :=
  (∀ j : Int, 0 ≤ j → j < n → ge j.toNat = some (qe j.toNat) ∧ Y (qe j.toNat) = some (z_ob 0 [z_v (em j.toNat), z_v (ef j.toNat), z_v (et j.toNat), z_v (ec j.toNat), z_v (er j.toNat), .ref (ql j.toNat)]) ∧ (0 ≤ em j.toNat ∧ em j.toNat ≤ 2 ∧ 0 ≤ ef j.toNat ∧ ef j.toNat ≤ 5 ∧ 0 ≤ et j.toNat ∧ et j.toNat ≤ 5 ∧ -4 ≤ ec j.toNat ∧ ec j.toNat ≤ 4 ∧ z_rg (er j.toNat)) ∧ z_TX ks Y (ql j.toNat) (qt j.toNat) (gn j.toNat) gt (6 * j)) ∧
  (∀ j : Int, 0 ≤ j → j < 18 → gl j.toNat = some (ql (20 + j.toNat)) ∧ z_TX ks Y (ql (20 + j.toNat)) (qt (20 + j.toNat)) (ln j.toNat) lt (6 * j)) ∧
  (∀ i j, z_lv n i → z_lv n j → ql i = ql j → i = j) ∧ (∀ i j, z_lv n i → z_lv n j → qt i = qt j → i = j) ∧ 0 ≤ n ∧ n ≤ 20
/-- resets of a move -/
def z_or (er : Nat → Int) (f s : Int) : Int := if s = -1 then er f.toNat else (z_i (er f.toNat) ||| z_i (er s.toNat)).toInt
def z_MX (Y : Nat → Option va_E) (q : Nat) (f s n : Int) (qe : Nat → Nat) (er : Nat → Int) : Prop :=
  ∃ r : Int, Y q = some (z_ob 1 [z_v f, z_v s, .ref (qe f.toNat), va_rf (if s = -1 then none else some (qe s.toNat)), z_v r]) ∧ (0 ≤ f ∧ f < n ∧ -1 ≤ s ∧ s < n) ∧ z_rg r ∧ r = z_or er f s
def z_Mo (Y : Nat → Option va_E) (gm : Nat → Option Nat) (mc : Int) (mf ms : Nat → Int) (n : Int) (qe : Nat → Nat) (er : Nat → Int) : Prop :=
  ∀ k : Int, 0 ≤ k → k < mc → ∃ q : Nat, gm k.toNat = some q ∧ z_MX Y q (mf k.toNat) (ms k.toNat) n qe er
/-! what follows for safety -/
theorem z_TX.sf {q t : Nat} {n : Int} {T : Nat → Int} {o : Int} (h : z_TX ks Y q t n T o) : z_TL ks Y q := by
  obtain ⟨y, r, g, w, b⟩ := h
  refine ⟨t, n, g, y, w, r, fun j hj => ?_⟩
  obtain ⟨x, c, s, m, h1, h2, h3, h4⟩ := b j (by omega) hj
  exact ⟨x, h1, c, s, m, h2, h4⟩
section ZNS
variable {ge gl gm : Nat → Option Nat} {n mc : Int} {em ef et ec er gn gt ln lt mf ms : Nat → Int} {qe ql qt : Nat → Nat}
theorem z_N.e1 (h : z_N ks Y ge gl n em ef et ec er gn gt ln lt qe ql qt) {j : Int} (h0 : 0 ≤ j) (h1 : j < n) : z_E ks Y (qe j.toNat) := by
  obtain ⟨a, y, r, t⟩ := h.1 j h0 h1
  exact ⟨_, _, _, _, _, _, y, r, t.sf⟩
theorem z_N.HE (h : z_N ks Y ge gl n em ef et ec er gn gt ln lt qe ql qt) : ∀ j : Nat, (j : Int) < n → ∃ q, ge j = some q ∧ z_E ks Y q := fun j hj => ⟨qe j, (h.1 j (by omega) hj).1, h.e1 (j := (j : Int)) (by omega) hj⟩
theorem z_N.HL (h : z_N ks Y ge gl n em ef et ec er gn gt ln lt qe ql qt) : ∀ j : Nat, (j : Int) < 18 → ∃ q, gl j = some q ∧ z_TL ks Y q := fun j hj => ⟨ql (20 + j), (h.2.1 j (by omega) hj).1, (h.2.1 (j : Int) (by omega) hj).2.sf⟩
theorem z_MX.sf (h : z_N ks Y ge gl n em ef et ec er gn gt ln lt qe ql qt) {q : Nat} {f s : Int} (hm : z_MX Y q f s n qe er) : z_Mv ks Y q := by
  obtain ⟨r, y, ⟨h1, h2, h3, h4⟩, h5, h6⟩ := hm
  have hn := h.2.2.2.2
  refine ⟨f, s, _, _, r, y, ⟨by omega, by omega, h5⟩, h.e1 h1 h2, fun x hx => ?_⟩
  split at hx
  · cases hx
  · cases hx
    exact h.e1 (by omega) h4
theorem z_Mo.HM (h : z_N ks Y ge gl n em ef et ec er gn gt ln lt qe ql qt) (hm : z_Mo Y gm mc mf ms n qe er) : ∀ j : Nat, (j : Int) < mc → ∃ q, gm j = some q ∧ z_Mv ks Y q := fun j hj => by
  obtain ⟨q, a, b⟩ := hm j (by omega) hj
  exact ⟨q, a, b.sf h⟩
/-! carried along -/
theorem z_TX.sub (hk : ∀ x y, Y x = some y → Y' x = some y) {q t : Nat} {n : Int} {T : Nat → Int} {o : Int} (h : z_TX ks Y q t n T o) : z_TX ks Y' q t n T o := by
  obtain ⟨y, r, g, w, b⟩ := h
  refine ⟨hk _ _ y, r, g, hk _ _ w, fun j h0 hj => ?_⟩
  obtain ⟨x, c, s, m, h1, h2, h3⟩ := b j h0 hj
  exact ⟨x, c, s, m, h1, hk _ _ h2, h3⟩
theorem z_N.sub (hk : ∀ x y, Y x = some y → Y' x = some y) (h : z_N ks Y ge gl n em ef et ec er gn gt ln lt qe ql qt) : z_N ks Y' ge gl n em ef et ec er gn gt ln lt qe ql qt :=
  ⟨fun j h0 h1 => let ⟨a, b, c, d⟩ := h.1 j h0 h1; ⟨a, hk _ _ b, c, d.sub hk⟩, fun j h0 h1 => let ⟨a, d⟩ := h.2.1 j h0 h1; ⟨a, d.sub hk⟩, h.2.2⟩
theorem z_MX.sub (hk : ∀ x y, Y x = some y → Y' x = some y) {q : Nat} {f s : Int} (h : z_MX Y q f s n qe er) : z_MX Y' q f s n qe er := let ⟨r, y, z⟩ := h; ⟨r, hk _ _ y, z⟩
theorem z_Mo.sub (hk : ∀ x y, Y x = some y → Y' x = some y) (h : z_Mo Y gm mc mf ms n qe er) : z_Mo Y' gm mc mf ms n qe er := fun k h0 h1 => let ⟨q, a, b⟩ := h k h0 h1; ⟨q, a, b.sub hk⟩
/-- a list that isn't the one that is changed -/
theorem z_TX.keep {a b q t : Nat} {n : Int} {T T' : Nat → Int} {o : Int} {va : List Value} {gb : Nat → Option Nat} {ca : ClassId} {nb : Nat} (ha : Y a = some (z_ob 6 va)) (hb : Y b = some (z_rr ca nb gb)) (hk : ∀ x y, Y x = some y → x ≠ a → x ≠ b → Y' x = some y) (hq : q ≠ a) (ht : t ≠ b) (hT : ∀ j : Int, 0 ≤ j → j < 3 * n → T' (o + j).toNat = T (o + j).toNat) (h : z_TX ks Y q t n T o) : z_TX ks Y' q t n T' o := by
  obtain ⟨y, r, g, w, e⟩ := h
  refine ⟨hk _ _ y hq (z_ne y hb (fun z => by cases z)), r, g, hk _ _ w (z_ne w ha (fun z => by cases z)) ht, fun j h0 hj => ?_⟩
  obtain ⟨x, c, s, m, h1, h2, ⟨h3, h4, h5⟩, h6⟩ := e j h0 hj
  have a1 := hT (3 * j) (by omega) (by omega)
  have a2 := hT (3 * j + 1) (by omega) (by omega)
  have a3 := hT (3 * j + 2) (by omega) (by omega)
  rw [show o + (3 * j + 1) = o + 3 * j + 1 by omega] at a2
  rw [show o + (3 * j + 2) = o + 3 * j + 2 by omega] at a3
  exact ⟨x, c, s, m, h1, hk _ _ h2 (z_ne h2 ha (fun z => by simp at z)) (z_ne h2 hb (fun z => by cases z)), ⟨a1.trans h3, a2.trans h4, a3.trans h5⟩, h6⟩
/-- three numbers put -/
def z_t3 (T : Nat → Int) (o x s c : Int) : Nat → Int := va_up (va_up (va_up T o.toNat x) (o + 1).toNat s) (o + 2).toNat c
theorem z_t3_out {T : Nat → Int} {o x s c : Int} {k : Nat} (h0 : 0 ≤ o) (h : (k : Int) < o ∨ o + 2 < k) : z_t3 T o x s c k = T k := by
  unfold z_t3 va_up
  rw [if_neg (by omega), if_neg (by omega), if_neg (by omega)]
theorem z_t3_0 {T : Nat → Int} {o x s c : Int} (h0 : 0 ≤ o) : z_t3 T o x s c o.toNat = x ∧ z_t3 T o x s c (o + 1).toNat = s ∧ z_t3 T o x s c (o + 2).toNat = c := by
  unfold z_t3 va_up
  refine ⟨?_, ?_, ?_⟩
  · rw [if_neg (by omega), if_neg (by omega), if_pos rfl]
  · rw [if_neg (by omega), if_pos rfl]
  · rw [if_pos rfl]
/-- a test more -/
theorem z_TX.add {q t b : Nat} {n : Int} {T : Nat → Int} {o x s c : Int} {g : Nat → Option Nat} (h : z_TX ks Y q t n T o) (hn : n ≤ 1) (ho : 0 ≤ o) (hw : Y t = some (z_rr ks.2.2.2.2 2 g)) (hk : ∀ x y, Y x = some y → x ≠ q → x ≠ t → Y' x = some y) (y' : Y' q = some (z_ob 6 [.ref t, z_v (n + 1)])) (w' : Y' t = some (z_rr ks.2.2.2.2 2 (va_up g n.toNat (some b)))) (b' : Y' b = some (z_ob 5 [z_v x, z_v s, z_v c])) (hr : 1 ≤ x ∧ x ≤ 3 ∧ 0 ≤ s ∧ s ≤ 4 ∧ 0 ≤ c ∧ c ≤ 1000) : z_TX ks Y' q t (n + 1) (z_t3 T (o + 3 * n) x s c) o := by
  obtain ⟨y, r, g2, w, e⟩ := h
  have eg : g2 = g := by
    have e := Option.some.inj (w.symm.trans hw)
    simpa using e
  subst eg
  refine ⟨y', by omega, _, w', fun j h0 hj => ?_⟩
  by_cases hjn : j = n
  · subst hjn
    obtain ⟨a1, a2, a3⟩ := z_t3_0 (T := T) (x := x) (s := s) (c := c) (o := o + 3 * j) (by omega)
    exact ⟨b, x, s, c, by simp [va_up], b', ⟨a1, a2, a3⟩, hr⟩
  · obtain ⟨x2, c2, s2, m2, h1, h2, ⟨h3, h4, h5⟩, h6⟩ := e j h0 (by omega)
    refine ⟨x2, c2, s2, m2, ?_, hk _ _ h2 (z_ne h2 y (fun z => by simp at z)) (z_ne h2 w (fun z => by cases z)), ⟨?_, ?_, ?_⟩, h6⟩
    · simp only [va_up]
      rw [if_neg (by omega)]
      exact h1
    · rw [z_t3_out (by omega) (by omega)]; exact h3
    · rw [z_t3_out (by omega) (by omega)]; exact h4
    · rw [z_t3_out (by omega) (by omega)]; exact h5
/-- a guard more -/
theorem z_N.guard (h : z_N ks Y ge gl n em ef et ec er gn gt ln lt qe ql qt) {e x s c : Int} {b : Nat} {g : Nat → Option Nat} (h0 : 0 ≤ e) (h1 : e < n) (hn : gn e.toNat ≤ 1) (hw : Y (qt e.toNat) = some (z_rr ks.2.2.2.2 2 g)) (hk : ∀ x y, Y x = some y → x ≠ ql e.toNat → x ≠ qt e.toNat → Y' x = some y) (y' : Y' (ql e.toNat) = some (z_ob 6 [.ref (qt e.toNat), z_v (gn e.toNat + 1)])) (w' : Y' (qt e.toNat) = some (z_rr ks.2.2.2.2 2 (va_up g (gn e.toNat).toNat (some b)))) (b' : Y' b = some (z_ob 5 [z_v x, z_v s, z_v c])) (hr : 1 ≤ x ∧ x ≤ 3 ∧ 0 ≤ s ∧ s ≤ 4 ∧ 0 ≤ c ∧ c ≤ 1000) :
    z_N ks Y' ge gl n em ef et ec er (va_up gn e.toNat (gn e.toNat + 1)) (z_t3 gt (6 * e + 3 * gn e.toNat) x s c) ln lt qe ql qt := by
  have hn20 := h.2.2.2.2
  have te := (h.1 e h0 h1).2.2.2
  have hgn := te.2.1
  refine ⟨fun j j0 j1 => ?_, fun j j0 j1 => ?_, h.2.2⟩
  · obtain ⟨a1, a2, a3, a4⟩ := h.1 j j0 j1
    refine ⟨a1, hk _ _ a2 (z_ne a2 te.1 (fun z => by simp at z)) (z_ne a2 hw (fun z => by cases z)), a3, ?_⟩
    by_cases he : j = e
    · subst he
      simp only [va_up, if_true]
      exact a4.add hn (by omega) hw hk y' w' b' hr
    · have hne : j.toNat ≠ e.toNat := by omega
      simp only [va_up, if_neg hne]
      have hj2 := a4.2.1
      exact a4.keep te.1 hw hk (fun z => hne (h.2.2.1 _ _ (Or.inl (by omega)) (Or.inl (by omega)) z)) (fun z => hne (h.2.2.2.1 _ _ (Or.inl (by omega)) (Or.inl (by omega)) z)) (fun i i0 i1 => z_t3_out (by omega) (by omega))
  · obtain ⟨a1, a4⟩ := h.2.1 j j0 j1
    refine ⟨a1, a4.keep te.1 hw hk (fun z => ?_) (fun z => ?_) (fun i i0 i1 => rfl)⟩
    · have := h.2.2.1 _ _ (Or.inr (by omega)) (Or.inl (by omega)) z
      omega
    · have := h.2.2.2.1 _ _ (Or.inr (by omega)) (Or.inl (by omega)) z
      omega
/-- a limit more -/
theorem z_N.limit (h : z_N ks Y ge gl n em ef et ec er gn gt ln lt qe ql qt) {e x s c : Int} {b : Nat} {g : Nat → Option Nat} (h0 : 0 ≤ e) (h1 : e < 18) (hn : ln e.toNat ≤ 1) (hw : Y (qt (20 + e.toNat)) = some (z_rr ks.2.2.2.2 2 g)) (hk : ∀ x y, Y x = some y → x ≠ ql (20 + e.toNat) → x ≠ qt (20 + e.toNat) → Y' x = some y) (y' : Y' (ql (20 + e.toNat)) = some (z_ob 6 [.ref (qt (20 + e.toNat)), z_v (ln e.toNat + 1)])) (w' : Y' (qt (20 + e.toNat)) = some (z_rr ks.2.2.2.2 2 (va_up g (ln e.toNat).toNat (some b)))) (b' : Y' b = some (z_ob 5 [z_v x, z_v s, z_v c])) (hr : 1 ≤ x ∧ x ≤ 3 ∧ 0 ≤ s ∧ s ≤ 4 ∧ 0 ≤ c ∧ c ≤ 1000) :
    z_N ks Y' ge gl n em ef et ec er gn gt (va_up ln e.toNat (ln e.toNat + 1)) (z_t3 lt (6 * e + 3 * ln e.toNat) x s c) qe ql qt := by
  have hn20 := h.2.2.2.2
  have te := (h.2.1 e h0 h1).2
  have hgn := te.2.1
  refine ⟨fun j j0 j1 => ?_, fun j j0 j1 => ?_, h.2.2⟩
  · obtain ⟨a1, a2, a3, a4⟩ := h.1 j j0 j1
    refine ⟨a1, hk _ _ a2 (z_ne a2 te.1 (fun z => by simp at z)) (z_ne a2 hw (fun z => by cases z)), a3, a4.keep te.1 hw hk (fun z => ?_) (fun z => ?_) (fun i i0 i1 => rfl)⟩
    · have := h.2.2.1 _ _ (Or.inl (by omega)) (Or.inr (by omega)) z
      omega
    · have := h.2.2.2.1 _ _ (Or.inl (by omega)) (Or.inr (by omega)) z
      omega
  · obtain ⟨a1, a4⟩ := h.2.1 j j0 j1
    refine ⟨a1, ?_⟩
    by_cases he : j = e
    · subst he
      simp only [va_up, if_true]
      exact a4.add hn (by omega) hw hk y' w' b' hr
    · have hne : j.toNat ≠ e.toNat := by omega
      simp only [va_up, if_neg hne]
      have hj2 := a4.2.1
      refine a4.keep te.1 hw hk (fun z => ?_) (fun z => ?_) (fun i i0 i1 => z_t3_out (by omega) (by omega))
      · have := h.2.2.1 _ _ (Or.inr (by omega)) (Or.inr (by omega)) z
        omega
      · have := h.2.2.2.1 _ _ (Or.inr (by omega)) (Or.inr (by omega)) z
        omega
theorem z_MX.keep {a b q : Nat} {f s : Int} {va : List Value} {gb : Nat → Option Nat} {ca : ClassId} {nb : Nat} (ha : Y a = some (z_ob 6 va)) (hb : Y b = some (z_rr ca nb gb)) (hk : ∀ x y, Y x = some y → x ≠ a → x ≠ b → Y' x = some y) (h : z_MX Y q f s n qe er) : z_MX Y' q f s n qe er :=
  let ⟨r, y, z⟩ := h; ⟨r, hk _ _ y (z_ne y ha (fun z => by simp at z)) (z_ne y hb (fun z => by cases z)), z⟩
theorem z_Mo.keep {a b : Nat} {va : List Value} {gb : Nat → Option Nat} {ca : ClassId} {nb : Nat} (ha : Y a = some (z_ob 6 va)) (hb : Y b = some (z_rr ca nb gb)) (hk : ∀ x y, Y x = some y → x ≠ a → x ≠ b → Y' x = some y) (h : z_Mo Y gm mc mf ms n qe er) : z_Mo Y' gm mc mf ms n qe er := fun k h0 h1 => let ⟨q, u, v⟩ := h k h0 h1; ⟨q, u, v.keep ha hb hk⟩
/-- no edges -/
theorem z_N.zero (h : z_N ks Y ge gl n em ef et ec er gn gt ln lt qe ql qt) : z_N ks Y ge gl 0 em ef et ec er gn gt ln lt qe ql qt :=
  ⟨fun j h0 h1 => absurd h1 (by omega), h.2.1, fun i j hi hj => h.2.2.1 i j (hi.elim (fun z => absurd z (by omega)) Or.inr) (hj.elim (fun z => absurd z (by omega)) Or.inr), fun i j hi hj => h.2.2.2.1 i j (hi.elim (fun z => absurd z (by omega)) Or.inr) (hj.elim (fun z => absurd z (by omega)) Or.inr), by omega, by omega⟩
/-- a list emptied -/
theorem z_N.zap (h : z_N ks Y ge gl 0 em ef et ec er gn gt ln lt qe ql qt) {e : Int} (h0 : 0 ≤ e) (h1 : e < 18) (hk : ∀ x y, Y x = some y → x ≠ ql (20 + e.toNat) → Y' x = some y) (y' : Y' (ql (20 + e.toNat)) = some (z_ob 6 [.ref (qt (20 + e.toNat)), z_v 0])) : z_N ks Y' ge gl 0 em ef et ec er gn gt (va_up ln e.toNat 0) lt qe ql qt := by
  have te := (h.2.1 e h0 h1).2
  refine ⟨fun j j0 j1 => absurd j1 (by omega), fun j j0 j1 => ?_, h.2.2⟩
  obtain ⟨a1, a4⟩ := h.2.1 j j0 j1
  refine ⟨a1, ?_⟩
  obtain ⟨y, r, g, w, b⟩ := a4
  have hw : Y' (qt (20 + j.toNat)) = some (z_rr ks.2.2.2.2 2 g) := hk _ _ w (z_ne w te.1 (fun z => by cases z))
  by_cases he : j = e
  · subst he
    simp only [va_up, if_true]
    exact ⟨y', by omega, g, hw, fun i i0 i1 => absurd i1 (by omega)⟩
  · have hne : j.toNat ≠ e.toNat := by omega
    simp only [va_up, if_neg hne]
    refine ⟨hk _ _ y (fun z => ?_), r, g, hw, fun i i0 i1 => ?_⟩
    · have := h.2.2.1 _ _ (Or.inr (by omega)) (Or.inr (by omega)) z
      omega
    · obtain ⟨x, c, s, m, b1, b2, b3⟩ := b i i0 i1
      exact ⟨x, c, s, m, b1, hk _ _ b2 (z_ne b2 te.1 (fun z => by simp at z)), b3⟩
/-- other numbers, alike where it matters -/
theorem z_TX.congr {q t : Nat} {T : Nat → Int} {o n' : Int} (h : z_TX ks Y q t n T o) (e : n' = n) : z_TX ks Y q t n' T o := by subst e; exact h
theorem z_N.lim (h : z_N ks Y ge gl n em ef et ec er gn gt ln lt qe ql qt) {ln' : Nat → Int} (e : ∀ j, j < 18 → ln' j = ln j) : z_N ks Y ge gl n em ef et ec er gn gt ln' lt qe ql qt :=
  ⟨h.1, fun j h0 h1 => let ⟨a, d⟩ := h.2.1 j h0 h1; ⟨a, d.congr (e _ (by omega))⟩, h.2.2⟩
/-- an edge more -/
theorem z_N.edge (h : z_N ks Y ge gl n em ef et ec er gn gt ln lt qe ql qt) (hn : n ≤ 19) {m f t k r : Int} {a g w : Nat} (hk : ∀ x y, Y x = some y → Y' x = some y) (ya : Y' a = some (z_ob 0 [z_v m, z_v f, z_v t, z_v k, z_v r, .ref g])) (yg : Y' g = some (z_ob 6 [.ref w, z_v 0])) (yw : Y' w = some (z_rr ks.2.2.2.2 2 (fun _ => none))) (fg : ∀ x y, Y x = some y → x < g) (fw : ∀ x y, Y x = some y → x < w) (hr : 0 ≤ m ∧ m ≤ 2 ∧ 0 ≤ f ∧ f ≤ 5 ∧ 0 ≤ t ∧ t ≤ 5 ∧ -4 ≤ k ∧ k ≤ 4 ∧ z_rg r) :
    z_N ks Y' (va_up ge n.toNat (some a)) gl (n + 1) (va_up em n.toNat m) (va_up ef n.toNat f) (va_up et n.toNat t) (va_up ec n.toNat k) (va_up er n.toNat r) (va_up gn n.toNat 0) gt ln lt (va_up qe n.toNat a) (va_up ql n.toNat g) (va_up qt n.toNat w) := by
  obtain ⟨hn0, hn20⟩ := h.2.2.2.2
  have hl : ∀ i, z_lv n i → (∃ v, Y (ql i) = some v) ∧ ∃ v, Y (qt i) = some v := by
    intro i hi
    rcases hi with hi | hi
    · have t1 := (h.1 i (by omega) hi).2.2.2
      obtain ⟨y, _, g2, w2, _⟩ := t1
      exact ⟨⟨_, y⟩, _, w2⟩
    · have t1 := (h.2.1 ((i : Int) - 20) (by omega) (by omega)).2
      rw [show 20 + ((i : Int) - 20).toNat = i by omega] at t1
      obtain ⟨y, _, g2, w2, _⟩ := t1
      exact ⟨⟨_, y⟩, _, w2⟩
  have hlv : ∀ i, z_lv (n + 1) i → i ≠ n.toNat → z_lv n i := fun i hi hne => hi.elim (fun z => Or.inl (by omega)) Or.inr
  refine ⟨fun j j0 j1 => ?_, fun j j0 j1 => ?_, fun i j hi hj hij => ?_, fun i j hi hj hij => ?_, by omega, by omega⟩
  · by_cases he : j = n
    · subst he
      simp only [va_up, if_true]
      exact ⟨trivial, ya, hr, yg, by omega, _, yw, fun i i0 i1 => absurd i1 (by omega)⟩
    · have hne : j.toNat ≠ n.toNat := by omega
      obtain ⟨a1, a2, a3, a4⟩ := h.1 j j0 (by omega)
      simp only [va_up, if_neg hne]
      exact ⟨a1, hk _ _ a2, a3, a4.sub hk⟩
  · obtain ⟨a1, a4⟩ := h.2.1 j j0 j1
    have hne : 20 + j.toNat ≠ n.toNat := by omega
    simp only [va_up, if_neg hne]
    exact ⟨a1, a4.sub hk⟩
  · by_cases e1 : i = n.toNat <;> by_cases e2 : j = n.toNat
    · omega
    · simp only [va_up, if_neg e2, e1, if_true] at hij
      obtain ⟨⟨v, hv⟩, _⟩ := hl j (hlv j hj e2)
      have := fg _ _ hv
      omega
    · simp only [va_up, if_neg e1, e2, if_true] at hij
      obtain ⟨⟨v, hv⟩, _⟩ := hl i (hlv i hi e1)
      have := fg _ _ hv
      omega
    · simp only [va_up, if_neg e1, if_neg e2] at hij
      exact h.2.2.1 i j (hlv i hi e1) (hlv j hj e2) hij
  · by_cases e1 : i = n.toNat <;> by_cases e2 : j = n.toNat
    · omega
    · simp only [va_up, if_neg e2, e1, if_true] at hij
      obtain ⟨_, v, hv⟩ := hl j (hlv j hj e2)
      have := fw _ _ hv
      omega
    · simp only [va_up, if_neg e1, e2, if_true] at hij
      obtain ⟨_, v, hv⟩ := hl i (hlv i hi e1)
      have := fw _ _ hv
      omega
    · simp only [va_up, if_neg e1, if_neg e2] at hij
      exact h.2.2.2.1 i j (hlv i hi e1) (hlv j hj e2) hij
/-- the moves, with an edge more -/
theorem z_MX.edge {a q : Nat} {f s r : Int} (hn0 : 0 ≤ n) (h : z_MX Y q f s n qe er) : z_MX Y q f s (n + 1) (va_up qe n.toNat a) (va_up er n.toNat r) := by
  obtain ⟨r0, y, ⟨h1, h2, h3, h4⟩, h5, h6⟩ := h
  have e1 : va_up qe n.toNat a f.toNat = qe f.toNat := if_neg (by omega)
  have e2 : va_up er n.toNat r f.toNat = er f.toNat := if_neg (by omega)
  refine ⟨r0, ?_, ⟨h1, by omega, h3, by omega⟩, h5, ?_⟩
  · rw [e1, y]
    by_cases hs : s = -1
    · rw [if_pos hs, if_pos hs]
    · rw [if_neg hs, if_neg hs]
      have e3 : va_up qe n.toNat a s.toNat = qe s.toNat := if_neg (by omega)
      rw [e3]
  · rw [h6]
    unfold z_or
    by_cases hs : s = -1
    · rw [if_pos hs, if_pos hs, e2]
    · rw [if_neg hs, if_neg hs, e2]
      have e3 : va_up er n.toNat r s.toNat = er s.toNat := if_neg (by omega)
      rw [e3]
theorem z_Mo.edge {a : Nat} {r : Int} (hn0 : 0 ≤ n) (h : z_Mo Y gm mc mf ms n qe er) : z_Mo Y gm mc mf ms (n + 1) (va_up qe n.toNat a) (va_up er n.toNat r) := fun k h0 h1 => let ⟨q, u, v⟩ := h k h0 h1; ⟨q, u, v.edge hn0⟩
theorem z_Mo.none : z_Mo Y gm 0 mf ms n qe er := fun k h0 h1 => absurd h1 (by omega)
theorem z_MX.one {q a : Nat} {f r : Int} (y : Y q = some (z_ob 1 [z_v f, z_v (-1), .ref a, .null, z_v r])) (ea : qe f.toNat = a) (h : 0 ≤ f ∧ f < n) (hr : z_rg r) (e : r = er f.toNat) : z_MX Y q f (-1) n qe er := by
  subst ea
  exact ⟨r, y, ⟨h.1, h.2, by omega, by omega⟩, hr, e⟩
theorem z_MX.two {q a b : Nat} {f s r : Int} (y : Y q = some (z_ob 1 [z_v f, z_v s, .ref a, .ref b, z_v r])) (ea : qe f.toNat = a) (eb : qe s.toNat = b) (h : 0 ≤ f ∧ f < n) (h2 : 0 ≤ s ∧ s < n) (hr : z_rg r) (e : r = (z_i (er f.toNat) ||| z_i (er s.toNat)).toInt) : z_MX Y q f s n qe er := by
  subst ea
  subst eb
  have hs : ¬ s = -1 := by omega
  refine ⟨r, ?_, ⟨h.1, h.2, by omega, h2.2⟩, hr, ?_⟩
  · rw [y, if_neg hs]; rfl
  · unfold z_or; rw [if_neg hs]; exact e
end ZNS
end ZNET
