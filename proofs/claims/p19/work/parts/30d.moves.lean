/-! the moves in their order -/
abbrev z_lx (a b c d : Int) : Prop := a < c ∨ a = c ∧ b < d
def z_srt (mc : Int) (mf ms : Nat → Int) : Prop := ∀ k l : Int, 0 ≤ k → k < l → l < mc → z_lx (mf k.toNat) (ms k.toNat) (mf l.toNat) (ms l.toNat)
def z_mem (mc : Int) (mf ms : Nat → Int) (x y : Int) : Prop := ∃ k : Int, 0 ≤ k ∧ k < mc ∧ mf k.toNat = x ∧ ms k.toNat = y
/-- whether two edges are a move -/
def z_isM (e f : Int) (em ec : Nat → Int) : Prop := (f = -1 ∧ ec e.toNat = 0) ∨ (f ≠ -1 ∧ 0 < ec e.toNat ∧ ec f.toNat = -ec e.toNat ∧ em e.toNat ≠ em f.toNat)
def z_ml (n mc : Int) (mf ms em ec : Nat → Int) : Prop := z_srt mc mf ms ∧ ∀ x y : Int, z_mem mc mf ms x y ↔ (0 ≤ x ∧ x < n ∧ -1 ≤ y ∧ y < n) ∧ z_isM x y em ec
def z_insf (p : Int) (a : Int) (mf : Nat → Int) : Nat → Int := fun j => if (j : Int) < p then mf j else if (j : Int) = p then a else mf (j - 1)
theorem z_insf_lt {p a : Int} {mf : Nat → Int} {k : Int} (h0 : 0 ≤ k) (h : k < p) : z_insf p a mf k.toNat = mf k.toNat := if_pos (by omega)
theorem z_insf_eq {p a : Int} {mf : Nat → Int} (h0 : 0 ≤ p) : z_insf p a mf p.toNat = a := by unfold z_insf; rw [if_neg (by omega), if_pos (by omega)]
theorem z_insf_gt {p a : Int} {mf : Nat → Int} {k : Int} (h0 : 0 ≤ p) (h : p < k) : z_insf p a mf k.toNat = mf (k - 1).toNat := by
  unfold z_insf
  rw [if_neg (by omega), if_neg (by omega), show k.toNat - 1 = (k - 1).toNat by omega]
theorem z_insG1 {g fg : Nat → Option Nat} {i : Int} {v : Option Nat} (G1 : ∀ j : Int, 0 ≤ j → j < i → fg j.toNat = g j.toNat) : ∀ j : Int, 0 ≤ j → j < i + (-1) → va_up fg i.toNat v j.toNat = g j.toNat := fun j h0 h1 => (if_neg (by omega)).trans (G1 j h0 (by omega))
theorem z_insG2 {g fg : Nat → Option Nat} {i mc : Int} {v : Nat} (G1 : ∀ j : Int, 0 ≤ j → j < i → fg j.toNat = g j.toNat) (G2 : ∀ j : Int, i < j → j ≤ mc → fg j.toNat = g (j - 1).toNat) (hv : fg (i - 1).toNat = some v) (h0 : 0 < i) : ∀ j : Int, i + (-1) < j → j ≤ mc → va_up fg i.toNat (some v) j.toNat = g (j - 1).toNat := by
  intro j h1 h2
  by_cases he : j = i
  · subst he
    rw [← G1 (j - 1) (by omega) (by omega), hv]
    exact if_pos rfl
  · exact (if_neg (by omega)).trans (G2 j (by omega) h2)
theorem z_insG3 {mf ms : Nat → Int} {a b i mc : Int} (G3 : ∀ j : Int, i ≤ j → j < mc → z_lx a b (mf j.toNat) (ms j.toNat)) (h : z_lx a b (mf (i - 1).toNat) (ms (i - 1).toNat)) : ∀ j : Int, i + (-1) ≤ j → j < mc → z_lx a b (mf j.toNat) (ms j.toNat) := by
  intro j h1 h2
  by_cases he : j = i - 1
  · subst he
    exact h
  · exact G3 j (by omega) h2
section ZMV
variable {Y : Nat → Option va_E} {g fg : Nat → Option Nat} {mf ms em ec er : Nat → Int} {qe : Nat → Nat} {a b n mc i : Int} {q : Nat}
theorem z_ins_Mo (HMo : z_Mo Y g mc mf ms n qe er) (hq : z_MX Y q a b n qe er) (G1 : ∀ j : Int, 0 ≤ j → j < i → fg j.toNat = g j.toNat) (G2 : ∀ j : Int, i < j → j ≤ mc → fg j.toNat = g (j - 1).toNat) (h0 : 0 ≤ i) (h1 : i ≤ mc) : z_Mo Y (va_up fg i.toNat (some q)) (mc + 1) (z_insf i a mf) (z_insf i b ms) n qe er := by
  intro k k0 k1
  rcases Int.lt_trichotomy k i with h | h | h
  · obtain ⟨x, e, m⟩ := HMo k k0 (by omega)
    refine ⟨x, ?_, ?_⟩
    · rw [← e, ← G1 k k0 h]
      exact if_neg (by omega)
    · rw [z_insf_lt k0 h, z_insf_lt k0 h]; exact m
  · subst h
    refine ⟨q, if_pos rfl, ?_⟩
    rw [z_insf_eq k0, z_insf_eq k0]; exact hq
  · obtain ⟨x, e, m⟩ := HMo (k - 1) (by omega) (by omega)
    refine ⟨x, ?_, ?_⟩
    · rw [← e, ← G2 k h (by omega)]
      exact if_neg (by omega)
    · rw [z_insf_gt h0 h, z_insf_gt h0 h]; exact m
theorem z_ins_srt (hs : z_srt mc mf ms) (G3 : ∀ j : Int, i ≤ j → j < mc → z_lx a b (mf j.toNat) (ms j.toNat)) (hl : 0 < i → z_lx (mf (i - 1).toNat) (ms (i - 1).toNat) a b) (h0 : 0 ≤ i) (h1 : i ≤ mc) : z_srt (mc + 1) (z_insf i a mf) (z_insf i b ms) := by
  have low : ∀ k : Int, 0 ≤ k → k < i → z_lx (mf k.toNat) (ms k.toNat) a b := by
    intro k k0 k1
    have h2 := hl (by omega)
    by_cases he : k = i - 1
    · subst he; exact h2
    · have h3 := hs k (i - 1) k0 (by omega) (by omega)
      omega
  intro k l k0 kl l1
  rcases Int.lt_trichotomy k i with h | h | h
  · rw [z_insf_lt k0 h, z_insf_lt k0 h]
    rcases Int.lt_trichotomy l i with h' | h' | h'
    · rw [z_insf_lt (by omega) h', z_insf_lt (by omega) h']
      exact hs k l k0 kl (by omega)
    · subst h'
      rw [z_insf_eq h0, z_insf_eq h0]
      exact low k k0 h
    · rw [z_insf_gt h0 h', z_insf_gt h0 h']
      have h2 := low k k0 h
      have h3 := G3 (l - 1) (by omega) (by omega)
      omega
  · subst h
    rw [z_insf_eq h0, z_insf_eq h0, z_insf_gt h0 kl, z_insf_gt h0 kl]
    exact G3 (l - 1) (by omega) (by omega)
  · rw [z_insf_gt h0 h, z_insf_gt h0 h, z_insf_gt h0 (by omega), z_insf_gt h0 (by omega)]
    exact hs (k - 1) (l - 1) (by omega) (by omega) (by omega)
theorem z_ins_mem (h0 : 0 ≤ i) (h1 : i ≤ mc) (x y : Int) : z_mem (mc + 1) (z_insf i a mf) (z_insf i b ms) x y ↔ z_mem mc mf ms x y ∨ x = a ∧ y = b := by
  constructor
  · rintro ⟨k, k0, k1, e1, e2⟩
    rcases Int.lt_trichotomy k i with h | h | h
    · rw [z_insf_lt k0 h] at e1 e2
      exact Or.inl ⟨k, k0, by omega, e1, e2⟩
    · subst h
      rw [z_insf_eq k0] at e1 e2
      exact Or.inr ⟨e1.symm, e2.symm⟩
    · rw [z_insf_gt h0 h] at e1 e2
      exact Or.inl ⟨k - 1, by omega, by omega, e1, e2⟩
  · rintro (⟨k, k0, k1, e1, e2⟩ | ⟨rfl, rfl⟩)
    · by_cases h : k < i
      · exact ⟨k, k0, by omega, by rw [z_insf_lt k0 h]; exact e1, by rw [z_insf_lt k0 h]; exact e2⟩
      · refine ⟨k + 1, by omega, by omega, ?_, ?_⟩
        · rw [z_insf_gt h0 (by omega), show k + 1 - 1 = k by omega]; exact e1
        · rw [z_insf_gt h0 (by omega), show k + 1 - 1 = k by omega]; exact e2
    · exact ⟨i, h0, by omega, z_insf_eq h0, z_insf_eq h0⟩
/-- how many moves there can be -/
def z_key (x y : Int) : Int := 19 * x + (if y = -1 then 0 else if y < x then y else y - 1)
theorem z_cnt (hs : z_srt mc mf ms) (hm : ∀ x y, z_mem mc mf ms x y → (0 ≤ x ∧ x ≤ 19 ∧ -1 ≤ y ∧ y ≤ 19) ∧ z_isM x y em ec) : mc ≤ 380 := by
  have hr : ∀ k : Int, 0 ≤ k → k < mc → (0 ≤ mf k.toNat ∧ mf k.toNat ≤ 19 ∧ -1 ≤ ms k.toNat ∧ ms k.toNat ≤ 19) ∧ z_isM (mf k.toNat) (ms k.toNat) em ec := fun k h0 h1 => hm _ _ ⟨k, h0, h1, rfl, rfl⟩
  have hne : ∀ x y, z_isM x y em ec → y ≠ x ∨ y = -1 := by
    intro x y h
    rcases h with ⟨h, _⟩ | ⟨h1, h2, h3, h4⟩
    · exact Or.inr h
    · refine Or.inl (fun z => ?_)
      rw [z] at h4
      exact h4 rfl
  have hex : ∀ x y, z_isM x (-1) em ec → z_isM x y em ec → y = -1 := by
    intro x y h1 h2
    rcases h1 with ⟨_, h1⟩ | ⟨h1, _⟩
    · rcases h2 with ⟨h, _⟩ | ⟨_, h3, _⟩
      · exact h
      · omega
    · exact absurd rfl h1
  have key : ∀ d : Nat, (d : Int) < mc → (d : Int) ≤ z_key (mf d) (ms d) := by
    intro d
    induction d with
    | zero =>
      intro h
      have h1 := (hr 0 (by omega) h).1
      have h2 := hne _ _ (hr 0 (by omega) h).2
      simp only [Int.toNat_zero] at h1 h2
      unfold z_key
      split
      · omega
      · split <;> omega
    | succ d ih =>
      intro h
      have h1 := ih (by omega)
      have a1 := hr d (by omega) (by omega)
      have a2 := hr ((d : Int) + 1) (by omega) (by omega)
      have a3 := hs d ((d : Int) + 1) (by omega) (by omega) (by omega)
      rw [show ((d : Int)).toNat = d by omega] at a1 a3
      rw [show ((d : Int) + 1).toNat = d + 1 by omega] at a2 a3
      have n1 := hne _ _ a1.2
      have n2 := hne _ _ a2.2
      have x1 : mf d = mf (d + 1) → ms d = -1 → ms (d + 1) = -1 := fun e1 e2 => hex (mf d) _ (by rw [← e2]; exact a1.2) (by rw [e1]; exact a2.2)
      generalize mf d = f1 at *
      generalize ms d = s1 at *
      generalize mf (d + 1) = f2 at *
      generalize ms (d + 1) = s2 at *
      clear hr hne hex hs hm ih
      obtain ⟨a1, _⟩ := a1
      obtain ⟨a2, _⟩ := a2
      unfold z_key at h1 ⊢
      split at h1
      · split
        · omega
        · split <;> omega
      · split at h1
        · split
          · omega
          · split <;> omega
        · split
          · omega
          · split <;> omega
  rcases Int.lt_or_le mc 381 with h | h
  · omega
  · have h1 := key 380 (by omega)
    have a1 := hr 380 (by omega) (by omega)
    have n1 := hne _ _ a1.2
    rw [show (380 : Int).toNat = 380 from rfl] at a1 n1
    obtain ⟨a1, _⟩ := a1
    unfold z_key at h1
    split at h1
    · omega
    · split at h1 <;> omega
/-- the set of moves while an edge n is added: those among the edges ahead, and those with the edges below i -/
def z_D (n i : Int) (em ec : Nat → Int) (x y : Int) : Prop := z_isM x y em ec ∧ ((0 ≤ x ∧ x < n ∧ -1 ≤ y ∧ y < n) ∨ (x = n ∧ -1 ≤ y ∧ y < i) ∨ (y = n ∧ 0 ≤ x ∧ x < i))
theorem z_isM.edge {m k x y : Int} (h : 0 ≤ x ∧ x < n ∧ -1 ≤ y ∧ y < n) : z_isM x y (va_up em n.toNat m) (va_up ec n.toNat k) ↔ z_isM x y em ec := by
  have e1 : va_up em n.toNat m x.toNat = em x.toNat := if_neg (by omega)
  have e2 : va_up ec n.toNat k x.toNat = ec x.toNat := if_neg (by omega)
  unfold z_isM
  rw [e1, e2]
  by_cases hy : y = -1
  · constructor
    · rintro (h | ⟨h, _⟩)
      · exact Or.inl h
      · exact absurd hy h
    · rintro (h | ⟨h, _⟩)
      · exact Or.inl h
      · exact absurd hy h
  · have e3 : va_up em n.toNat m y.toNat = em y.toNat := if_neg (by omega)
    have e4 : va_up ec n.toNat k y.toNat = ec y.toNat := if_neg (by omega)
    rw [e3, e4]
/-- the moves ahead, seen with the new edge's numbers -/
theorem z_ml.old {m k : Int} (h : z_ml n mc mf ms em ec) : ∀ x y, z_mem mc mf ms x y ↔ (0 ≤ x ∧ x < n ∧ -1 ≤ y ∧ y < n) ∧ z_isM x y (va_up em n.toNat m) (va_up ec n.toNat k) := by
  intro x y
  rw [h.2 x y]
  constructor
  · rintro ⟨a, b⟩
    exact ⟨a, (z_isM.edge a).mpr b⟩
  · rintro ⟨a, b⟩
    exact ⟨a, (z_isM.edge a).mp b⟩
theorem z_D_no (hm : ∀ x y, z_mem mc mf ms x y ↔ (0 ≤ x ∧ x < n ∧ -1 ≤ y ∧ y < n) ∧ z_isM x y em ec) (h : ec n.toNat ≠ 0) (hn : 0 ≤ n) : ∀ x y, z_mem mc mf ms x y ↔ z_D n 0 em ec x y := by
  intro x y
  rw [hm x y]
  constructor
  · rintro ⟨a, b⟩
    exact ⟨b, Or.inl a⟩
  · rintro ⟨b, a | a | a⟩
    · exact ⟨a, b⟩
    · exfalso
      obtain ⟨rfl, a1, a2⟩ := a
      rcases b with ⟨_, b⟩ | ⟨b, _⟩
      · exact h b
      · omega
    · omega
theorem z_D_one {mc' : Int} {mf' ms' : Nat → Int} (hm : ∀ x y, z_mem mc mf ms x y ↔ (0 ≤ x ∧ x < n ∧ -1 ≤ y ∧ y < n) ∧ z_isM x y em ec) (h : ec n.toNat = 0) (hi : ∀ x y, z_mem mc' mf' ms' x y ↔ z_mem mc mf ms x y ∨ x = n ∧ y = -1) : ∀ x y, z_mem mc' mf' ms' x y ↔ z_D n 0 em ec x y := by
  intro x y
  rw [hi x y, hm x y]
  constructor
  · rintro (⟨a, b⟩ | ⟨rfl, rfl⟩)
    · exact ⟨b, Or.inl a⟩
    · exact ⟨Or.inl ⟨rfl, h⟩, Or.inr (Or.inl ⟨rfl, by omega, by omega⟩)⟩
  · rintro ⟨b, a | a | a⟩
    · exact Or.inl ⟨a, b⟩
    · exact Or.inr ⟨a.1, by omega⟩
    · omega
/-- one edge more looked at -/
theorem z_D_step {mc' : Int} {mf' ms' : Nat → Int} {a b : Int} (hm : ∀ x y, z_mem mc mf ms x y ↔ z_D n i em ec x y) (hi : ∀ x y, z_mem mc' mf' ms' x y ↔ z_mem mc mf ms x y ∨ x = a ∧ y = b) (h0 : 0 ≤ i) (h1 : i < n) (hab : (a = n ∧ b = i ∧ z_isM n i em ec) ∨ (a = i ∧ b = n ∧ ¬ z_isM n i em ec ∧ z_isM i n em ec)) : ∀ x y, z_mem mc' mf' ms' x y ↔ z_D n (i + 1) em ec x y := by
  have hexc : z_isM n i em ec → ¬ z_isM i n em ec := by
    rintro (⟨z, _⟩ | ⟨_, p1, p2, _⟩) (⟨z', _⟩ | ⟨_, p3, p4, _⟩)
    · omega
    · omega
    · omega
    · omega
  intro x y
  rw [hi x y, hm x y]
  constructor
  · rintro (⟨p, q⟩ | ⟨rfl, rfl⟩)
    · refine ⟨p, ?_⟩
      rcases q with q | q | q
      · exact Or.inl q
      · exact Or.inr (Or.inl ⟨q.1, q.2.1, by omega⟩)
      · exact Or.inr (Or.inr ⟨q.1, q.2.1, by omega⟩)
    · rcases hab with ⟨rfl, rfl, p⟩ | ⟨rfl, rfl, _, p⟩
      · exact ⟨p, Or.inr (Or.inl ⟨rfl, by omega, by omega⟩)⟩
      · exact ⟨p, Or.inr (Or.inr ⟨rfl, by omega, by omega⟩)⟩
  · rintro ⟨p, q⟩
    rcases q with q | q | q
    · exact Or.inl ⟨p, Or.inl q⟩
    · by_cases hy : y = i
      · obtain ⟨rfl, _⟩ := q
        subst hy
        rcases hab with ⟨rfl, rfl, _⟩ | ⟨_, _, p2, _⟩
        · exact Or.inr ⟨rfl, rfl⟩
        · exact absurd p p2
      · exact Or.inl ⟨p, Or.inr (Or.inl ⟨q.1, q.2.1, by omega⟩)⟩
    · by_cases hx : x = i
      · obtain ⟨rfl, _⟩ := q
        subst hx
        rcases hab with ⟨_, _, p2⟩ | ⟨rfl, rfl, _⟩
        · exact absurd p (hexc p2)
        · exact Or.inr ⟨rfl, rfl⟩
      · exact Or.inl ⟨p, Or.inr (Or.inr ⟨q.1, q.2.1, by omega⟩)⟩
theorem z_D_skip (hm : ∀ x y, z_mem mc mf ms x y ↔ z_D n i em ec x y) (h1 : ¬ z_isM n i em ec) (h2 : ¬ z_isM i n em ec) : ∀ x y, z_mem mc mf ms x y ↔ z_D n (i + 1) em ec x y := by
  intro x y
  rw [hm x y]
  constructor
  · rintro ⟨p, q⟩
    refine ⟨p, ?_⟩
    rcases q with q | q | q
    · exact Or.inl q
    · exact Or.inr (Or.inl ⟨q.1, q.2.1, by omega⟩)
    · exact Or.inr (Or.inr ⟨q.1, q.2.1, by omega⟩)
  · rintro ⟨p, q⟩
    rcases q with q | q | q
    · exact ⟨p, Or.inl q⟩
    · by_cases hy : y = i
      · obtain ⟨rfl, _⟩ := q
        subst hy
        exact absurd p h1
      · exact ⟨p, Or.inr (Or.inl ⟨q.1, q.2.1, by omega⟩)⟩
    · by_cases hx : x = i
      · obtain ⟨rfl, _⟩ := q
        subst hx
        exact absurd p h2
      · exact ⟨p, Or.inr (Or.inr ⟨q.1, q.2.1, by omega⟩)⟩
theorem z_D_end (hm : ∀ x y, z_mem mc mf ms x y ↔ z_D n n em ec x y) (hs : z_srt mc mf ms) (hn : 0 ≤ n) : z_ml (n + 1) mc mf ms em ec := by
  refine ⟨hs, fun x y => ?_⟩
  rw [hm x y]
  have hne : z_isM n n em ec → False := by
    rintro (⟨z, _⟩ | ⟨_, _, _, p⟩)
    · omega
    · exact p rfl
  constructor
  · rintro ⟨p, q⟩
    exact ⟨by omega, p⟩
  · rintro ⟨q, p⟩
    refine ⟨p, ?_⟩
    by_cases hx : x = n
    · by_cases hy : y = n
      · subst hx
        subst hy
        exact (hne p).elim
      · exact Or.inr (Or.inl ⟨hx, by omega, by omega⟩)
    · by_cases hy : y = n
      · exact Or.inr (Or.inr ⟨hy, by omega, by omega⟩)
      · exact Or.inl (by omega)
theorem z_D_cnt (hs : z_srt mc mf ms) (hm : ∀ x y, z_mem mc mf ms x y ↔ z_D n i em ec x y) (hn : 0 ≤ n) (hn2 : n ≤ 19) (hi : i ≤ n) : mc ≤ 380 :=
  z_cnt hs (fun x y h => by
    obtain ⟨p, q⟩ := (hm x y).mp h
    exact ⟨by omega, p⟩)
theorem z_old_cnt (hs : z_srt mc mf ms) (hm : ∀ x y, z_mem mc mf ms x y ↔ (0 ≤ x ∧ x < n ∧ -1 ≤ y ∧ y < n) ∧ z_isM x y em ec) (hn2 : n ≤ 20) : mc ≤ 380 :=
  z_cnt hs (fun x y h => by
    obtain ⟨p, q⟩ := (hm x y).mp h
    exact ⟨by omega, q⟩)
theorem z_D_new (hm : ∀ x y, z_mem mc mf ms x y ↔ z_D n i em ec x y) (h : ¬ z_D n i em ec a b) : ∀ k : Int, 0 ≤ k → k < mc → ¬ (mf k.toNat = a ∧ ms k.toNat = b) := fun k h0 h1 e => h ((hm a b).mp ⟨k, h0, h1, e.1, e.2⟩)
theorem z_old_new (hm : ∀ x y, z_mem mc mf ms x y ↔ (0 ≤ x ∧ x < n ∧ -1 ≤ y ∧ y < n) ∧ z_isM x y em ec) (h : ¬ (0 ≤ a ∧ a < n ∧ -1 ≤ b ∧ b < n)) : ∀ k : Int, 0 ≤ k → k < mc → ¬ (mf k.toNat = a ∧ ms k.toNat = b) := fun k h0 h1 e => h ((hm a b).mp ⟨k, h0, h1, e.1, e.2⟩).1
end ZMV
