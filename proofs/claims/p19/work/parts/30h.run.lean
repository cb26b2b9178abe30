/-! tests, limits, greatest numbers, moves of a run: what both sides compute -/
abbrev z_pass (a s c : Int) : Prop := (s = 0 → a < 64 * c) ∧ (s = 1 → a ≤ 64 * c) ∧ (s = 2 → a = 64 * c) ∧ (s = 3 → 64 * c ≤ a) ∧ (4 ≤ s → 64 * c < a)
def z_alw (n : Int) (T : Nat → Int) (o : Int) (am : Nat → Int) : Prop := ∀ j : Int, 0 ≤ j → j < n → z_pass (am (T (o + 3 * j).toNat).toNat) (T (o + 3 * j + 1).toNat) (T (o + 3 * j + 2).toNat)
def z_lim (ln lt at0 am : Nat → Int) : Prop := ∀ m : Int, 0 ≤ m → m < 3 → z_alw (ln (6 * m + at0 m.toNat).toNat) lt (6 * (6 * m + at0 m.toNat)) am
theorem z_snoc {P : Int → Prop} {i : Int} (h : ∀ j : Int, 0 ≤ j → j < i → P j) (hp : P i) : ∀ j : Int, 0 ≤ j → j < i + 1 → P j := by
  intro j h0 h1
  by_cases he : j = i
  · subst he; exact hp
  · exact h j h0 (by omega)
theorem z_vac {P : Int → Prop} : ∀ j : Int, 0 ≤ j → j < 0 → P j := fun j h0 h1 => absurd h1 (by omega)
/-- a flag: so far A holds, or in the end B doesn't -/
def z_K3 (f : Int) (A B : Prop) : Prop := f = 1 ∧ A ∨ f = 0 ∧ ¬ B
theorem z_K3.bt {f : Int} {A B : Prop} (h : z_K3 f A B) : f = 0 ∨ f = 1 := h.elim (fun q => Or.inr q.1) (fun q => Or.inl q.1)
theorem z_K3.one {f : Int} {A A' B : Prop} (h : z_K3 f A B) (hf : f ≠ 0) (k : A → A') : z_K3 1 A' B := h.elim (fun q => Or.inl ⟨rfl, k q.2⟩) (fun q => absurd q.1 hf)
theorem z_K3.mono {f : Int} {A A' B : Prop} (h : z_K3 f A B) (k : A → A') : z_K3 f A' B := h.elim (fun q => Or.inl ⟨q.1, k q.2⟩) Or.inr
theorem z_K3.zero {f : Int} {A A' B : Prop} (h : z_K3 f A B) (hf : f = 0 ∨ ¬ B) : z_K3 0 A' B := h.elim (fun q => hf.elim (fun z => by rw [q.1] at z; cases z) (fun z => Or.inr ⟨rfl, z⟩)) (fun q => Or.inr ⟨rfl, q.2⟩)
theorem z_K3.fin {f : Int} {A B : Prop} (h : z_K3 f A B) (k : A → B) : f = 1 ∧ B ∨ f = 0 ∧ ¬ B := h.elim (fun q => Or.inl ⟨q.1, k q.2⟩) Or.inr
theorem z_K3.ini {A B : Prop} (a : A) : z_K3 1 A B := Or.inl ⟨rfl, a⟩
/-- two answers of one question -/
theorem z_isz {P Q : Prop} {a b : Int} (h : a = 1 ∧ P ∨ a = 0 ∧ ¬ P) (h' : b = 1 ∧ Q ∨ b = 0 ∧ ¬ Q) (e : P ↔ Q) : a = b := by
  rcases h with ⟨h, p⟩ | ⟨h, p⟩ <;> rcases h' with ⟨h', p'⟩ | ⟨h', p'⟩
  · omega
  · exact absurd (e.mp p) p'
  · exact absurd (e.mpr p') p
  · omega
theorem z_isz1 {P : Prop} {a : Int} (h : a = 1 ∧ P ∨ a = 0 ∧ ¬ P) (n : a ≠ 0) : P := h.elim (fun q => q.2) (fun q => absurd q.1 n)
theorem z_isz0 {P : Prop} {a : Int} (h : a = 1 ∧ P ∨ a = 0 ∧ ¬ P) (n : a = 0) : ¬ P := h.elim (fun q => by omega) (fun q => q.2)
theorem z_cp_add {f g : Nat → Int} {i : Int} (h : ∀ j : Nat, (j : Int) < i → f j = g j) (h0 : 0 ≤ i) : ∀ j : Nat, (j : Int) < i + 1 → va_up f i.toNat (g i.toNat) j = g j := by
  intro j hj
  by_cases he : j = i.toNat
  · subst he
    simp [va_up]
  · simp only [va_up, if_neg he]
    exact h j (by omega)
theorem z_cpyJ {P : Nat → Int → Prop} {f g : Nat → Int} {n : Nat} (hf : ∀ j, P j (f j)) (hg : ∀ j, P j (g j)) : ∀ j, P j (va_cpy f g 0 0 n j) := by
  intro j
  unfold va_cpy
  split
  · have h := hf (0 + (j - 0))
    rw [show 0 + (j - 0) = j by omega] at h ⊢
    exact h
  · exact hg j
theorem z_cpy0 {f g : Nat → Int} {n j : Nat} (h : j < n) : va_cpy f g 0 0 n j = f j := by
  rw [pk_cpy_in (Nat.zero_le _) (by omega)]
  congr 1
  omega
theorem z_alw.congr {n o : Int} {T am am' : Nat → Int} (hT : ∀ j : Int, 0 ≤ j → j < n → 0 ≤ T (o + 3 * j).toNat ∧ T (o + 3 * j).toNat ≤ 3) (e : ∀ x, x < 4 → am x = am' x) (h : z_alw n T o am) : z_alw n T o am' := by
  intro j h0 h1
  have h2 := h j h0 h1
  have h3 := hT j h0 h1
  rw [← e (T (o + 3 * j).toNat).toNat (by omega)]
  exact h2
/-- the clocks of tests are clocks -/
def z_ck (n : Int) (ln lt : Nat → Int) : Prop := ∀ k j : Int, 0 ≤ k → k < n → 0 ≤ j → j < ln k.toNat → 0 ≤ lt (6 * k + 3 * j).toNat ∧ lt (6 * k + 3 * j).toNat ≤ 3
theorem z_ckM {n : Int} {ln lt : Nat → Int} (h : ∀ j, (j % 3 = 0 → lt j ≤ 3) ∧ 0 ≤ lt j ∧ lt j ≤ 1000) : z_ck n ln lt := fun k j k0 k1 j0 j1 => by
  have h1 := h (6 * k + 3 * j).toNat
  omega
section ZCK
variable {ks : z_Ks} {Y : Nat → Option va_E} {ge gl : Nat → Option Nat} {n : Int} {em ef et ec er gn gt ln lt : Nat → Int} {qe ql qt : Nat → Nat}
theorem z_N.ckL (h : z_N ks Y ge gl n em ef et ec er gn gt ln lt qe ql qt) : z_ck 18 ln lt := fun k j k0 k1 j0 j1 => by
  obtain ⟨_, _, _, g, w, b⟩ := h.2.1 k k0 k1
  obtain ⟨x, c, s, m, _, _, ⟨h3, _, _⟩, h4⟩ := b j j0 j1
  omega
theorem z_N.ckG (h : z_N ks Y ge gl n em ef et ec er gn gt ln lt qe ql qt) : z_ck n gn gt := fun k j k0 k1 j0 j1 => by
  obtain ⟨_, _, _, _, _, g, w, b⟩ := h.1 k k0 k1
  obtain ⟨x, c, s, m, _, _, ⟨h3, _, _⟩, h4⟩ := b j j0 j1
  omega
end ZCK
theorem z_lim.iff {ln lt a1 a2 m1 m2 : Nat → Int} (hT : z_ck 18 ln lt) (hr : ∀ j, j < 3 → 0 ≤ a1 j ∧ a1 j ≤ 5) (ea : ∀ j, j < 3 → a1 j = a2 j) (e : ∀ x, x < 4 → m1 x = m2 x) : z_lim ln lt a1 m1 ↔ z_lim ln lt a2 m2 := by
  have key : ∀ {b1 b2 n1 n2 : Nat → Int}, (∀ j, j < 3 → 0 ≤ b1 j ∧ b1 j ≤ 5) → (∀ j, j < 3 → b1 j = b2 j) → (∀ x, x < 4 → n1 x = n2 x) → z_lim ln lt b1 n1 → z_lim ln lt b2 n2 := by
    intro b1 b2 n1 n2 hr ea e h m h0 h1
    have h2 := h m h0 h1
    have hr2 := hr m.toNat (by omega)
    rw [ea m.toNat (by omega)] at h2 hr2
    exact h2.congr (fun j j0 j1 => hT (6 * m + b2 m.toNat) j (by omega) (by omega) j0 j1) e
  exact ⟨key hr ea e, key (fun j hj => by rw [← ea j hj]; exact hr j hj) (fun j hj => (ea j hj).symm) (fun x hx => (e x hx).symm)⟩
/-! greatest numbers -/
def z_tn (n : Int) (T : Nat → Int) (o x v : Int) : Prop := ∃ j : Int, 0 ≤ j ∧ j < n ∧ T (o + 3 * j).toNat = x ∧ T (o + 3 * j + 2).toNat = v
def z_ge (i : Int) (gn gt : Nat → Int) (x v : Int) : Prop := ∃ e : Int, 0 ≤ e ∧ e < i ∧ z_tn (gn e.toNat) gt (6 * e) x v
def z_isMax (P : Int → Prop) (z : Int) : Prop := 0 ≤ z ∧ (∀ v, P v → v ≤ z) ∧ (z = 0 ∨ P z)
theorem z_isMax.uniq {P : Int → Prop} {a b : Int} (h : z_isMax P a) (h' : z_isMax P b) : a = b := by
  obtain ⟨a0, a1, a2⟩ := h
  obtain ⟨b0, b1, b2⟩ := h'
  have h1 : a ≤ b := a2.elim (fun z => by omega) (fun z => b1 a z)
  have h2 : b ≤ a := b2.elim (fun z => by omega) (fun z => a1 b z)
  omega
theorem z_isMax.iff {P Q : Int → Prop} {a : Int} (h : z_isMax P a) (e : ∀ v, P v ↔ Q v) : z_isMax Q a := ⟨h.1, fun v hv => h.2.1 v ((e v).mpr hv), h.2.2.elim Or.inl (fun z => Or.inr ((e a).mp z))⟩
theorem z_isMax.emp {P : Int → Prop} (h : ∀ v, ¬ P v) : z_isMax P 0 := ⟨by omega, fun v hv => absurd hv (h v), Or.inl rfl⟩
theorem z_isMax.or {P Q : Int → Prop} {a b z : Int} (h : z_isMax P a) (h' : z_isMax Q b) (hz : (z = a ∨ z = b) ∧ a ≤ z ∧ b ≤ z) : z_isMax (fun v => P v ∨ Q v) z := by
  obtain ⟨a0, a1, a2⟩ := h
  obtain ⟨b0, b1, b2⟩ := h'
  refine ⟨by omega, fun v hv => ?_, ?_⟩
  · rcases hv with hv | hv
    · have := a1 v hv
      omega
    · have := b1 v hv
      omega
  · rcases hz.1 with e | e
    · subst e
      exact a2.elim Or.inl (fun z => Or.inr (Or.inl z))
    · subst e
      exact b2.elim Or.inl (fun z => Or.inr (Or.inr z))
theorem z_tn_0 {T : Nat → Int} {o x v : Int} : ¬ z_tn 0 T o x v := fun ⟨j, h0, h1, _⟩ => by omega
theorem z_tn_succ {T : Nat → Int} {o x v i : Int} (hi : 0 ≤ i) : z_tn (i + 1) T o x v ↔ z_tn i T o x v ∨ (T (o + 3 * i).toNat = x ∧ T (o + 3 * i + 2).toNat = v) := by
  constructor
  · rintro ⟨j, h0, h1, h2, h3⟩
    by_cases he : j = i
    · subst he; exact Or.inr ⟨h2, h3⟩
    · exact Or.inl ⟨j, h0, by omega, h2, h3⟩
  · rintro (⟨j, h0, h1, h2⟩ | h)
    · exact ⟨j, h0, by omega, h2⟩
    · exact ⟨i, hi, by omega, h⟩
theorem z_ge_0 {gn gt : Nat → Int} {x v : Int} : ¬ z_ge 0 gn gt x v := fun ⟨j, h0, h1, _⟩ => by omega
theorem z_ge_succ {gn gt : Nat → Int} {x v i : Int} (hi : 0 ≤ i) : z_ge (i + 1) gn gt x v ↔ z_ge i gn gt x v ∨ z_tn (gn i.toNat) gt (6 * i) x v := by
  constructor
  · rintro ⟨j, h0, h1, h2⟩
    by_cases he : j = i
    · subst he; exact Or.inr h2
    · exact Or.inl ⟨j, h0, by omega, h2⟩
  · rintro (⟨j, h0, h1, h2⟩ | h)
    · exact ⟨j, h0, by omega, h2⟩
    · exact ⟨i, hi, by omega, h⟩
/-- one test more, of this clock and greater / of this clock, not greater, or of another -/
theorem z_mx_in {P : Int → Prop} {T : Nat → Int} {o x i z w : Int} (h : z_isMax (fun v => P v ∨ z_tn i T o x v) z) (hi : 0 ≤ i) (e1 : T (o + 3 * i).toNat = x) (e2 : T (o + 3 * i + 2).toNat = w) (hw : z < w) : z_isMax (fun v => P v ∨ z_tn (i + 1) T o x v) w := by
  obtain ⟨a0, a1, a2⟩ := h
  refine ⟨by omega, fun v hv => ?_, Or.inr (Or.inr ((z_tn_succ hi).mpr (Or.inr ⟨e1, e2⟩)))⟩
  rcases hv with hv | hv
  · have := a1 v (Or.inl hv)
    omega
  · rcases (z_tn_succ hi).mp hv with hv | ⟨_, hv⟩
    · have := a1 v (Or.inr hv)
      omega
    · omega
theorem z_mx_no {P : Int → Prop} {T : Nat → Int} {o x i z : Int} (h : z_isMax (fun v => P v ∨ z_tn i T o x v) z) (hi : 0 ≤ i) (e : T (o + 3 * i).toNat = x → T (o + 3 * i + 2).toNat ≤ z) : z_isMax (fun v => P v ∨ z_tn (i + 1) T o x v) z := by
  obtain ⟨a0, a1, a2⟩ := h
  refine ⟨a0, fun v hv => ?_, a2.elim Or.inl (fun q => Or.inr (q.elim Or.inl (fun q => Or.inr ((z_tn_succ hi).mpr (Or.inl q)))))⟩
  rcases hv with hv | hv
  · exact a1 v (Or.inl hv)
  · rcases (z_tn_succ hi).mp hv with hv | ⟨e1, hv⟩
    · exact a1 v (Or.inr hv)
    · have := e e1
      omega
def z_gr (x : Int) (n : Int) (gn gt ln lt : Nat → Int) : Int → Prop := z_isMax (fun v => z_ge n gn gt x v ∨ z_ge 18 ln lt x v)
/-! bits of resets -/
def z_btv (r x : Int) : Int := (z_i (z_i r >>> (z_i x &&& 31)).toInt &&& z_i 1).toInt
theorem z_and1 (a : Int32) : (a &&& z_i 1).toInt = 0 ∨ (a &&& z_i 1).toInt = 1 := by
  have h : (a &&& z_i 1).toBitVec = a.toBitVec &&& 1#32 := rfl
  have h2 : (a &&& z_i 1).toInt = ((a &&& z_i 1).toBitVec).toInt := rfl
  rw [h2, h]
  have h3 : (a.toBitVec &&& 1#32).toNat = a.toBitVec.toNat % 2 := by
    rw [BitVec.toNat_and]
    exact Nat.and_one_is_mod _
  have h4 : a.toBitVec.toNat % 2 < 2 := Nat.mod_lt _ (by omega)
  rw [BitVec.toInt_eq_toNat_cond, h3]
  split <;> omega
theorem z_btv01 (r x : Int) : z_btv r x = 0 ∨ z_btv r x = 1 := z_and1 _
theorem z_btv_or (a b x : Int) : z_btv (z_i a ||| z_i b).toInt x ≠ 0 ↔ z_btv a x ≠ 0 ∨ z_btv b x ≠ 0 := by
  have key : ∀ r : Int, z_btv r x ≠ 0 ↔ (((z_i r >>> (z_i x &&& 31)) &&& z_i 1).toBitVec ≠ 0#32) := by
    intro r
    unfold z_btv
    rw [z_of]
    constructor
    · intro h z
      apply h
      show BitVec.toInt _ = 0
      rw [z]
      rfl
    · intro h z
      apply h
      have z2 : BitVec.toInt ((z_i r >>> (z_i x &&& 31)) &&& z_i 1).toBitVec = BitVec.toInt 0#32 := z
      exact BitVec.eq_of_toInt_eq z2
  rw [key, key, key, z_of]
  have e : (((z_i a ||| z_i b) >>> (z_i x &&& 31)) &&& z_i 1).toBitVec = ((z_i a >>> (z_i x &&& 31)) &&& z_i 1).toBitVec ||| ((z_i b >>> (z_i x &&& 31)) &&& z_i 1).toBitVec := by
    rw [Int32.toBitVec_and, Int32.toBitVec_and, Int32.toBitVec_and, Int32.toBitVec_shiftRight, Int32.toBitVec_shiftRight, Int32.toBitVec_shiftRight, Int32.toBitVec_or]
    ext i hi
    simp only [BitVec.getElem_and, BitVec.getElem_or, BitVec.getElem_sshiftRight, BitVec.sshiftRight_eq', BitVec.msb_or, BitVec.getLsbD_or]
    split
    · exact Bool.and_or_distrib_right _ _ _
    · exact Bool.and_or_distrib_right _ _ _
  rw [e]
  constructor
  · intro h
    by_cases h1 : ((z_i a >>> (z_i x &&& 31)) &&& z_i 1).toBitVec = 0#32
    · refine Or.inr (fun h2 => h ?_)
      rw [h1, h2]
      rfl
    · exact Or.inl h1
  · intro h z
    have z1 := BitVec.or_eq_zero_iff.mp z
    exact h.elim (fun q => q z1.1) (fun q => q z1.2)
/-! a run -/
abbrev z_far (f : Nat → Int) (n : Int) : Prop := 1000000 < f 1 + n ∨ 1000000 < f 2 + n ∨ 1000000 < f 3 + n
def z_sh (f : Nat → Int) (n : Int) : Nat → Int := fun x => if x = 0 then f x else f x + n
def z_psR (n runs z : Int) (far P : Prop) : Prop := (¬ (1 ≤ n ∧ n ≤ 64000) ∧ z = -102) ∨ ((1 ≤ n ∧ n ≤ 64000) ∧ (runs = 0 ∨ far) ∧ z = -103) ∨ ((1 ≤ n ∧ n ≤ 64000) ∧ runs = 1 ∧ ¬ far ∧ P ∧ z = 1) ∨ ((1 ≤ n ∧ n ≤ 64000) ∧ runs = 1 ∧ ¬ far ∧ ¬ P ∧ z = 0)
def z_opn (e : Int) (em ef gn gt at0 am : Nat → Int) : Prop := at0 (em e.toNat).toNat = ef e.toNat ∧ z_alw (gn e.toNat) gt (6 * e) am
def z_op2 (e f : Int) (em ef gn gt at0 am : Nat → Int) : Prop := z_opn e em ef gn gt at0 am ∧ (f = -1 ∨ f ≠ -1 ∧ z_opn f em ef gn gt at0 am)
def z_goA (at0 em et : Nat → Int) (e f : Int) : Nat → Int := if f = -1 then va_up at0 (em e.toNat).toNat (et e.toNat) else va_up (va_up at0 (em e.toNat).toNat (et e.toNat)) (em f.toNat).toNat (et f.toNat)
def z_goC (am er : Nat → Int) (e f : Int) : Nat → Int := fun x => if 1 ≤ x ∧ z_btv (z_or er e f) x ≠ 0 then 0 else am x
def z_mvR (e f n runs z : Int) (M O P : Prop) : Prop := (¬ (0 ≤ e ∧ e < n ∧ (f = -1 ∨ 0 ≤ f ∧ f < n)) ∧ z = -101) ∨ ((0 ≤ e ∧ e < n ∧ (f = -1 ∨ 0 ≤ f ∧ f < n)) ∧ ¬ M ∧ z = -102) ∨ ((0 ≤ e ∧ e < n ∧ (f = -1 ∨ 0 ≤ f ∧ f < n)) ∧ M ∧ runs = 0 ∧ z = -103) ∨ ((0 ≤ e ∧ e < n ∧ (f = -1 ∨ 0 ≤ f ∧ f < n)) ∧ M ∧ runs = 1 ∧ ¬ (O ∧ P) ∧ z = 0) ∨ ((0 ≤ e ∧ e < n ∧ (f = -1 ∨ 0 ≤ f ∧ f < n)) ∧ M ∧ runs = 1 ∧ O ∧ P ∧ z = 1)
def z_runR (w runs : Int) (at0 am : Nat → Int) (t k : Int) : Int := if runs = 0 then -103 else if 0 ≤ w ∧ w ≤ 2 then at0 w.toNat else if 4 ≤ w ∧ w ≤ 6 then am (w - 3).toNat else if w = 7 then t else if w = 8 then k else -102
theorem z_isz_iff {P Q : Prop} {a : Int} (h : a = 1 ∧ P ∨ a = 0 ∧ ¬ P) (e : P ↔ Q) : a = 1 ∧ Q ∨ a = 0 ∧ ¬ Q := h.elim (fun q => Or.inl ⟨q.1, e.mp q.2⟩) (fun q => Or.inr ⟨q.1, fun z => q.2 (e.mpr z)⟩)
theorem z_mx_e {gn gt : Nat → Int} {x z i k : Int} (h : z_isMax (fun v => z_ge i gn gt x v ∨ z_tn k gt (6 * i) x v) z) (e : k = gn i.toNat) (hi : 0 ≤ i) : z_isMax (z_ge (i + 1) gn gt x) z := by
  subst e
  exact h.iff (fun v => (z_ge_succ hi).symm)
theorem z_mx_l {P : Int → Prop} {gn gt : Nat → Int} {x z i k : Int} (h : z_isMax (fun v => (P v ∨ z_ge i gn gt x v) ∨ z_tn k gt (6 * i) x v) z) (e : k = gn i.toNat) (hi : 0 ≤ i) : z_isMax (fun v => P v ∨ z_ge (i + 1) gn gt x v) z := by
  subst e
  exact h.iff (fun v => by rw [z_ge_succ hi, or_assoc])
theorem z_mx_0 {P : Int → Prop} {T : Nat → Int} {o x z : Int} (h : z_isMax P z) : z_isMax (fun v => P v ∨ z_tn 0 T o x v) z := h.iff (fun v => ⟨Or.inl, fun h => h.elim id (fun q => absurd q z_tn_0)⟩)
theorem z_mx_g {gn gt ln lt : Nat → Int} {x z i n : Int} (h : z_isMax (z_ge i gn gt x) z) (e : i = n) : z_isMax (fun v => z_ge n gn gt x v ∨ z_ge 0 ln lt x v) z := by
  subst e
  exact h.iff (fun v => ⟨Or.inl, fun h => h.elim id (fun q => absurd q z_ge_0)⟩)
theorem z_mx_f {gn gt ln lt : Nat → Int} {x z i n : Int} (h : z_isMax (fun v => z_ge n gn gt x v ∨ z_ge i ln lt x v) z) (e : i = 18) : z_gr x n gn gt ln lt z := by subst e; exact h
/-! pass -/
def z_fr (g : Nat → Int) (n i : Int) : Prop := ∃ j : Nat, 1 ≤ j ∧ (j : Int) < i ∧ 1000000 < g j + n
theorem z_fr_0 {g : Nat → Int} {n : Int} : ¬ z_fr g n 1 := fun ⟨j, h, h1, _⟩ => by omega
theorem z_fr_up {g : Nat → Int} {n i : Int} (h : z_fr g n i) : z_fr g n (i + 1) := let ⟨j, a, b, c⟩ := h; ⟨j, a, by omega, c⟩
theorem z_fr_at {g : Nat → Int} {n i : Int} (h0 : 1 ≤ i) (h : 1000000 < g i.toNat + n) : z_fr g n (i + 1) := ⟨i.toNat, by omega, by omega, h⟩
theorem z_fr_no {g : Nat → Int} {n i : Int} (h : ¬ z_fr g n i) (h1 : ¬ 1000000 < g i.toNat + n) : ¬ z_fr g n (i + 1) := by
  rintro ⟨j, a, b, c⟩
  by_cases he : j = i.toNat
  · subst he; exact h1 c
  · exact h ⟨j, a, by omega, c⟩
theorem z_fr_far {g : Nat → Int} {n i : Int} (e : i = 4) : z_fr g n i ↔ z_far g n := by
  subst e
  constructor
  · rintro ⟨j, a, b, c⟩
    rcases (show j = 1 ∨ j = 2 ∨ j = 3 by omega) with rfl | rfl | rfl
    · exact Or.inl c
    · exact Or.inr (Or.inl c)
    · exact Or.inr (Or.inr c)
  · rintro (h | h | h)
    · exact ⟨1, by omega, by omega, h⟩
    · exact ⟨2, by omega, by omega, h⟩
    · exact ⟨3, by omega, by omega, h⟩
theorem z_psB {fa g : Nat → Int} {i n v : Int} (FB : ∀ j : Nat, 1 ≤ j → (j : Int) < i → fa j = g j + n) (hv : v = g i.toNat + n) (hi : 0 ≤ i) : ∀ j : Nat, 1 ≤ j → (j : Int) < i + 1 → va_up fa i.toNat v j = g j + n := by
  intro j h1 h2
  by_cases he : j = i.toNat
  · subst he
    rw [z_upS]; exact hv
  · simp only [va_up, if_neg he]
    exact FB j h1 (by omega)
theorem z_psC {fa g : Nat → Int} {i v : Int} (FC : ∀ j : Nat, j < 4 → ((j : Int) < 1 ∨ i ≤ (j : Int)) → fa j = g j) (hi : 1 ≤ i) : ∀ j : Nat, j < 4 → ((j : Int) < 1 ∨ i + 1 ≤ (j : Int)) → va_up fa i.toNat v j = g j := by
  intro j h1 h2
  simp only [va_up]
  rw [if_neg (by omega)]
  exact FC j h1 (by omega)
theorem z_ps_sh {fa g : Nat → Int} {i n : Int} (FB : ∀ j : Nat, 1 ≤ j → (j : Int) < i → fa j = g j + n) (FC : ∀ j : Nat, j < 4 → ((j : Int) < 1 ∨ i ≤ (j : Int)) → fa j = g j) (e : i = 4) : ∀ j, j < 4 → fa j = z_sh g n j := by
  intro j hj
  unfold z_sh
  split
  · exact FC j hj (by omega)
  · exact FB j (by omega) (by omega)
theorem z_sh_rg {g : Nat → Int} {n : Int} (h : ∀ j, j < 4 → 0 ≤ g j ∧ g j ≤ 1000000) (hn : 1 ≤ n) (hf : ¬ z_far g n) : ∀ j, j < 4 → 0 ≤ z_sh g n j ∧ z_sh g n j ≤ 1000000 := by
  intro j hj
  have h0 := h j hj
  unfold z_sh
  split
  · exact h0
  · rcases (show j = 1 ∨ j = 2 ∨ j = 3 by omega) with rfl | rfl | rfl <;> omega
/-! move -/
theorem z_opn.congr {e : Int} {em ef gn gt a1 a2 m1 m2 : Nat → Int} (hm : 0 ≤ em e.toNat ∧ em e.toNat ≤ 2) {n : Int} (hT : z_ck n gn gt) (he : 0 ≤ e ∧ e < n) (ea : ∀ j, j < 3 → a1 j = a2 j) (em' : ∀ x, x < 4 → m1 x = m2 x) (h : z_opn e em ef gn gt a1 m1) : z_opn e em ef gn gt a2 m2 := by
  refine ⟨?_, h.2.congr (fun j j0 j1 => ?_) em'⟩
  · rw [← ea _ (by omega)]; exact h.1
  · exact hT e j he.1 he.2 j0 j1
theorem z_opn.iff {e : Int} {em ef gn gt a1 a2 m1 m2 : Nat → Int} (hm : 0 ≤ em e.toNat ∧ em e.toNat ≤ 2) {n : Int} (hT : z_ck n gn gt) (he : 0 ≤ e ∧ e < n) (ea : ∀ j, j < 3 → a1 j = a2 j) (em' : ∀ x, x < 4 → m1 x = m2 x) : z_opn e em ef gn gt a1 m1 ↔ z_opn e em ef gn gt a2 m2 := ⟨fun h => h.congr hm hT he ea em', fun h => h.congr hm hT he (fun j hj => (ea j hj).symm) (fun x hx => (em' x hx).symm)⟩
theorem z_up_pt {f g : Nat → Int} {n i : Nat} {v : Int} (h : ∀ j, j < n → f j = g j) : ∀ j, j < n → va_up f i v j = va_up g i v j := by
  intro j hj
  simp only [va_up]
  split
  · rfl
  · exact h j hj
theorem z_goA1 {at0 em et : Nat → Int} {e f : Int} (h : f = -1) : z_goA at0 em et e f = va_up at0 (em e.toNat).toNat (et e.toNat) := if_pos h
theorem z_goA2 {at0 em et : Nat → Int} {e f : Int} (h : f ≠ -1) : z_goA at0 em et e f = va_up (va_up at0 (em e.toNat).toNat (et e.toNat)) (em f.toNat).toNat (et f.toNat) := if_neg h
theorem z_goA_rg {at0 em et : Nat → Int} {e f : Int} (h : ∀ j, j < 3 → 0 ≤ at0 j ∧ at0 j ≤ 5) (ht : ∀ j, 0 ≤ et j ∧ et j ≤ 5) : ∀ j, j < 3 → 0 ≤ z_goA at0 em et e f j ∧ z_goA at0 em et e f j ≤ 5 := by
  intro j hj
  unfold z_goA
  split
  · simp only [va_up]
    split
    · exact ht _
    · exact h j hj
  · simp only [va_up]
    split
    · exact ht _
    · split
      · exact ht _
      · exact h j hj
theorem z_goC1 {am er : Nat → Int} {e f : Int} (h : f = -1) {x : Nat} : z_goC am er e f x = if 1 ≤ x ∧ z_btv (er e.toNat) x ≠ 0 then 0 else am x := by unfold z_goC z_or; rw [if_pos h]
theorem z_goC2 {am er : Nat → Int} {e f : Int} (h : f ≠ -1) {x : Nat} : z_goC am er e f x = if 1 ≤ x ∧ z_btv (er f.toNat) x ≠ 0 then 0 else if 1 ≤ x ∧ z_btv (er e.toNat) x ≠ 0 then 0 else am x := by
  unfold z_goC z_or
  rw [if_neg h]
  have k := z_btv_or (er e.toNat) (er f.toNat) x
  by_cases h1 : z_btv (er f.toNat) x ≠ 0
  · by_cases hx : 1 ≤ x
    · rw [if_pos ⟨hx, k.mpr (Or.inr h1)⟩, if_pos ⟨hx, h1⟩]
    · rw [if_neg (fun q => hx q.1), if_neg (fun q => hx q.1), if_neg (fun q => hx q.1)]
  · rw [if_neg (fun q : 1 ≤ x ∧ z_btv (er f.toNat) x ≠ 0 => h1 q.2)]
    by_cases h2 : 1 ≤ x ∧ z_btv (er e.toNat) x ≠ 0
    · rw [if_pos ⟨h2.1, k.mpr (Or.inl h2.2)⟩, if_pos h2]
    · rw [if_neg h2, if_neg (fun q => (k.mp q.2).elim (fun z => h2 ⟨q.1, z⟩) h1)]
theorem z_goC_rg {am er : Nat → Int} {e f : Int} (h : ∀ j, j < 4 → 0 ≤ am j ∧ am j ≤ 1000000) : ∀ j, j < 4 → 0 ≤ z_goC am er e f j ∧ z_goC am er e f j ≤ 1000000 := by
  intro j hj
  unfold z_goC
  split
  · omega
  · exact h j hj
theorem z_op2.iff {e f n : Int} {em ef gn gt a1 a2 m1 m2 : Nat → Int} (he : 0 ≤ e ∧ e < n) (hf : f = -1 ∨ 0 ≤ f ∧ f < n) (hm : ∀ j : Int, 0 ≤ j → j < n → 0 ≤ em j.toNat ∧ em j.toNat ≤ 2) (hT : z_ck n gn gt) (ea : ∀ j, j < 3 → a1 j = a2 j) (e' : ∀ x, x < 4 → m1 x = m2 x) : z_op2 e f em ef gn gt a1 m1 ↔ z_op2 e f em ef gn gt a2 m2 := by
  unfold z_op2
  rw [z_opn.iff (hm e he.1 he.2) hT he ea e']
  rcases hf with hf | hf
  · constructor
    · exact fun h => ⟨h.1, Or.inl hf⟩
    · exact fun h => ⟨h.1, Or.inl hf⟩
  · rw [z_opn.iff (hm f hf.1 hf.2) hT hf ea e']
theorem z_goA_pt {a1 a2 em et : Nat → Int} {e f : Int} {n : Nat} (h : ∀ j, j < n → a1 j = a2 j) : ∀ j, j < n → z_goA a1 em et e f j = z_goA a2 em et e f j := by
  unfold z_goA
  split
  · exact z_up_pt h
  · exact z_up_pt (z_up_pt h)
theorem z_goC_pt {m1 m2 er : Nat → Int} {e f : Int} (h : ∀ j, j < 4 → m1 j = m2 j) : ∀ j, j < 4 → z_goC m1 er e f j = z_goC m2 er e f j := by
  intro j hj
  unfold z_goC
  rw [h j hj]
theorem z_sh_pt {m1 m2 : Nat → Int} {n : Int} (h : ∀ j, j < 4 → m1 j = m2 j) : ∀ j, j < 4 → z_sh m1 n j = z_sh m2 n j := by
  intro j hj
  unfold z_sh
  rw [h j hj]
theorem z_far_pt {m1 m2 : Nat → Int} {n : Int} (h : ∀ j, j < 4 → m1 j = m2 j) : z_far m1 n ↔ z_far m2 n := by unfold z_far; rw [h 1 (by omega), h 2 (by omega), h 3 (by omega)]
theorem z_psR.eq {n r a b : Int} {F G P Q : Prop} (h : z_psR n r a F P) (h' : z_psR n r b G Q) (eF : F ↔ G) (eP : P ↔ Q) : a = b := by
  have eF' : (¬ F) = ¬ G := by rw [eF]
  have eP' : (¬ P) = ¬ Q := by rw [eP]
  unfold z_psR at h h'
  rcases h with ⟨x, rfl⟩ | ⟨x, y, rfl⟩ | ⟨x, y, z, w, rfl⟩ | ⟨x, y, z, w, rfl⟩ <;> rcases h' with ⟨x', rfl⟩ | ⟨x', y', rfl⟩ | ⟨x', y', z', w', rfl⟩ | ⟨x', y', z', w', rfl⟩ <;> first | rfl | exact absurd x' x | exact absurd x x' | exact y.elim (fun q => by omega) (fun q => absurd (eF.mp q) z') | exact y'.elim (fun q => by omega) (fun q => absurd (eF.mpr q) z) | exact absurd (eP.mp w) w' | exact absurd (eP.mpr w') w
theorem z_mvR.eq {e f n r a b : Int} {M O P M' O' P' : Prop} (h : z_mvR e f n r a M O P) (h' : z_mvR e f n r b M' O' P') (eM : M ↔ M') (eO : 0 ≤ e ∧ e < n ∧ (f = -1 ∨ 0 ≤ f ∧ f < n) → (O ∧ P ↔ O' ∧ P')) : a = b := by
  unfold z_mvR at h h'
  rcases h with ⟨x, rfl⟩ | ⟨x, y, rfl⟩ | ⟨x, y, z, rfl⟩ | ⟨x, y, z, w, rfl⟩ | ⟨x, y, z, w, v, rfl⟩ <;> rcases h' with ⟨x', rfl⟩ | ⟨x', y', rfl⟩ | ⟨x', y', z', rfl⟩ | ⟨x', y', z', w', rfl⟩ | ⟨x', y', z', w', v', rfl⟩ <;> first | rfl | exact absurd x' x | exact absurd x x' | exact absurd (eM.mp y) y' | exact absurd (eM.mpr y') y | omega | exact absurd ((eO x).mp ⟨w, v⟩) w' | exact absurd ((eO x).mpr ⟨w', v'⟩) w
