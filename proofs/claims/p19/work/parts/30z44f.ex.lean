/-! what the two sides' explorers have alike, and their answers (draft) -/
def z_EX (cn ct cz : Int) (sf sb : Nat → Int) (mn mx N : Int) (pl zn pa me mf mv : Nat → Int) : Prop := cn = mn ∧ ct = mx ∧ (mn ≠ 0 → N = 0) ∧ (mn = 0 → cz = N ∧ zo_SR cz sf sb pl zn pa me mf mv ∧ ∀ i : Nat, (i : Int) < N → zo_Z 16016 16016 32015 (fun k => zn (16 * i + k)))
section ZEX
variable {cn ct cz mn mx N : Int} {sf sb pl zn pa me mf mv : Nat → Int} {z z' : Int}
theorem z_EX.need (h : z_EX cn ct cz sf sb mn mx N pl zn pa me mf mv) : z_EX 1 ct cz sf sb 1 mx 0 pl zn pa me mf mv := ⟨rfl, h.2.1, fun _ => rfl, fun q => absurd q (by omega)⟩
theorem z_EX.sel {P : Prop} [Decidable P] (h : z_EX cn ct cz sf sb mn mx N pl zn pa me mf mv) : z_EX (z_sel P 1 cn) ct cz sf sb (z_sel P 1 mn) mx (z_sel P 0 N) pl zn pa me mf mv := by
  by_cases q : P
  · rw [z_sel_pos q, z_sel_pos q, z_sel_pos q]
    exact h.need
  · rw [z_sel_neg q, z_sel_neg q, z_sel_neg q]
    exact h
theorem z_EX.st (h : z_EX cn ct cz sf sb mn mx N pl zn pa me mf mv) {i w : Int} : z_stA i w cn cz (sf (i * 7 + w).toNat) = z_stA i w mn N (z_tl i w pl pa me mf mv) := by
  obtain ⟨e1, _, _, h4⟩ := h
  subst e1
  unfold z_stA
  by_cases q : cn = 0
  · obtain ⟨e2, h5, _⟩ := h4 q
    subst e2
    rw [if_neg (show ¬ cn ≠ 0 by omega), if_neg (show ¬ cn ≠ 0 by omega)]
    by_cases q2 : 0 ≤ i ∧ i < cz
    · rw [if_pos q2, if_pos q2]
      by_cases q3 : 0 ≤ w ∧ w ≤ 6
      · rw [if_pos q3, if_pos q3]
        obtain ⟨a1, _, a3, a4, a5, a6⟩ := h5 i.toNat (by omega)
        unfold z_tl
        rcases (show w < 3 ∨ w = 3 ∨ w = 4 ∨ w = 5 ∨ w = 6 by omega) with k | rfl | rfl | rfl | rfl
        · rw [if_pos k, show (i * 7 + w).toNat = 7 * i.toNat + w.toNat by omega, show (3 * i + w).toNat = 3 * i.toNat + w.toNat by omega]
          exact a1 _ (by omega)
        · rw [if_neg (by omega), if_pos rfl, show (i * 7 + 3).toNat = 7 * i.toNat + 3 by omega]; exact a3
        · rw [if_neg (by omega), if_neg (by omega), if_pos rfl, show (i * 7 + 4).toNat = 7 * i.toNat + 4 by omega]; exact a4
        · rw [if_neg (by omega), if_neg (by omega), if_neg (by omega), if_pos rfl, show (i * 7 + 5).toNat = 7 * i.toNat + 5 by omega]; exact a5
        · rw [if_neg (by omega), if_neg (by omega), if_neg (by omega), if_neg (by omega), show (i * 7 + 6).toNat = 7 * i.toNat + 6 by omega]; exact a6
      · rw [if_neg q3, if_neg q3]
    · rw [if_neg q2, if_neg q2]
  · rw [if_pos q, if_pos q]
theorem zo_SR.zno (h : zo_SR N sf sb pl zn pa me mf mv) {i x y : Int} (hi : 0 ≤ i ∧ i < N) (hx : 0 ≤ x ∧ x ≤ 3) (hy : 0 ≤ y ∧ y ≤ 3) : sb (16 * i + 4 * x + y).toNat = zn (16 * i + 4 * x + y).toNat := by
  have q := (h i.toNat (by omega)).2.1 (4 * x + y).toNat (by omega)
  rw [show 16 * i.toNat + (4 * x + y).toNat = (16 * i + 4 * x + y).toNat by omega] at q
  exact q
theorem z_EX.bd (h : z_EX cn ct cz sf sb mn mx N pl zn pa me mf mv) {i x y : Int} : z_bdA i x y cn cz (sb (16 * i + 4 * x + y).toNat) = z_bdA i x y mn N (zn (16 * i + 4 * x + y).toNat) := by
  obtain ⟨e1, _, _, h4⟩ := h
  subst e1
  unfold z_bdA
  by_cases q : cn = 0
  · obtain ⟨e2, h5, _⟩ := h4 q
    subst e2
    rw [if_neg (show ¬ cn ≠ 0 by omega), if_neg (show ¬ cn ≠ 0 by omega)]
    by_cases q2 : (0 ≤ i ∧ i < cz) ∧ (0 ≤ x ∧ x ≤ 3) ∧ 0 ≤ y ∧ y ≤ 3
    · rw [if_pos q2, if_pos q2]
      exact h5.zno q2.1 q2.2.1 q2.2.2
    · rw [if_neg q2, if_neg q2]
  · rw [if_pos q, if_pos q]
theorem z_rcA.eq {a b c : Int} {P Q : Int → Prop} (h : z_rcA a b c cn cz P z) (h' : z_rcA a b c mn N Q z') (e : cn = mn) (k : mn = 0 → cz = N ∧ (((-1 ≤ a ∧ a ≤ 5) ∧ (-1 ≤ b ∧ b ≤ 5) ∧ -1 ≤ c ∧ c ≤ 5) → ∀ i, 0 ≤ i → i < N → (P i ↔ Q i))) : z = z' := by
  subst e
  rcases h with ⟨h1, h2⟩ | ⟨h1, h2, h3⟩ | ⟨h1, h2, h3⟩ <;> rcases h' with ⟨k1, k2⟩ | ⟨k1, k2, k3⟩ | ⟨k1, k2, k3⟩
  · omega
  · exact absurd k1 h1
  · exact absurd k1 h1
  · exact absurd h1 k1
  · omega
  · exact absurd k2 h2
  · exact absurd h1 k1
  · exact absurd h2 k2
  · obtain ⟨e2, e3⟩ := k h1
    subst e2
    exact h3.eq k3 (e3 h2)
theorem z_EX.rc (h : z_EX cn ct cz sf sb mn mx N pl zn pa me mf mv) {a b c : Int} (h1 : z_rcA a b c cn cz (fun i => (a = -1 ∨ a = sf (7 * i.toNat)) ∧ (b = -1 ∨ b = sf (7 * i.toNat + 1)) ∧ (c = -1 ∨ c = sf (7 * i.toNat + 2))) z) (h2 : z_rcA a b c mn N (fun i => (a < 0 ∨ pl (3 * i).toNat = a) ∧ (b < 0 ∨ pl (3 * i + 1).toNat = b) ∧ (c < 0 ∨ pl (3 * i + 2).toNat = c)) z') : z = z' := by
  obtain ⟨e1, _, _, h4⟩ := h
  refine h1.eq h2 e1 (fun q => ⟨(h4 q).1, fun r i i0 i1 => ?_⟩)
  obtain ⟨e2, h5, _⟩ := h4 q
  obtain ⟨a1, _⟩ := h5 i.toNat (by omega)
  have b0 := a1 0 (by omega)
  have b1 := a1 1 (by omega)
  have b2 := a1 2 (by omega)
  rw [show 3 * i.toNat + 0 = (3 * i).toNat by omega] at b0
  rw [show 3 * i.toNat + 1 = (3 * i + 1).toNat by omega] at b1
  rw [show 3 * i.toNat + 2 = (3 * i + 2).toNat by omega] at b2
  rw [Nat.add_zero] at b0
  constructor <;> (intro k; omega)
theorem z_EX.hs (h : z_EX cn ct cz sf sb mn mx N pl zn pa me mf mv) {i a b c : Int} {am : Nat → Int} (h1 : z_hsA i a b c cn cz (z_ho sb i am) z) (h2 : z_hsA i a b c mn N (z_ho zn i am) z') : z = z' := by
  obtain ⟨e1, _, _, h4⟩ := h
  subst e1
  by_cases q : cn = 0
  · obtain ⟨e2, h5, _⟩ := h4 q
    subst e2
    by_cases q2 : 0 ≤ i ∧ i < cz
    · have e : z_ho sb i am ↔ z_ho zn i am := z_ho.iff q2.1 (h5 i.toNat (by omega)).2.1 (fun _ _ => rfl)
      unfold z_hsA at h1 h2
      rw [e] at h1
      by_cases q3 : z_ho zn i am
      · simp only [q3, not_true_eq_false, and_true, and_false, or_false] at h1 h2
        omega
      · simp only [q3, not_false_eq_true, and_true, and_false, false_or] at h1 h2
        omega
    · unfold z_hsA at h1 h2
      have a1 : z = -101 := by rcases h1 with k | k | k | k <;> first | exact k.2.2 | exact absurd q k.1 | exact absurd k.1.2 q2
      have a2 : z' = -101 := by rcases h2 with k | k | k | k <;> first | exact k.2.2 | exact absurd q k.1 | exact absurd k.1.2 q2
      omega
  · unfold z_hsA at h1 h2
    have a1 : z = -103 := by rcases h1 with k | k | k | k <;> first | exact k.2 | exact absurd k.1 q | exact absurd k.1.1 q
    have a2 : z' = -103 := by rcases h2 with k | k | k | k <;> first | exact k.2 | exact absurd k.1 q | exact absurd k.1.1 q
    omega
theorem z_EX.wy (h : z_EX cn ct cz sf sb mn mx N pl zn pa me mf mv) (hc : z_ch N pa mv me) {i k w : Int} : z_wyA i k w cn cz (sf (i * 7 + 6 : Int).toNat) (sf (7 * (z_up (fun j => sf (7 * j + 3)) (sf (i * 7 + 6 : Int).toNat - (k + 1)).toNat i).toNat + 4)) (sf (7 * (z_up (fun j => sf (7 * j + 3)) (sf (i * 7 + 6 : Int).toNat - (k + 1)).toNat i).toNat + 5)) = z_wyA i k w mn N (mv i.toNat) (me (z_up pa (mv i.toNat - (k + 1)).toNat i).toNat) (mf (z_up pa (mv i.toNat - (k + 1)).toNat i).toNat) := by
  obtain ⟨e1, _, _, h4⟩ := h
  subst e1
  by_cases q : cn = 0
  · obtain ⟨e2, h5, _⟩ := h4 q
    subst e2
    by_cases q2 : 0 ≤ i ∧ i < cz
    · have em : sf (i * 7 + 6 : Int).toNat = mv i.toNat := by
        rw [show (i * 7 + 6 : Int).toNat = 7 * i.toNat + 6 by omega]
        exact (h5 i.toNat (by omega)).2.2.2.2.2
      rw [em]
      by_cases q3 : 0 ≤ k ∧ k < mv i.toNat
      · obtain ⟨u1, u2, _⟩ := z_up_eq (pb := fun j => sf (7 * j + 3)) hc q2 (fun j hj => (h5 j hj).2.2.1.symm) (mv i.toNat - (k + 1)).toNat (by omega)
        rw [← u1]
        obtain ⟨_, _, _, a4, a5, _⟩ := h5 (z_up pa (mv i.toNat - (k + 1)).toNat i).toNat (by omega)
        rw [a4, a5]
      · rw [← z_wyU q (fun r => q3 r.2), ← z_wyU q (fun r => q3 r.2)]
    · rw [← z_wyU q (fun r => q2 r.1), ← z_wyU q (fun r => q2 r.1)]
  · rw [← z_wyN q, ← z_wyN q]
theorem z_EX.ctt (h : z_EX cn ct cz sf sb mn mx N pl zn pa me mf mv) {w n l g m : Int} : z_ctA w n l g (z_sel (cn = 0) cz 0) m cn ct = z_ctA w n l g N m mn mx := by
  obtain ⟨e1, e2, h3, h4⟩ := h
  subst e1
  subst e2
  by_cases q : cn = 0
  · rw [z_sel_pos q, (h4 q).1]
  · rw [z_sel_neg q, h3 q]
theorem z_EX.he (h : z_EX cn ct cz sf sb mn mx N pl zn pa me mf mv) {g r : Int} {cp ca ra rc : Nat → Int} (hp : ∀ j, j < 3 → 0 ≤ cp j) (hr : g = 1 → (∀ j, j < 3 → cp j = ra j) ∧ ∀ j, j < 4 → ca j = rc j) (e : g = r)
    (h1 : ((g = 0 ∨ cn ≠ 0) ∧ z = -103) ∨ ((g = 1 ∧ cn = 0) ∧ z_fst (fun i => (∀ m : Int, 0 ≤ m → m < 3 → cp m.toNat = -1 ∨ cp m.toNat = sf (7 * i.toNat + m.toNat)) ∧ z_ho sb i ca) cz z))
    (h2 : ((r = 0 ∨ mn ≠ 0) ∧ z' = -103) ∨ ((r = 1 ∧ mn = 0) ∧ z_fst (fun i => (∀ m : Int, 0 ≤ m → m < 3 → pl (3 * i + m).toNat = ra m.toNat) ∧ z_ho zn i rc) N z')) : z = z' := by
  obtain ⟨e1, _, _, h4⟩ := h
  subst e1
  subst e
  rcases h1 with ⟨a1, a2⟩ | ⟨a1, a2⟩ <;> rcases h2 with ⟨b1, b2⟩ | ⟨b1, b2⟩
  · omega
  · omega
  · omega
  · obtain ⟨e2, h5, _⟩ := h4 a1.2
    subst e2
    obtain ⟨r1, r2⟩ := hr a1.1
    refine a2.eq b2 (fun i i0 i1 => ?_)
    obtain ⟨s1, s2, _⟩ := h5 i.toNat (by omega)
    have eh : z_ho sb i ca ↔ z_ho zn i rc := z_ho.iff i0 s2 r2
    have ep : ∀ m : Int, 0 ≤ m → m < 3 → ((cp m.toNat = -1 ∨ cp m.toNat = sf (7 * i.toNat + m.toNat)) ↔ pl (3 * i + m).toNat = ra m.toNat) := by
      intro m m0 m1
      have c1 := hp m.toNat (by omega)
      have c2 := r1 m.toNat (by omega)
      have c3 := s1 m.toNat (by omega)
      rw [show 3 * i.toNat + m.toNat = (3 * i + m).toNat by omega] at c3
      omega
    show (_ ∧ _) ↔ (_ ∧ _)
    rw [eh]
    exact ⟨fun q => ⟨fun m m0 m1 => (ep m m0 m1).mp (q.1 m m0 m1), q.2⟩, fun q => ⟨fun m m0 m1 => (ep m m0 m1).mpr (q.1 m m0 m1), q.2⟩⟩
theorem z_EX.ex {cn' ct' cz' mn' mx' N' n : Int} {sf' sb' pl' zn' pa' me' mf' mv' : Nat → Int} {V ZC : Prop} {R : List zo_S × Bool} (h : z_EX cn ct cz sf sb mn mx N pl zn pa me mf mv) (h0 : 0 ≤ cz') (h0' : 0 ≤ N')
    (h1 : (¬ V ∧ z = -102 ∧ cz' = cz ∧ cn' = cn ∧ ct' = ct ∧ sf' = sf ∧ sb' = sb) ∨ (V ∧ ct = 40 ∧ z = -104 ∧ cz' = cz ∧ cn' = cn ∧ ct' = ct ∧ sf' = sf ∧ sb' = sb) ∨ (V ∧ ct ≠ 40 ∧ (cn' = 0 ∧ ct' = ct + 1) ∧ ZC ∧ ((R = (zo_ab cz' (zo_sC sf' sb'), false) ∧ z = cz') ∨ (R = (zo_ab cz' (zo_sC sf' sb'), true) ∧ z = -1 - n))))
    (h2 : (¬ V ∧ z' = -102 ∧ mx' = mx ∧ mn' = mn ∧ N' = N ∧ pl' = pl ∧ zn' = zn ∧ pa' = pa ∧ me' = me ∧ mf' = mf ∧ mv' = mv) ∨ (V ∧ mx = 40 ∧ z' = -104 ∧ mx' = mx ∧ mn' = mn ∧ N' = N ∧ pl' = pl ∧ zn' = zn ∧ pa' = pa ∧ me' = me ∧ mf' = mf ∧ mv' = mv) ∨ (V ∧ mx ≠ 40 ∧ (mx' = mx + 1 ∧ mn' = 0 ∧ (∀ i : Nat, (i : Int) < N' → zo_Z 16016 16016 32015 (fun k => zn' (16 * i + k))) ∧ ((R = (zo_ab N' (zo_sM pl' zn' pa' me' mf' mv'), false) ∧ z' = N') ∨ (R = (zo_ab N' (zo_sM pl' zn' pa' me' mf' mv'), true) ∧ z' = -1 - n))))) : z = z' ∧ z_EX cn' ct' cz' sf' sb' mn' mx' N' pl' zn' pa' me' mf' mv' := by
  have e2 := h.2.1
  rcases h1 with ⟨a1, a2, rfl, rfl, rfl, rfl, rfl⟩ | ⟨a1, a2, a3, rfl, rfl, rfl, rfl, rfl⟩ | ⟨a1, a2, ⟨a3, a4⟩, _, a5⟩ <;> rcases h2 with ⟨b1, b2, rfl, rfl, rfl, rfl, rfl, rfl, rfl, rfl, rfl⟩ | ⟨b1, b2, b3, rfl, rfl, rfl, rfl, rfl, rfl, rfl, rfl, rfl⟩ | ⟨b1, b2, b3, b4, bz, b5⟩
  · exact ⟨by omega, h⟩
  · exact absurd b1 a1
  · exact absurd b1 a1
  · exact absurd a1 b1
  · exact ⟨by omega, h⟩
  · omega
  · exact absurd a1 b1
  · omega
  · obtain ⟨e, el⟩ := zo_ex_eq a5 b5 (fun q => (zo_SR_of h0 h0' q).1)
    obtain ⟨s1, s2⟩ := zo_SR_of h0 h0' el
    exact ⟨e, by omega, by omega, fun q => absurd b4 q, fun _ => ⟨s1, s2, bz⟩⟩
theorem z_EX.start {x : Int} : z_EX 1 x cz sf sb 1 x 0 pl zn pa me mf mv := ⟨rfl, rfl, fun _ => rfl, fun q => absurd q (by omega)⟩
theorem z_EX.szM (h : z_EX cn ct cz sf sb mn mx N pl zn pa me mf mv) : mn = 0 → ∀ i : Nat, (i : Int) < N → ∀ k, k < 16 → -40000 ≤ zn (16 * i + k) ∧ zn (16 * i + k) ≤ 100000 := by
  intro q i hi k hk
  have a := (h.2.2.2 q).2.2 i hi
  have b := a.dn k hk
  have c := a.1.2.1 k hk
  dsimp only at b c
  exact ⟨by omega, c⟩
theorem z_EX.szC (h : z_EX cn ct cz sf sb mn mx N pl zn pa me mf mv) : cn = 0 → ∀ i : Nat, (i : Int) < cz → ∀ k, k < 16 → -40000 ≤ sb (16 * i + k) ∧ sb (16 * i + k) ≤ 100000 := by
  intro q i hi k hk
  have q' : mn = 0 := h.1.symm.trans q
  obtain ⟨e, r, _⟩ := h.2.2.2 q'
  rw [(r i hi).2.1 k hk]
  exact h.szM q' i (by omega) k hk
end ZEX
