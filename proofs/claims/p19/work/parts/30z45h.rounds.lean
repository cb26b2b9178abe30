/-! a round over a way; ways that are alike ask alike -/
section ZRO
variable {er gn gt ln lt E F E' F' L V0 V1 V2 V3 V4 V5 : Nat → Int} {A A' : Nat → Nat → Int} {n : Nat} {i m0 m1 m2 m3 m4 m5 : Int}
theorem zs_stS (h : zs_S (zs_Kr er gn gt ln lt E F A n) L) (hi : 1 ≤ i ∧ i ≤ (n : Int)) : L (i - 1).toNat + 0 ≤ L i.toNat ∧ zs_S (zs_tsE (gn (E i.toNat).toNat) gt (6 * E i.toNat) (zs_R er E F (i - 1).toNat) i.toNat) L ∧ (F i.toNat ≠ -1 → zs_S (zs_tsE (gn (F i.toNat).toNat) gt (6 * F i.toNat) (zs_R er E F (i - 1).toNat) i.toNat) L) ∧ zs_S (zs_liE ln lt (A (i - 1).toNat) (zs_R er E F (i - 1).toNat) i.toNat) L ∧ zs_S (zs_liE ln lt (A i.toNat) (zs_R er E F i.toNat) i.toNat) L := by
  obtain ⟨j, rfl⟩ : ∃ j : Nat, i = (j : Int) + 1 := ⟨(i - 1).toNat, by omega⟩
  rw [show ((j : Int) + 1 - 1).toNat = j by omega, show ((j : Int) + 1).toNat = j + 1 by omega]
  have k := fun b a w q => h b a w ⟨j, by omega, q⟩
  exact ⟨k _ _ _ (Or.inl ⟨rfl, rfl, rfl⟩), fun b a w q => k b a w (Or.inr (Or.inl (Or.inl q))), fun z b a w q => k b a w (Or.inr (Or.inl (Or.inr ⟨z, q⟩))), fun b a w q => k b a w (Or.inr (Or.inr (Or.inl q))), fun b a w q => k b a w (Or.inr (Or.inr (Or.inr q)))⟩
theorem zs_st2 (hi : 1 ≤ i) (a1 : zs_ad (zs_e1 (i - 1).toNat i.toNat 0) n L V0 V1 m0 m1) (a2 : zs_ad (zs_tsE (gn (E i.toNat).toNat) gt (6 * E i.toNat) (zs_R er E F (i - 1).toNat) i.toNat) n L V1 V2 m1 m2) (a5 : zs_ad (zs_tsE (gn (F i.toNat).toNat) gt (6 * F i.toNat) (zs_R er E F (i - 1).toNat) i.toNat) n L V2 V5 m2 m5) (a3 : zs_ad (zs_liE ln lt (A (i - 1).toNat) (zs_R er E F (i - 1).toNat) i.toNat) n L V5 V3 m5 m3) (a4 : zs_ad (zs_liE ln lt (A i.toNat) (zs_R er E F i.toNat) i.toNat) n L V3 V4 m3 m4) : zs_ad (zs_stE er gn gt ln lt E F A (i - 1).toNat) n L V0 V4 m0 m4 := by
  obtain ⟨j, rfl⟩ : ∃ j : Nat, i = (j : Int) + 1 := ⟨(i - 1).toNat, by omega⟩
  rw [show ((j : Int) + 1 - 1).toNat = j by omega] at a1 a2 a3 a5 ⊢
  rw [show ((j : Int) + 1).toNat = j + 1 by omega] at a1 a2 a3 a4 a5
  exact a1.cat (a2.cat (a5.cat (a3.cat a4 (fun b a w q => q)) (fun b a w q => q)) (fun b a w q => q)) (fun b a w q => q.imp id (fun q => q.elim (fun q => q.elim Or.inl (fun q => Or.inr (Or.inl q.2))) (fun q => Or.inr (Or.inr q))))
theorem zs_st1 (hi : 1 ≤ i) (hF : F i.toNat = -1) (a1 : zs_ad (zs_e1 (i - 1).toNat i.toNat 0) n L V0 V1 m0 m1) (a2 : zs_ad (zs_tsE (gn (E i.toNat).toNat) gt (6 * E i.toNat) (zs_R er E F (i - 1).toNat) i.toNat) n L V1 V2 m1 m2) (a3 : zs_ad (zs_liE ln lt (A (i - 1).toNat) (zs_R er E F (i - 1).toNat) i.toNat) n L V2 V3 m2 m3) (a4 : zs_ad (zs_liE ln lt (A i.toNat) (zs_R er E F i.toNat) i.toNat) n L V3 V4 m3 m4) : zs_ad (zs_stE er gn gt ln lt E F A (i - 1).toNat) n L V0 V4 m0 m4 := by
  obtain ⟨j, rfl⟩ : ∃ j : Nat, i = (j : Int) + 1 := ⟨(i - 1).toNat, by omega⟩
  rw [show ((j : Int) + 1 - 1).toNat = j by omega] at a1 a2 a3 ⊢
  rw [show ((j : Int) + 1).toNat = j + 1 by omega] at a1 a2 a3 a4 hF
  exact a1.cat (a2.cat (a3.cat a4 (fun b a w q => q)) (fun b a w q => q)) (fun b a w q => q.imp id (fun q => q.elim (fun q => q.elim Or.inl (fun q => absurd hF q.1)) Or.inr))
theorem zs_stN {K : Nat → Nat → Nat → Int → Prop} (hi : 1 ≤ i) (h : zs_ad (fun b a w => ∃ j : Nat, (j : Int) + 1 < i ∧ K j b a w) n L V0 V1 m0 m1) (h' : zs_ad (K (i - 1).toNat) n L V1 V2 m1 m2) : zs_ad (fun b a w => ∃ j : Nat, (j : Int) + 1 < i + 1 ∧ K j b a w) n L V0 V2 m0 m2 := h.cat h' (fun b a w ⟨j, hj, q⟩ => by
  by_cases c : j = (i - 1).toNat
  · subst c; exact Or.inr q
  · exact Or.inl ⟨j, by omega, q⟩)
theorem zs_adr {K K1 : Nat → Nat → Int → Prop} (h : zs_ad K1 n L V0 V1 m0 m1) (hK : ∀ b a w, K b a w → K1 b a w) : zs_r K n L V0 V1 := ⟨fun v _ => h.1 v, h.2.1, fun b a w q => h.2.2.1 b a w (hK b a w q)⟩
theorem zs_adS {K K1 : Nat → Nat → Int → Prop} (h : zs_ad K1 n L V0 V1 m0 m1) (hK : ∀ b a w, K b a w → K1 b a w) : m1 = 0 → zs_S K V1 := fun e b a w q => by
  have k := h.2.2.1 b a w (hK b a w q)
  rcases h.2.2.2 with ⟨_, r⟩ | r
  · rw [r] at k ⊢
    exact k
  · omega
theorem zr_ls_congr (hE : ∀ k, k ≤ n → E k = E' k) (hF : ∀ k, k ≤ n → F k = F' k) (x : Nat) : ∀ k, k ≤ n → zr_ls er E F x k = zr_ls er E' F' x k := by
  intro k
  induction k with
  | zero => intro _; rfl
  | succ k ih =>
    intro hk
    rw [zr_ls, zr_ls, ih (by omega), hE _ hk, hF _ hk]
theorem zs_li_A {at0 at1 : Nat → Int} {R : Nat → Nat} {j : Nat} (h : ∀ m, m < 3 → at0 m = at1 m) : zs_liE ln lt at0 R j = zs_liE ln lt at1 R j := by
  funext b a w
  apply propext
  constructor
  · rintro ⟨m, m0, m1, q⟩
    rw [h m.toNat (by omega)] at q
    exact ⟨m, m0, m1, q⟩
  · rintro ⟨m, m0, m1, q⟩
    rw [← h m.toNat (by omega)] at q
    exact ⟨m, m0, m1, q⟩
theorem zs_Kr_congr (hE : ∀ k, k ≤ n → E k = E' k) (hF : ∀ k, k ≤ n → F k = F' k) (hA : ∀ k, k ≤ n → ∀ m, m < 3 → A k m = A' k m) : zs_Kr er gn gt ln lt E F A n = zs_Kr er gn gt ln lt E' F' A' n := by
  have key : ∀ j, j < n → zs_stE er gn gt ln lt E F A j = zs_stE er gn gt ln lt E' F' A' j := by
    intro j hj
    have r : ∀ k, k ≤ n → zs_R er E F k = zs_R er E' F' k := fun k hk => funext (fun x => zr_ls_congr hE hF x k hk)
    funext b a w
    unfold zs_stE
    rw [hE _ (by omega), hF _ (by omega), zs_li_A (hA j (by omega)), zs_li_A (hA (j + 1) (by omega)), r j (by omega), r (j + 1) (by omega)]
  funext b a w
  apply propext
  constructor
  · rintro ⟨j, hj, q⟩
    rw [key j hj] at q
    exact ⟨j, hj, q⟩
  · rintro ⟨j, hj, q⟩
    rw [← key j hj] at q
    exact ⟨j, hj, q⟩
end ZRO
/-! the way to a state, out of what is stored of the states -/
abbrev zw_E (pa me : Nat → Int) (M i : Int) : Nat → Int := fun k => me (z_up pa (M - (k : Int)).toNat i).toNat
abbrev zw_A (pa : Nat → Int) (g : Nat → Nat → Int) (M i : Int) : Nat → Nat → Int := fun k m => g (z_up pa (M - (k : Int)).toNat i).toNat m
abbrev zw_K (er gn gt ln lt pa me mf : Nat → Int) (g : Nat → Nat → Int) (M i : Int) : Nat → Nat → Int → Prop := zs_Kr er gn gt ln lt (zw_E pa me M i) (zw_E pa mf M i) (zw_A pa g M i) M.toNat
abbrev zw_C (er gn gt ln lt pa me mf : Nat → Int) (g : Nat → Nat → Int) (M i : Int) : Nat → Nat → Int → Prop := zs_Kc er gn gt ln lt (zw_E pa me M i) (zw_E pa mf M i) (zw_A pa g M i) M.toNat
def zw_ex (n : Int) (er gn gt ln lt pa me mf : Nat → Int) (g : Nat → Nat → Int) (M i : Int) : Prop := ∃ L, zs_K (zw_K er gn gt ln lt pa me mf g M i) M.toNat ∧ zs_L (zw_K er gn gt ln lt pa me mf g M i) M.toNat L ∧ L 0 = 0 ∧ (∀ j, j < M.toNat → (0 ≤ zw_E pa me M i (j + 1) ∧ zw_E pa me M i (j + 1) < n) ∧ -1 ≤ zw_E pa mf M i (j + 1) ∧ zw_E pa mf M i (j + 1) < n) ∧ ∀ j, j ≤ M.toNat → zr_hp (zw_A pa g M i j)
theorem zw_tr {n : Int} {gn gt E F : Nat → Int} {N j : Nat} (hg : ∀ e : Int, 0 ≤ e → e < n → zo_tr (gn e.toNat) gt (6 * e)) (xE : ∀ j, j < N → (0 ≤ E (j + 1) ∧ E (j + 1) < n) ∧ -1 ≤ F (j + 1) ∧ F (j + 1) < n) (h1 : 1 ≤ j) (h2 : j ≤ N) : zo_tr (gn (E j).toNat) gt (6 * E j) ∧ (F j ≠ -1 → zo_tr (gn (F j).toNat) gt (6 * F j)) := by
  have r := xE (j - 1) (by omega)
  rw [show j - 1 + 1 = j by omega] at r
  exact ⟨hg _ r.1.1 r.1.2, fun q => hg _ (by omega) r.2.2⟩
/-- what moment answers -/
def zw_R (K : Nat → Nat → Int → Prop) (i k nd N M z : Int) : Prop := (nd ≠ 0 ∧ z = -103) ∨ (nd = 0 ∧ ¬ ((0 ≤ i ∧ i < N) ∧ 0 ≤ k ∧ k < M) ∧ z = -101) ∨ ((nd = 0 ∧ (0 ≤ i ∧ i < N) ∧ 0 ≤ k ∧ k < M) ∧ ∀ L, zs_L K M.toNat L → z = L (k + 1).toNat)
