theorem z_yl_rr {ks : z_Ks} {Y Y' : Nat → Option va_E} {t n : Nat} {c : ClassId} {g : Nat → Option Nat} (h : Y t = some (z_rr c n g)) (hc : n ≠ 2) (hk : ∀ x y, Y x = some y → x ≠ t → Y' x = some y) : z_yl ks Y Y' := by
  refine z_yl_keep (fun x => x = t) (fun x y hx hn => hk x y hx hn) ?_ ?_ ?_ ?_ ?_
  · rintro x c1 s n rfl hx
    have e := Option.some.inj (h.symm.trans hx)
    simp at e
  · rintro x t n rfl hx
    have e := Option.some.inj (h.symm.trans hx)
    simp at e
  · rintro x g rfl hx
    have e := Option.some.inj (h.symm.trans hx)
    simp at e
    exact absurd e.2.1 hc
  · rintro x m f t k r g rfl hx
    have e := Option.some.inj (h.symm.trans hx)
    simp at e
  · rintro x f s a b r rfl hx
    have e := Option.some.inj (h.symm.trans hx)
    simp at e