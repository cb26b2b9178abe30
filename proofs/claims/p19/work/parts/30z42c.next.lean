/-! when a move leads nowhere, and when somewhere -/
section ZF
variable {em ef et er gn gt ln lt mo pl z c c1 n n5 at0 : Nat → Int} {e f : Int}
theorem zo_toG {r U V L : Int} {a : Nat → Int} (q : ∀ k, k < 16 → a k = z k) (h : r = 1 ∧ zo_GC (fun w => zo_le w a ∧ zo_sat (gn e.toNat) gt (6 * e) w) c ∧ zo_Z U V L c ∨ r = 0 ∧ zo_none (fun w => zo_le w a ∧ zo_sat (gn e.toNat) gt (6 * e) w)) : r = 1 ∧ zo_gd gn gt e z c ∧ zo_Z U V L c ∨ r = 0 ∧ ∀ c, ¬ zo_gd gn gt e z c := by
  rcases h with ⟨h1, h2, h3⟩ | ⟨h1, h2⟩
  · exact Or.inl ⟨h1, h2.iff (fun w _ => by rw [zo_le_pt q w]), h3⟩
  · refine Or.inr ⟨h1, fun c g => h2 c g.1 ?_⟩
    exact ⟨(zo_le_pt q c).mpr g.2.1.1, g.2.1.2⟩
theorem zo_F0 (h : ¬ zo_st2 em ef pl e f) : zo_nx em ef et er gn gt ln lt mo pl z e f = none := zo_nx_none (fun _ _ q => h q.1)
theorem zo_F1 (h : ∀ c, ¬ zo_gd gn gt e z c) : zo_nx em ef et er gn gt ln lt mo pl z e f = none := zo_nx_none (fun _ _ q => by
  obtain ⟨_, ⟨_, ⟨c1, g, _⟩, _⟩, _⟩ := q
  exact h c1 g)
theorem zo_F2 (g : zo_gd gn gt e z c1) (hf : f ≠ -1) (h : ∀ c, ¬ zo_gd gn gt f c1 c) : zo_nx em ef et er gn gt ln lt mo pl z e f = none := zo_nx_none (fun _ _ q => by
  obtain ⟨_, ⟨c, ⟨d1, g1, r⟩, _⟩, _⟩ := q
  rcases r with ⟨r, _⟩ | ⟨_, r⟩
  · exact hf r
  · have e1 := g1.fn g (fun _ _ => rfl)
    exact h c (r.iff (fun w _ => by rw [zo_le_pt e1 w])))
theorem zo_F3 (g : zo_g2 gn gt e f z c) (hn : ∀ k, k < 16 → n k = zo_set (z_or er e f) c k) (ha : ∀ m, m < 3 → at0 m = z_goA pl em et e f m) (h : zo_none (fun w => zo_le w n ∧ zo_sl ln lt at0 w)) : zo_nx em ef et er gn gt ln lt mo pl z e f = none := zo_nx_none (fun p _ q => by
  obtain ⟨_, ⟨d, g1, ⟨d2, g2, _⟩⟩, hp⟩ := q
  have e1 := g1.fn g (fun _ _ => rfl)
  have e2 : ∀ k, k < 16 → zo_set (z_or er e f) d k = n k := fun k hk => (zo_set_pt e1 k hk).trans (hn k hk).symm
  have e3 : ∀ m, m < 3 → p m = at0 m := fun m hm => (hp m hm).trans (ha m hm).symm
  exact h d2 g2.1 ⟨(zo_le_pt e2 d2).mp g2.2.1.1, (zo_sl_pt e3 d2).mp g2.2.1.2⟩)
theorem zo_F4 (g : zo_g2 gn gt e f z c) (hn : ∀ k, k < 16 → n k = zo_set (z_or er e f) c k) (ha : ∀ m, m < 3 → at0 m = z_goA pl em et e f m) (g5 : zo_GC (fun w => zo_le w n ∧ zo_sl ln lt at0 w) n5) (h : ∀ c', ¬ zo_later ln lt at0 mo n5 c') : zo_nx em ef et er gn gt ln lt mo pl z e f = none := zo_nx_none (fun p q2 q => by
  obtain ⟨_, ⟨d, g1, ⟨d2, g2, ⟨d3, g3, g4⟩⟩⟩, hp⟩ := q
  have e1 := g1.fn g (fun _ _ => rfl)
  have e2 : ∀ k, k < 16 → zo_set (z_or er e f) d k = n k := fun k hk => (zo_set_pt e1 k hk).trans (hn k hk).symm
  have e3 : ∀ m, m < 3 → p m = at0 m := fun m hm => (hp m hm).trans (ha m hm).symm
  have e4 := (g2.iff (K' := fun w => zo_le w n ∧ zo_sl ln lt at0 w) (fun w _ => by rw [zo_le_pt e2 w, zo_sl_pt e3 w])).uniq g5
  exact h q2 ⟨d3, g3.iff (fun w _ => by rw [zo_le_pt (zo_tm_pt e4) w, zo_sl_pt e3 w]), g4⟩)
theorem zo_F5 {n6 : Nat → Int} (hs : zo_st2 em ef pl e f) (g : zo_g2 gn gt e f z c) (hn : ∀ k, k < 16 → n k = zo_set (z_or er e f) c k) (ha : ∀ m, m < 3 → at0 m = z_goA pl em et e f m) (g5 : zo_GC (fun w => zo_le w n ∧ zo_sl ln lt at0 w) n5) (h : zo_later ln lt at0 mo n5 n6) : zo_nx em ef et er gn gt ln lt mo pl z e f = some (zo_n3 at0, zo_n16 n6) :=
  zo_nx_some ⟨hs, ⟨c, g, ⟨n5, g5.iff (fun w _ => by rw [zo_le_pt hn w]), h⟩⟩, ha⟩
end ZF
