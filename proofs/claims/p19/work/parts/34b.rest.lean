theorem z_NL.rest {ks : z_Ks} {n : Nat} {ad : Nat → Nat} {Y : Nat → Option va_E} {S : Nat → va_E} {g : Nat → Option Nat} {i : Int} {ql qt : Nat → Nat} (hN : z_NL ks Y g i ql qt) (h : ∀ k, k < n → Y (ad k) = some (S k)) (ho : ∀ k, k < n → z_okc (S k) = true) : z_NL ks (z_rest n ad Y) g i ql qt := by
  refine ⟨fun j hj => ?_, hN.2⟩
  obtain ⟨a, b, c⟩ := hN.1 j hj
  refine ⟨a, z_rest_to b ?_, z_rest_to c ?_⟩
  · rintro ⟨k, hk, hx⟩
    rw [← hx] at b
    have e := Option.some.inj ((h k hk).symm.trans b)
    have o := ho k hk
    rw [e] at o
    cases o
  · rintro ⟨k, hk, hx⟩
    rw [← hx] at c
    have e := Option.some.inj ((h k hk).symm.trans c)
    have o := ho k hk
    rw [e] at o
    cases o
