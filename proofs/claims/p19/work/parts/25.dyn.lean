section ZDYN
variable {p : Program} {l : Launch} {e : Env} {R : Room} {s : State} {m : MethodId} {args : Array Value} {below : List Frame} {meth : Method} {c : Code} {Q : State → Prop} {D : va_G} {A : Nat → Prop} {N : Nat} {ad : Nat → Nat} {nL : Nat} {S S' : Nat → va_E} {Y Y' : Nat → Option va_E} {cells slots pc : Nat} {L : List (Nat × Value)} {st : List Value} {cc : ByteArray} {own : String} {ks : z_Ks}
theorem z_ne {x q : Nat} {e0 e1 : va_E} (h : Y x = some e0) (h1 : Y q = some e1) (hn : e0 ≠ e1) : x ≠ q := fun z => hn (by subst z; exact Option.some.inj (h.symm.trans h1))
theorem z_upq {q : Nat} {v : Option va_E} : va_up Y q v q = v := if_pos rfl
theorem z_upk {q x : Nat} {v : Option va_E} {e0 : va_E} (h : Y x = some e0) (hn : x ≠ q) : va_up Y q v x = some e0 := (if_neg hn).trans h
theorem z_aloadN (C : z_C p s m args meth c cc nL own D A ks) {i : Nat} (j : Nat) (hd : decode cc pc = .ok (.aload i, 2)) (hj : L[j]? = some (i, .null)) (k : z_V p l e R s m args below meth c Q D A N ad nL S Y cells slots (pc + 2) L (.null :: st)) : z_V p l e R s m args below meth c Q D A N ad nL S Y cells slots pc L st := by
  intro H locs ls hR hS hl
  exact lv_aloadN C.1 C.2.1 hd (lv_at hl j hj) (k H locs ls hR hS hl)
/-- nothing that is a test, a list, an edge or a move ceases to be one -/
def z_yl (ks : z_Ks) (Y Y' : Nat → Option va_E) : Prop := (∀ q, z_T Y q → z_T Y' q) ∧ (∀ q, z_TL ks Y q → z_TL ks Y' q) ∧ (∀ q, z_E ks Y q → z_E ks Y' q) ∧ ∀ q, z_Mv ks Y q → z_Mv ks Y' q
theorem z_netE {n : Int} {g : Nat → Option Nat} (h : z_yl ks Y Y') (H : ∀ j : Nat, (j : Int) < n → ∃ q, g j = some q ∧ z_E ks Y q) : ∀ j : Nat, (j : Int) < n → ∃ q, g j = some q ∧ z_E ks Y' q := fun j hj => let ⟨q, a, b⟩ := H j hj; ⟨q, a, h.2.2.1 q b⟩
theorem z_netM {n : Int} {g : Nat → Option Nat} (h : z_yl ks Y Y') (H : ∀ j : Nat, (j : Int) < n → ∃ q, g j = some q ∧ z_Mv ks Y q) : ∀ j : Nat, (j : Int) < n → ∃ q, g j = some q ∧ z_Mv ks Y' q := fun j hj => let ⟨q, a, b⟩ := H j hj; ⟨q, a, h.2.2.2 q b⟩
theorem z_netL {n : Int} {g : Nat → Option Nat} (h : z_yl ks Y Y') (H : ∀ j : Nat, (j : Int) < n → ∃ q, g j = some q ∧ z_TL ks Y q) : ∀ j : Nat, (j : Int) < n → ∃ q, g j = some q ∧ z_TL ks Y' q := fun j hj => let ⟨q, a, b⟩ := H j hj; ⟨q, a, h.2.1 q b⟩
/-- rows that name the new world -/
theorem z_new3 (C : z_C p s m args meth c cc nL own D A ks) {r : vw_C} {ci idx : Nat} {fs : List Value} (hc : z_cl[ci]? = some r) (hin : ∀ w ∈ u_ws r.1 r.2.1 r.2.2, w ∈ z_tbl) (ty0 : Nat → FieldType) (hty : ∀ k, k < r.2.2 → parseFieldDescriptor (r.2.1 k).2.2.1 = some (ty0 k)) (hm : ∀ w ∈ [Cond.classLink own idx r.1, Cond.instantiable r.1 r.2.2, Cond.initialized r.1], w ∈ z_tbl) (hfs : ∀ j, j < r.2.2 → defaultValue (ty0 j) = vp_V fs j) (h1 : cells + 1 ≤ R.cells) (h2 : slots + r.2.2 ≤ R.slots) (hd : decode cc pc = .ok (.new idx, 3))
    (kk : ∀ q Y1, Y1 q = some (.inr (ci, fs)) → (∀ x y, Y x = some y → Y1 x = some y) → (∀ x y, Y x = some y → x < q) → z_V p l e R s m args below meth c Q D A N ad nL S Y1 (cells + 1) (slots + r.2.2) (pc + 3) L (.ref q :: st)) : z_V p l e R s m args below meth c Q D A N ad nL S Y cells slots pc L st := by
  intro H locs ls hR hS hl
  obtain ⟨C0, T, n⟩ := r
  have hKn := C.2.2.2.2.2.1.1 ci _ hc
  refine W.newcK C.1 C.2.1 C.2.2.2.1 (C.2.2.2.2.1 _ (hm _ (by simp))) (C.2.2.2.2.1 _ (hm _ (by simp))) (C.2.2.2.2.1 _ (hm _ (by simp))) rfl hd h1 h2 hKn.2.1 rfl fun H1 kC hkC e1 z1 o1 => ?_
  have hat : va_at D z_cl (H.size, .inr (ci, fs)) H1 := ⟨_, hc, (u_born ty0 C.2.2.2.2.1 hin hKn hkC e1 hty).to hfs⟩
  obtain ⟨g1, g2, g3⟩ := hR.new (C.2.2.2.2.2.2.2.2 _ hS.1) hat o1
  exact kk H.size _ z_upq (fun x y h => z_upk h (g3 x y h)) (fun x y h => (hR.2.2 x y h).2.2.lt) H1 locs ls g1 (z_S.new hS z1 o1) hl
theorem z_newI3 (C : z_C p s m args meth c cc nL own D A ks) {n : Int} (h0 : 0 ≤ n) (h3 : n < 100000) (h1 : cells + 1 ≤ R.cells) (h2 : slots + n.toNat ≤ R.slots) (hd : decode cc pc = .ok (.newarray .int, 2))
    (kk : ∀ q Y1, Y1 q = some (z_ar ks.1 n.toNat (fun _ => 0)) → (∀ x y, Y x = some y → Y1 x = some y) → (∀ x y, Y x = some y → x < q) → z_V p l e R s m args below meth c Q D A N ad nL S Y1 (cells + 1) (slots + n.toNat) (pc + 2) L (.ref q :: st)) : z_V p l e R s m args below meth c Q D A N ad nL S Y cells slots pc L (z_v n :: st) := by
  intro H locs ls hR hS hl
  have nn : ¬ z_i n < 0 := fun q => by
    have := (z_lt (a := n) (b := 0) ⟨by omega, by omega⟩ z_rg0).mp q
    omega
  refine va_newaK (atype := .int) (N := n.toNat) C.1 C.2.1 (C.2.2.2.2.1 _ z_intA) rfl hd rfl nn (z_cl0 h0 (by omega)) (by show _ * 4 ≤ _; omega) h1 h2 rfl fun H1 cA e1 z1 o1 hAr hNm => ?_
  have hcA : cA = ks.1 := by
    have h := (C.2.2.2.2.2.1.2 0 _ rfl).2
    exact Option.some.inj (hNm.symm.trans h)
  subst hcA
  have hat : va_at D z_cl (H.size, z_ar ks.1 n.toNat (fun _ => 0)) H1 := by
    show H1[H.size]? = some (vp_cell _ _)
    rw [e1, vp_cell_i]
    rfl
  obtain ⟨g1, g2, g3⟩ := hR.new (C.2.2.2.2.2.2.2.2 _ hS.1) hat o1
  exact kk H.size _ z_upq (fun x y h => z_upk h (g3 x y h)) (fun x y h => (hR.2.2 x y h).2.2.lt) H1 locs ls g1 (z_S.new hS z1 o1) hl
theorem z_newA3 (C : z_C p s m args meth c cc nL own D A ks) {n : Int} {E : String} {cA : ClassId} {idx : Nat} (t0 : Nat) (ht : (z_tys ks)[t0]? = some (cA, .object E)) (hov : va_AO E s) (hm : Cond.classLink own idx E ∈ z_tbl) (h0 : 0 ≤ n) (h3 : n < 100000) (h1 : cells + 1 ≤ R.cells) (h2 : slots + n.toNat ≤ R.slots) (hd : decode cc pc = .ok (.anewarray idx, 3))
    (kk : ∀ q Y1, Y1 q = some (z_rr cA n.toNat (fun _ => none)) → (∀ x y, Y x = some y → Y1 x = some y) → (∀ x y, Y x = some y → x < q) → z_V p l e R s m args below meth c Q D A N ad nL S Y1 (cells + 1) (slots + n.toNat) (pc + 3) L (.ref q :: st)) : z_V p l e R s m args below meth c Q D A N ad nL S Y cells slots pc L (z_v n :: st) := by
  intro H locs ls hR hS hl
  have g : ∀ x y, Y x = some y → x < H.size := fun x y h => (hR.2.2 x y h).2.2.lt
  have nn : ¬ z_i n < 0 := fun q => by
    have := (z_lt (a := n) (b := 0) ⟨by omega, by omega⟩ z_rg0).mp q
    omega
  have hN : (z_i n).toNatClampNeg = n.toNat := z_cl0 h0 (by omega)
  refine W.anew C.1 C.2.1 C.2.2.2.1 (C.2.2.2.2.1 _ hm) (va_AO.use hov) rfl hd rfl nn (by rw [hN]; omega) h1 (by rw [hN]; exact h2) fun cB kA comp f1 f2 f3 f4 => ?_
  rw [hN]
  have hcA : cB = cA := by
    obtain ⟨_, _, _, _, _, h⟩ := (C.2.2.2.2.2.1.2 t0 _ ht).2
    exact Option.some.inj (f1.symm.trans h)
  subst hcA
  generalize hH1 : H.push ({ cls := cB, slots := Array.replicate n.toNat .null, vm := .none } : Cell) = H1
  have z1 : H1.size = H.size + 1 := by rw [← hH1, Array.size_push]
  have e1 : H1[H.size]? = some (arrV cB n.toNat (fun _ => .null)) := by rw [← hH1, Array.getElem?_push_size, ← arrV_new]
  have o1 : ∀ q : Nat, q < H.size → H1[q]? = H[q]? := fun q hq => by rw [← hH1, Array.getElem?_push, if_neg (Nat.ne_of_lt hq)]
  have hat : va_at D z_cl (H.size, z_rr cB n.toNat (fun _ => none)) H1 := by
    show H1[H.size]? = some (vp_cell _ _)
    rw [e1, vp_cell_q]
    rfl
  obtain ⟨g1, g2, g3⟩ := hR.new (C.2.2.2.2.2.2.2.2 _ hS.1) hat o1
  exact kk H.size _ z_upq (fun x y h => z_upk h (g3 x y h)) g H1 locs ls g1 (z_S.new hS z1 o1) hl
theorem z_put3 (C : z_C p s m args meth c cc nL own D A ks) {r : vw_C} {ci idx q : Nat} {fs fs' : List Value} {v : Value} {nm ds rf : String} {ty : FieldType} {fin : Bool} (he : Y q = some (.inr (ci, fs))) (hc : z_cl[ci]? = some r) (hin : ∀ w ∈ u_ws r.1 r.2.1 r.2.2, w ∈ z_tbl) (ty0 : Nat → FieldType) (hty : ∀ k, k < r.2.2 → parseFieldDescriptor (r.2.1 k).2.2.1 = some (ty0 k)) (hnm : ∀ a, a < r.2.2 → ∀ b, b < r.2.2 → a ≠ b → (r.2.1 a).2.1 ≠ (r.2.1 b).2.1) (j : Nat) (hj : j < r.2.2) (hT : r.2.1 j = (rf, nm, ds, fin)) (hf : fin = false ∨ (fin = true ∧ meth.name = "<init>" ∧ rf = own)) (hlink : Cond.fieldLink own idx rf nm ds ∈ z_tbl) (hdt : parseFieldDescriptor ds = some ty) (hn : narrow ty v = v) (hfit : fits ty v = true) (hl0 : j < fs.length) (hd : decode cc pc = .ok (.putfield idx, 3)) (hfs : fs.set j v = fs')
    (kk : ∀ Y1, Y1 q = some (.inr (ci, fs')) → (∀ x y, Y x = some y → x ≠ q → Y1 x = some y) → z_V p l e R s m args below meth c Q D A N ad nL S Y1 cells slots (pc + 3) L st) : z_V p l e R s m args below meth c Q D A N ad nL S Y cells slots pc L (v :: .ref q :: st) := by
  subst hfs
  exact z_putY C he hc hin ty0 hty hnm j hj hT hf hlink hdt hn hfit hl0 hd (kk _ z_upq (fun x y h hn => z_upk h hn))
theorem z_aast3 (C : z_C p s m args meth c cc nL own D A ks) {cA : ClassId} {n v ci q : Nat} {g : Nat → Option Nat} {i : Int} {r : vw_C} {vs : List Value} (t0 : Nat) (he : Y q = some (z_rr cA n g)) (ht : (z_tys ks)[t0]? = some (cA, .object r.1)) (hv : Y v = some (.inr (ci, vs))) (hc : z_cl[ci]? = some r) (hn : n < 2147483648) (h0 : 0 ≤ i) (h1 : i < n) (hd : decode cc pc = .ok (.aastore, 1))
    (kk : ∀ Y1, Y1 q = some (z_rr cA n (va_up g i.toNat (some v))) → (∀ x y, Y x = some y → x ≠ q → Y1 x = some y) → z_V p l e R s m args below meth c Q D A N ad nL S Y1 cells slots (pc + 1) L st) : z_V p l e R s m args below meth c Q D A N ad nL S Y cells slots pc L (.ref v :: z_v i :: .ref q :: st) :=
  z_aastY C t0 he ht hv hc hn h0 h1 hd (kk _ z_upq (fun x y h hn => z_upk h hn))
theorem z_yl.tr {Y2 : Nat → Option va_E} (h : z_yl ks Y Y') (h' : z_yl ks Y' Y2) : z_yl ks Y Y2 := ⟨fun q x => h'.1 q (h.1 q x), fun q x => h'.2.1 q (h.2.1 q x), fun q x => h'.2.2.1 q (h.2.2.1 q x), fun q x => h'.2.2.2 q (h.2.2.2 q x)⟩
theorem z_yl.rf : z_yl ks Y Y := ⟨fun _ x => x, fun _ x => x, fun _ x => x, fun _ x => x⟩
/-- cells that hold none of them may change -/
theorem z_yl_keep (P : Nat → Prop) (hk : ∀ x y, Y x = some y → ¬ P x → Y' x = some y) (h5 : ∀ x c s n, P x → Y x = some (z_ob 5 [z_v c, z_v s, z_v n]) → ¬ (1 ≤ c ∧ c ≤ 3 ∧ 0 ≤ s ∧ s ≤ 4 ∧ 0 ≤ n ∧ n ≤ 1000)) (h6 : ∀ x t n, P x → Y x ≠ some (z_ob 6 [.ref t, z_v n])) (h7 : ∀ x g, P x → Y x ≠ some (z_rr ks.2.2.2.2 2 g)) (h0 : ∀ x m f t k r g, P x → Y x ≠ some (z_ob 0 [z_v m, z_v f, z_v t, z_v k, z_v r, .ref g])) (h1 : ∀ x f s a b r, P x → Y x ≠ some (z_ob 1 [z_v f, z_v s, .ref a, va_rf b, z_v r])) : z_yl ks Y Y' := by
  have hT : ∀ q, z_T Y q → z_T Y' q := fun q ⟨c, s, n, h, hr⟩ => ⟨c, s, n, hk q _ h (fun hp => h5 q c s n hp h hr), hr⟩
  have hTL : ∀ q, z_TL ks Y q → z_TL ks Y' q := fun q ⟨t, n, g, h, ht, hr, hg⟩ => ⟨t, n, g, hk q _ h (fun hp => h6 q t n hp h), hk t _ ht (fun hp => h7 t g hp ht), hr, fun j hj => let ⟨b, hb, hb2⟩ := hg j hj; ⟨b, hb, hT b hb2⟩⟩
  have hE : ∀ q, z_E ks Y q → z_E ks Y' q := fun q ⟨m, f, t, k, r, g, h, hr, hg⟩ => ⟨m, f, t, k, r, g, hk q _ h (fun hp => h0 q m f t k r g hp h), hr, hTL g hg⟩
  exact ⟨hT, hTL, hE, fun q ⟨f, s, a, b, r, h, hr, ha, hb⟩ => ⟨f, s, a, b, r, hk q _ h (fun hp => h1 q f s a b r hp h), hr, hE a ha, fun x hx => hE x (hb x hx)⟩⟩
theorem z_yl_sub (hk : ∀ x y, Y x = some y → Y' x = some y) : z_yl ks Y Y' := z_yl_keep (fun _ => False) (fun x y h _ => hk x y h) (fun _ _ _ _ h => h.elim) (fun _ _ _ h => h.elim) (fun _ _ h => h.elim) (fun _ _ _ _ _ _ _ h => h.elim) (fun _ _ _ _ _ _ h => h.elim)
/-- an unfinished object may change -/
def z_raw (e : va_E) : Prop := e = z_ob 5 [z_v 0, z_v 0, z_v 0] ∨ e = z_ob 6 [.null, z_v 0] ∨ e = z_ob 0 [z_v 0, z_v 0, z_v 0, z_v 0, z_v 0, .null] ∨ e = z_ob 1 [z_v 0, z_v 0, .null, .null, z_v 0]
theorem z_yl_raw {q : Nat} {e0 : va_E} (h : Y q = some e0) (hr : z_raw e0) (hk : ∀ x y, Y x = some y → x ≠ q → Y' x = some y) : z_yl ks Y Y' := by
  refine z_yl_keep (fun x => x = q) (fun x y hx hn => hk x y hx hn) ?_ ?_ ?_ ?_ ?_
  · rintro x c s n rfl h5 hc
    rw [h] at h5
    rcases hr with rfl | rfl | rfl | rfl
    · have e := Option.some.inj h5
      simp only [Sum.inr.injEq, Prod.mk.injEq, List.cons.injEq, Value.int.injEq, true_and, and_true] at e
      have := congrArg Int32.toInt e.1
      rw [z_to ⟨by omega, by omega⟩, z_to (z := c) ⟨by omega, by omega⟩] at this
      omega
    all_goals (have e := Option.some.inj h5; simp at e)
  all_goals (intro x; intros; rename_i hx; intro h5; subst hx; rw [h] at h5; rcases hr with rfl | rfl | rfl | rfl <;> (have e := Option.some.inj h5; simp at e))
end ZDYN
