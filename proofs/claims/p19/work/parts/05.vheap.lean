section ZHEAP
variable {p : Program} {l : Launch} {e : Env} {R : Room} {s : State} {m : MethodId} {args : Array Value} {below : List Frame} {meth : Method} {c : Code} {Q : State → Prop} {D : va_G} {A : Nat → Prop} {N : Nat} {ad : Nat → Nat} {nL : Nat} {S S' : Nat → va_E} {Y Y' : Nat → Option va_E} {cells slots pc : Nat} {L : List (Nat × Value)} {st : List Value} {cc : ByteArray} {own : String} {ks : z_Ks}
theorem z_ext (h : ∀ k, k < N → S k = S' k) (k : z_V p l e R s m args below meth c Q D A N ad nL S' Y cells slots pc L st) : z_V p l e R s m args below meth c Q D A N ad nL S Y cells slots pc L st := fun H locs ls hR hS hl => k H locs ls (hR.ext h) hS hl
theorem z_wide {k n : Nat} (h1 : cells ≤ k) (h2 : slots ≤ n) (kk : z_V p l e R s m args below meth c Q D A N ad nL S Y k n pc L st) : z_V p l e R s m args below meth c Q D A N ad nL S Y cells slots pc L st := fun H locs ls hR hS hl => W.widen h1 h2 (kk H locs ls hR hS hl)
/-- fewer locals, in another order -/
theorem z_loc {L' : List (Nat × Value)} (is : List Nat) (h : lv_pick L is = L') (k : z_V p l e R s m args below meth c Q D A N ad nL S Y cells slots pc L' st) : z_V p l e R s m args below meth c Q D A N ad nL S Y cells slots pc L st := fun H locs ls hR hS hl => k H locs ls hR hS (lv_sub hl is h)
/-- a field of a numbered cell -/
theorem z_get (C : z_C p s m args meth c cc nL own D A ks) {r : vw_C} {ci idx : Nat} {fs : List Value} {v : Value} {nm ds rf : String} (k : Nat) (hk : k < N) (he : S k = .inr (ci, fs)) (hc : z_cl[ci]? = some r) (hin : ∀ w ∈ u_ws r.1 r.2.1 r.2.2, w ∈ z_tbl) (j : Nat) (hj : j < r.2.2) (hT : ((r.2.1 j).1, (r.2.1 j).2.1, (r.2.1 j).2.2.1) = (rf, nm, ds)) (hlink : Cond.fieldLink own idx rf nm ds ∈ z_tbl) (hv : fs[j]? = some v) (hd : decode cc pc = .ok (.getfield idx, 3))
    (kk : z_V p l e R s m args below meth c Q D A N ad nL S Y cells slots (pc + 3) L (v :: st)) : z_V p l e R s m args below meth c Q D A N ad nL S Y cells slots pc L (.ref (ad k) :: st) := by
  intro H locs ls hR hS hl
  obtain ⟨hP, hD⟩ := hR.one hk
  rw [he] at hP
  obtain ⟨C0, T, n⟩ := r
  simp only [Prod.mk.injEq] at hT
  obtain ⟨rfl, rfl, rfl⟩ := hT
  exact va_get (Ts := z_tbl) C.1 C.2.1 C.2.2.2.2.1 hin C.2.2.2.1 C.2.2.2.2.2.1 hP 0 rfl hc j hj (C.2.2.2.2.1 _ hlink) (fun x h => h) hv hd (kk H locs ls hR hS hl)
/-- a field of a further cell -/
theorem z_getY (C : z_C p s m args meth c cc nL own D A ks) {r : vw_C} {ci idx q : Nat} {fs : List Value} {v : Value} {nm ds rf : String} (he : Y q = some (.inr (ci, fs))) (hc : z_cl[ci]? = some r) (hin : ∀ w ∈ u_ws r.1 r.2.1 r.2.2, w ∈ z_tbl) (j : Nat) (hj : j < r.2.2) (hT : ((r.2.1 j).1, (r.2.1 j).2.1, (r.2.1 j).2.2.1) = (rf, nm, ds)) (hlink : Cond.fieldLink own idx rf nm ds ∈ z_tbl) (hv : fs[j]? = some v) (hd : decode cc pc = .ok (.getfield idx, 3))
    (kk : z_V p l e R s m args below meth c Q D A N ad nL S Y cells slots (pc + 3) L (v :: st)) : z_V p l e R s m args below meth c Q D A N ad nL S Y cells slots pc L (.ref q :: st) := by
  intro H locs ls hR hS hl
  obtain ⟨hP, hD⟩ := hR.dyn he
  obtain ⟨C0, T, n⟩ := r
  simp only [Prod.mk.injEq] at hT
  obtain ⟨rfl, rfl, rfl⟩ := hT
  exact va_get (Ts := z_tbl) C.1 C.2.1 C.2.2.2.2.1 hin C.2.2.2.1 C.2.2.2.2.2.1 hP 0 rfl hc j hj (C.2.2.2.2.1 _ hlink) (fun x h => h) hv hd (kk H locs ls hR hS hl)
theorem z_put (C : z_C p s m args meth c cc nL own D A ks) {r : vw_C} {ci idx : Nat} {fs : List Value} {v : Value} {nm ds rf : String} {ty : FieldType} {fin : Bool} (k : Nat) (hk : k < N) (he : S k = .inr (ci, fs)) (hc : z_cl[ci]? = some r) (hin : ∀ w ∈ u_ws r.1 r.2.1 r.2.2, w ∈ z_tbl) (ty0 : Nat → FieldType) (hty : ∀ k, k < r.2.2 → parseFieldDescriptor (r.2.1 k).2.2.1 = some (ty0 k)) (hnm : ∀ a, a < r.2.2 → ∀ b, b < r.2.2 → a ≠ b → (r.2.1 a).2.1 ≠ (r.2.1 b).2.1) (j : Nat) (hj : j < r.2.2) (hT : r.2.1 j = (rf, nm, ds, fin)) (hf : fin = false ∨ (fin = true ∧ meth.name = "<init>" ∧ rf = own)) (hlink : Cond.fieldLink own idx rf nm ds ∈ z_tbl) (hdt : parseFieldDescriptor ds = some ty) (hn : narrow ty v = v) (hfit : fits ty v = true) (hl0 : j < fs.length) (hd : decode cc pc = .ok (.putfield idx, 3))
    (kk : z_V p l e R s m args below meth c Q D A N ad nL (va_up S k (.inr (ci, fs.set j v))) Y cells slots (pc + 3) L st) : z_V p l e R s m args below meth c Q D A N ad nL S Y cells slots pc L (v :: .ref (ad k) :: st) := by
  intro H locs ls hR hS hl
  obtain ⟨C0, T, n⟩ := r
  have hT : T j = (rf, nm, ds, fin) := hT
  have hcell := (hR.1 k hk).2
  rw [he] at hcell
  refine z_Wput (Ts := z_tbl) (T := T) (C := C0) (N := n) (ty := ty) C.1 C.2.1 C.2.2.2.2.1 hin ty0 hty hnm C.2.2.2.1 C.2.2.2.2.2.1 hcell hc j hj (by rw [hT]; exact C.2.2.2.2.1 _ hlink) (by rw [hT]; exact hf) (by rw [hT]; exact hdt) hn hfit hl0 hd ?_
  intro H1 i he1 z oq
  exact kk H1 _ ls (hR.put hk he1 oq) (z_S.put hS z oq (hR.1 k hk).1 (fun q h => by rw [z_one q h])) hl
theorem z_putY (C : z_C p s m args meth c cc nL own D A ks) {r : vw_C} {ci idx q : Nat} {fs : List Value} {v : Value} {nm ds rf : String} {ty : FieldType} {fin : Bool} (he : Y q = some (.inr (ci, fs))) (hc : z_cl[ci]? = some r) (hin : ∀ w ∈ u_ws r.1 r.2.1 r.2.2, w ∈ z_tbl) (ty0 : Nat → FieldType) (hty : ∀ k, k < r.2.2 → parseFieldDescriptor (r.2.1 k).2.2.1 = some (ty0 k)) (hnm : ∀ a, a < r.2.2 → ∀ b, b < r.2.2 → a ≠ b → (r.2.1 a).2.1 ≠ (r.2.1 b).2.1) (j : Nat) (hj : j < r.2.2) (hT : r.2.1 j = (rf, nm, ds, fin)) (hf : fin = false ∨ (fin = true ∧ meth.name = "<init>" ∧ rf = own)) (hlink : Cond.fieldLink own idx rf nm ds ∈ z_tbl) (hdt : parseFieldDescriptor ds = some ty) (hn : narrow ty v = v) (hfit : fits ty v = true) (hl0 : j < fs.length) (hd : decode cc pc = .ok (.putfield idx, 3))
    (kk : z_V p l e R s m args below meth c Q D A N ad nL S (va_up Y q (some (.inr (ci, fs.set j v)))) cells slots (pc + 3) L st) : z_V p l e R s m args below meth c Q D A N ad nL S Y cells slots pc L (v :: .ref q :: st) := by
  intro H locs ls hR hS hl
  obtain ⟨C0, T, n⟩ := r
  have hT : T j = (rf, nm, ds, fin) := hT
  have hcell := hR.2.2 q _ he
  refine z_Wput (Ts := z_tbl) (T := T) (C := C0) (N := n) (ty := ty) C.1 C.2.1 C.2.2.2.2.1 hin ty0 hty hnm C.2.2.2.1 C.2.2.2.2.2.1 hcell.2.2 hc j hj (by rw [hT]; exact C.2.2.2.2.1 _ hlink) (by rw [hT]; exact hf) (by rw [hT]; exact hdt) hn hfit hl0 hd ?_
  intro H1 i he1 z oq
  exact kk H1 _ ls (hR.putY he he1 oq) (z_S.put hS z oq hcell.1 (fun q h => by rw [z_one q h])) hl
/-- int arrays -/
theorem z_iald (C : z_C p s m args meth c cc nL own D A ks) {n : Nat} {f : Nat → Int} {i : Int} (k : Nat) (hk : k < N) (he : S k = z_ar ks.1 n f) (hn : n < 2147483648) (h0 : 0 ≤ i) (h1 : i < n) (hd : decode cc pc = .ok (.iaload, 1))
    (kk : z_V p l e R s m args below meth c Q D A N ad nL S Y cells slots (pc + 1) L (z_v (f i.toNat) :: st)) : z_V p l e R s m args below meth c Q D A N ad nL S Y cells slots pc L (z_v i :: .ref (ad k) :: st) := by
  intro H locs ls hR hS hl
  obtain ⟨hP, hD⟩ := hR.one hk
  rw [he] at hP
  refine va_iald C.1 C.2.1 C.2.2.2.2.2.1 hP 0 0 rfl rfl (z_ix h0 h1 hn) hd ?_
  rw [z_cl0 h0 (by omega)]
  exact kk H locs ls hR hS hl
theorem z_iast (C : z_C p s m args meth c cc nL own D A ks) {n : Nat} {f : Nat → Int} {i x : Int} (k : Nat) (hk : k < N) (he : S k = z_ar ks.1 n f) (hn : n < 2147483648) (h0 : 0 ≤ i) (h1 : i < n) (hd : decode cc pc = .ok (.iastore, 1))
    (kk : z_V p l e R s m args below meth c Q D A N ad nL (va_up S k (z_ar ks.1 n (va_up f i.toNat x))) Y cells slots (pc + 1) L st) : z_V p l e R s m args below meth c Q D A N ad nL S Y cells slots pc L (z_v x :: z_v i :: .ref (ad k) :: st) := by
  intro H locs ls hR hS hl
  have hcell := (hR.1 k hk).2
  rw [he] at hcell
  refine z_Wiast C.1 C.2.1 C.2.2.2.2.2.1 0 hcell rfl (z_ix h0 h1 hn) hd ?_
  intro H1 j he1 z oq
  rw [z_updI f i x h0 (by omega)] at he1
  exact kk H1 _ ls (hR.put hk he1 oq) (z_S.put hS z oq (hR.1 k hk).1 (fun q h => by rw [z_one q h])) hl
/-- arrays of references: numbered, and further ones -/
theorem z_aald (C : z_C p s m args meth c cc nL own D A ks) {cA : ClassId} {n : Nat} {g : Nat → Option Nat} {i : Int} {E : String} (k t0 : Nat) (hk : k < N) (he : S k = z_rr cA n g) (ht : (z_tys ks)[t0]? = some (cA, .object E)) (hn : n < 2147483648) (h0 : 0 ≤ i) (h1 : i < n) (hd : decode cc pc = .ok (.aaload, 1))
    (kk : z_V p l e R s m args below meth c Q D A N ad nL S Y cells slots (pc + 1) L (va_rf (g i.toNat) :: st)) : z_V p l e R s m args below meth c Q D A N ad nL S Y cells slots pc L (z_v i :: .ref (ad k) :: st) := by
  intro H locs ls hR hS hl
  obtain ⟨hP, hD⟩ := hR.one hk
  rw [he] at hP
  refine va_aldq C.1 C.2.1 C.2.2.2.2.2.1 hP 0 t0 rfl ht (z_ix h0 h1 hn) hd ?_
  rw [z_cl0 h0 (by omega)]
  exact kk H locs ls hR hS hl
theorem z_aaldY (C : z_C p s m args meth c cc nL own D A ks) {cA : ClassId} {n q : Nat} {g : Nat → Option Nat} {i : Int} {E : String} (t0 : Nat) (he : Y q = some (z_rr cA n g)) (ht : (z_tys ks)[t0]? = some (cA, .object E)) (hn : n < 2147483648) (h0 : 0 ≤ i) (h1 : i < n) (hd : decode cc pc = .ok (.aaload, 1))
    (kk : z_V p l e R s m args below meth c Q D A N ad nL S Y cells slots (pc + 1) L (va_rf (g i.toNat) :: st)) : z_V p l e R s m args below meth c Q D A N ad nL S Y cells slots pc L (z_v i :: .ref q :: st) := by
  intro H locs ls hR hS hl
  obtain ⟨hP, hD⟩ := hR.dyn he
  refine va_aldq C.1 C.2.1 C.2.2.2.2.2.1 hP 0 t0 rfl ht (z_ix h0 h1 hn) hd ?_
  rw [z_cl0 h0 (by omega)]
  exact kk H locs ls hR hS hl
theorem z_aast (C : z_C p s m args meth c cc nL own D A ks) {cA : ClassId} {n v ci : Nat} {g : Nat → Option Nat} {i : Int} {r : vw_C} {vs : List Value} (k t0 : Nat) (hk : k < N) (he : S k = z_rr cA n g) (ht : (z_tys ks)[t0]? = some (cA, .object r.1)) (hv : Y v = some (.inr (ci, vs))) (hc : z_cl[ci]? = some r) (hn : n < 2147483648) (h0 : 0 ≤ i) (h1 : i < n) (hd : decode cc pc = .ok (.aastore, 1))
    (kk : z_V p l e R s m args below meth c Q D A N ad nL (va_up S k (z_rr cA n (va_up g i.toNat (some v)))) Y cells slots (pc + 1) L st) : z_V p l e R s m args below meth c Q D A N ad nL S Y cells slots pc L (.ref v :: z_v i :: .ref (ad k) :: st) := by
  intro H locs ls hR hS hl
  have hcell := (hR.1 k hk).2
  rw [he] at hcell
  refine z_Waast C.1 C.2.1 C.2.2.2.2.2.1 t0 ci hcell ht (hR.2.2 v _ hv).2.2 hc (z_ix h0 h1 hn) hd ?_
  intro H1 j he1 z oq
  rw [z_cl0 h0 (by omega)] at he1
  exact kk H1 _ ls (hR.put hk he1 oq) (z_S.put hS z oq (hR.1 k hk).1 (fun q h => by rw [z_one q h])) hl
theorem z_aastY (C : z_C p s m args meth c cc nL own D A ks) {cA : ClassId} {n v ci q : Nat} {g : Nat → Option Nat} {i : Int} {r : vw_C} {vs : List Value} (t0 : Nat) (he : Y q = some (z_rr cA n g)) (ht : (z_tys ks)[t0]? = some (cA, .object r.1)) (hv : Y v = some (.inr (ci, vs))) (hc : z_cl[ci]? = some r) (hn : n < 2147483648) (h0 : 0 ≤ i) (h1 : i < n) (hd : decode cc pc = .ok (.aastore, 1))
    (kk : z_V p l e R s m args below meth c Q D A N ad nL S (va_up Y q (some (z_rr cA n (va_up g i.toNat (some v))))) cells slots (pc + 1) L st) : z_V p l e R s m args below meth c Q D A N ad nL S Y cells slots pc L (.ref v :: z_v i :: .ref q :: st) := by
  intro H locs ls hR hS hl
  have hcell := hR.2.2 q _ he
  refine z_Waast C.1 C.2.1 C.2.2.2.2.2.1 t0 ci hcell.2.2 ht (hR.2.2 v _ hv).2.2 hc (z_ix h0 h1 hn) hd ?_
  intro H1 j he1 z oq
  rw [z_cl0 h0 (by omega)] at he1
  exact kk H1 _ ls (hR.putY he he1 oq) (z_S.put hS z oq hcell.1 (fun q h => by rw [z_one q h])) hl
theorem z_alen (C : z_C p s m args meth c cc nL own D A ks) {cA : ClassId} {n : Nat} {a0 : vp_A} {ty : FieldType} (k t0 : Nat) (hk : k < N) (he : S k = .inl (cA, a0)) (hn0 : a0.1 = n) (ht : (z_tys ks)[t0]? = some (cA, ty)) (hd : decode cc pc = .ok (.arraylength, 1))
    (kk : z_V p l e R s m args below meth c Q D A N ad nL S Y cells slots (pc + 1) L (z_v n :: st)) : z_V p l e R s m args below meth c Q D A N ad nL S Y cells slots pc L (.ref (ad k) :: st) := by
  intro H locs ls hR hS hl
  obtain ⟨hP, hD⟩ := hR.one hk
  rw [he] at hP
  refine va_alen C.1 C.2.1 C.2.2.2.2.2.1 hP 0 t0 rfl ht (v := z_i n) (by rw [hn0]; exact (Int32.ofInt_eq_ofNat ..).symm) hd (kk H locs ls hR hS hl)
/-- System.arraycopy between numbered int arrays -/
theorem z_copy (C : z_C p s m args meth c cc nL own D A ks) {idx n0 n1 : Nat} {f g : Nat → Int} {sp dp n : Int} (k0 k1 : Nat) (hk0 : k0 < N) (hk1 : k1 < N) (he0 : S k0 = z_ar ks.1 n0 f) (he1 : S k1 = z_ar ks.1 n1 g) (hm : ∀ w ∈ [Cond.methodLink own idx arraycopyName, Cond.native arraycopyName, Cond.static arraycopyName, Cond.initialized "java/lang/System"], w ∈ z_tbl) (h1 : 0 ≤ sp) (h2 : 0 ≤ dp) (h3 : 0 ≤ n) (h4 : sp + n ≤ n0) (h5 : dp + n ≤ n1) (h6 : n0 < 2147483648) (h7 : n1 < 2147483648) (hfr : 1 ≤ R.frames) (hlo : (st.map fun v => v.category).sum + (nativeFrameWords "java/lang/System" "arraycopy" 5 + 11) ≤ R.locals) (hd : decode cc pc = .ok (.invokestatic idx, 3))
    (kk : z_V p l e R s m args below meth c Q D A N ad nL (va_up S k1 (z_ar ks.1 n1 (va_cpy f g sp.toNat dp.toNat n.toNat))) Y cells slots (pc + 3) L st) : z_V p l e R s m args below meth c Q D A N ad nL S Y cells slots pc L (z_v n :: z_v dp :: .ref (ad k1) :: z_v sp :: .ref (ad k0) :: st) := by
  intro H locs ls hR hS hl
  have hc0 := (hR.1 k0 hk0).2
  have hc1 := (hR.1 k1 hk1).2
  rw [he0] at hc0
  rw [he1] at hc1
  have nn : ∀ z : Int, 0 ≤ z → z < 2147483648 → ¬ z_i z < 0 := fun z h0 h1 q => by
    have := (z_lt (a := z) (b := 0) ⟨by omega, h1⟩ z_rg0).mp q
    omega
  refine z_Wcopy C.1 C.2.1 (C.2.2.1.trans hl.1.symm) C.2.2.2.1 (C.2.2.2.2.1 _ (hm _ (by simp))) (C.2.2.2.2.1 _ (hm _ (by simp))) (C.2.2.2.2.1 _ (hm _ (by simp))) (C.2.2.2.2.1 _ (hm _ (by simp))) C.2.2.2.2.2.1 0 hc0 hc1 rfl (nn _ h1 (by omega)) (nn _ h2 (by omega)) (nn _ h3 (by omega)) (by rw [z_cl0 h1 (by omega), z_cl0 h3 (by omega)]; omega) (by rw [z_cl0 h2 (by omega), z_cl0 h3 (by omega)]; omega) hfr hlo hd ?_
  intro H1 lo hlo he z oq
  rw [z_cl0 h1 (by omega), z_cl0 h2 (by omega), z_cl0 h3 (by omega)] at he
  have hf : va_cpy (fun j => z_i (f j)) (fun j => z_i (g j)) sp.toNat dp.toNat n.toNat = fun j => z_i (va_cpy f g sp.toNat dp.toNat n.toNat j) := by
    funext j
    unfold va_cpy
    split <;> rfl
  rw [hf] at he
  exact kk H1 _ ls (hR.put hk1 he oq) (z_S.put hS z oq (hR.1 k1 hk1).1 hlo) hl
/-- Math.max, Math.min -/
theorem z_max (C : z_C p s m args meth c cc nL own D A ks) {idx : Nat} {x y : Int} (hm : ∀ w ∈ [Cond.methodLink own idx Lib.Math.max.name, Cond.static Lib.Math.max.name, Cond.initialized "java/lang/Math", Cond.code Lib.Math.max.name Lib.Math.max.code 2 (some .int)], w ∈ z_tbl) (hx : z_rg x) (hy : z_rg y) (hfr : 1 ≤ R.frames) (hlo : (st.map fun v => v.category).sum + 13 ≤ R.locals) (hc : cells ≤ R.cells) (hs : slots ≤ R.slots) (hd : decode cc pc = .ok (.invokestatic idx, 3))
    (kk : z_V p l e R s m args below meth c Q D A N ad nL S Y cells slots (pc + 3) L (z_v (if x < y then y else x) :: st)) : z_V p l e R s m args below meth c Q D A N ad nL S Y cells slots pc L (z_v y :: z_v x :: st) := by
  intro H locs ls hR hS hl
  refine va_mmax C.1 C.2.1 (C.2.2.1.trans hl.1.symm) C.2.2.2.1 (C.2.2.2.2.1 _ (hm _ (by simp))) (C.2.2.2.2.1 _ (hm _ (by simp))) (C.2.2.2.2.1 _ (hm _ (by simp))) (C.2.2.2.2.1 _ (hm _ (by simp))) hfr hlo hc hs hd ?_
  have e1 : (if z_i x < z_i y then z_i y else z_i x) = z_i (if x < y then y else x) := by
    by_cases h : x < y
    · rw [if_pos h, if_pos ((z_lt hx hy).mpr h)]
    · rw [if_neg h, if_neg (fun q => h ((z_lt hx hy).mp q))]
  rw [e1]
  exact kk H locs ls hR hS hl
theorem z_min (C : z_C p s m args meth c cc nL own D A ks) {idx : Nat} {x y : Int} (hm : ∀ w ∈ [Cond.methodLink own idx Lib.Math.min.name, Cond.static Lib.Math.min.name, Cond.initialized "java/lang/Math", Cond.code Lib.Math.min.name Lib.Math.min.code 2 (some .int)], w ∈ z_tbl) (hx : z_rg x) (hy : z_rg y) (hfr : 1 ≤ R.frames) (hlo : (st.map fun v => v.category).sum + 13 ≤ R.locals) (hc : cells ≤ R.cells) (hs : slots ≤ R.slots) (hd : decode cc pc = .ok (.invokestatic idx, 3))
    (kk : z_V p l e R s m args below meth c Q D A N ad nL S Y cells slots (pc + 3) L (z_v (if y < x then y else x) :: st)) : z_V p l e R s m args below meth c Q D A N ad nL S Y cells slots pc L (z_v y :: z_v x :: st) := by
  intro H locs ls hR hS hl
  refine va_mmin C.1 C.2.1 (C.2.2.1.trans hl.1.symm) C.2.2.2.1 (C.2.2.2.2.1 _ (hm _ (by simp))) (C.2.2.2.2.1 _ (hm _ (by simp))) (C.2.2.2.2.1 _ (hm _ (by simp))) (C.2.2.2.2.1 _ (hm _ (by simp))) hfr hlo hc hs hd ?_
  have e1 : (if z_i y < z_i x then z_i y else z_i x) = z_i (if y < x then y else x) := by
    by_cases h : y < x
    · rw [if_pos h, if_pos ((z_lt hy hx).mpr h)]
    · rw [if_neg h, if_neg (fun q => h ((z_lt hy hx).mp q))]
  rw [e1]
  exact kk H locs ls hR hS hl
/-- new: an object, an array of ints, an array of references -/
theorem z_new (C : z_C p s m args meth c cc nL own D A ks) {r : vw_C} {ci idx : Nat} {fs : List Value} (hc : z_cl[ci]? = some r) (hin : ∀ w ∈ u_ws r.1 r.2.1 r.2.2, w ∈ z_tbl) (ty0 : Nat → FieldType) (hty : ∀ k, k < r.2.2 → parseFieldDescriptor (r.2.1 k).2.2.1 = some (ty0 k)) (hm : ∀ w ∈ [Cond.classLink own idx r.1, Cond.instantiable r.1 r.2.2, Cond.initialized r.1], w ∈ z_tbl) (hfs : ∀ j, j < r.2.2 → defaultValue (ty0 j) = vp_V fs j) (h1 : cells + 1 ≤ R.cells) (h2 : slots + r.2.2 ≤ R.slots) (hd : decode cc pc = .ok (.new idx, 3))
    (kk : ∀ q, Y q = none → (∀ x y, Y x = some y → x ≠ q) → z_V p l e R s m args below meth c Q D A N ad nL S (va_up Y q (some (.inr (ci, fs)))) (cells + 1) (slots + r.2.2) (pc + 3) L (.ref q :: st)) : z_V p l e R s m args below meth c Q D A N ad nL S Y cells slots pc L st := by
  intro H locs ls hR hS hl
  obtain ⟨C0, T, n⟩ := r
  have hKn := C.2.2.2.2.2.1.1 ci _ hc
  refine W.newcK C.1 C.2.1 C.2.2.2.1 (C.2.2.2.2.1 _ (hm _ (by simp))) (C.2.2.2.2.1 _ (hm _ (by simp))) (C.2.2.2.2.1 _ (hm _ (by simp))) rfl hd h1 h2 hKn.2.1 rfl fun H1 kC hkC e1 z1 o1 => ?_
  have hat : va_at D z_cl (H.size, .inr (ci, fs)) H1 := ⟨_, hc, (u_born ty0 C.2.2.2.2.1 hin hKn hkC e1 hty).to hfs⟩
  obtain ⟨g1, g2, g3⟩ := hR.new (C.2.2.2.2.2.2.2.2 _ hS.1) hat o1
  exact kk H.size g2 g3 H1 locs ls g1 (z_S.new hS z1 o1) hl
theorem z_newI (C : z_C p s m args meth c cc nL own D A ks) {n : Int} (hm : Cond.arrayClass .int ∈ z_tbl) (h0 : 0 ≤ n) (h3 : n < 100000) (h1 : cells + 1 ≤ R.cells) (h2 : slots + n.toNat ≤ R.slots) (hd : decode cc pc = .ok (.newarray .int, 2))
    (kk : ∀ q, Y q = none → (∀ x y, Y x = some y → x ≠ q) → z_V p l e R s m args below meth c Q D A N ad nL S (va_up Y q (some (z_ar ks.1 n.toNat (fun _ => 0)))) (cells + 1) (slots + n.toNat) (pc + 2) L (.ref q :: st)) : z_V p l e R s m args below meth c Q D A N ad nL S Y cells slots pc L (z_v n :: st) := by
  intro H locs ls hR hS hl
  have nn : ¬ z_i n < 0 := fun q => by
    have := (z_lt (a := n) (b := 0) ⟨by omega, by omega⟩ z_rg0).mp q
    omega
  refine va_newaK (atype := .int) (N := n.toNat) C.1 C.2.1 (C.2.2.2.2.1 _ hm) rfl hd rfl nn (z_cl0 h0 (by omega)) (by show _ * 4 ≤ _; omega) h1 h2 rfl fun H1 cA e1 z1 o1 hAr hNm => ?_
  have hcA : cA = ks.1 := by
    have h := (C.2.2.2.2.2.1.2 0 _ rfl).2
    exact Option.some.inj (hNm.symm.trans h)
  subst hcA
  have hat : va_at D z_cl (H.size, z_ar ks.1 n.toNat (fun _ => 0)) H1 := by
    show H1[H.size]? = some (vp_cell _ _)
    rw [e1, vp_cell_i]
    rfl
  obtain ⟨g1, g2, g3⟩ := hR.new (C.2.2.2.2.2.2.2.2 _ hS.1) hat o1
  exact kk H.size g2 g3 H1 locs ls g1 (z_S.new hS z1 o1) hl
theorem z_newA (C : z_C p s m args meth c cc nL own D A ks) {n : Int} {E : String} {cA : ClassId} {idx : Nat} (t0 : Nat) (ht : (z_tys ks)[t0]? = some (cA, .object E)) (hov : va_AO E s) (hm : Cond.classLink own idx E ∈ z_tbl) (h0 : 0 ≤ n) (h3 : n < 100000) (h1 : cells + 1 ≤ R.cells) (h2 : slots + n.toNat ≤ R.slots) (hd : decode cc pc = .ok (.anewarray idx, 3))
    (kk : ∀ q, Y q = none → (∀ x y, Y x = some y → x ≠ q) → z_V p l e R s m args below meth c Q D A N ad nL S (va_up Y q (some (z_rr cA n.toNat (fun _ => none)))) (cells + 1) (slots + n.toNat) (pc + 3) L (.ref q :: st)) : z_V p l e R s m args below meth c Q D A N ad nL S Y cells slots pc L (z_v n :: st) := by
  intro H locs ls hR hS hl
  have nn : ¬ z_i n < 0 := fun q => by
    have := (z_lt (a := n) (b := 0) ⟨by omega, by omega⟩ z_rg0).mp q
    omega
  have hN : (z_i n).toNatClampNeg = n.toNat := z_cl0 h0 (by omega)
  refine W.anew C.1 C.2.1 C.2.2.2.1 (C.2.2.2.2.1 _ hm) (va_AO.use hov) rfl hd rfl nn (by rw [hN]; omega) h1 (by rw [hN]; exact h2) fun cB kA comp f1 f2 f3 f4 => ?_
  rw [hN]
  have hcA : cB = cA := by
    obtain ⟨_, _, _, _, _, h⟩ := (C.2.2.2.2.2.1.2 t0 _ ht).2
    exact Option.some.inj (f1.symm.trans h)
  subst hcA
  generalize hH1 : H.push ({ cls := cB, slots := Array.replicate n.toNat .null, vm := .none } : Cell) = H1
  have z1 : H1.size = H.size + 1 := by rw [← hH1, Array.size_push]
  have e1 : H1[H.size]? = some (arrV cB n.toNat (fun _ => .null)) := by rw [← hH1, Array.getElem?_push_size, ← arrV_new]
  have o1 : ∀ q : Nat, q < H.size → H1[q]? = H[q]? := fun q hq => by rw [← hH1, Array.getElem?_push, if_neg (Nat.ne_of_lt hq)]
  have hat : va_at D z_cl (H.size, z_rr cB n.toNat (fun _ => none)) H1 := by
    show H1[H.size]? = some (vp_cell _ _)
    rw [e1, vp_cell_q]
    rfl
  obtain ⟨g1, g2, g3⟩ := hR.new (C.2.2.2.2.2.2.2.2 _ hS.1) hat o1
  exact kk H.size g2 g3 H1 locs ls g1 (z_S.new hS z1 o1) hl
/-- Object.<init> -/
theorem z_obj (C : z_C p s m args meth c cc nL own D A ks) {idx q : Nat} (hm : ∀ w ∈ [Cond.methodLink own idx Lib.objectInit, Cond.instanceMethod Lib.objectInit, Cond.code Lib.objectInit ⟨#[0xb1]⟩ 1 none], w ∈ z_tbl) (hfr : 1 ≤ R.frames) (hlo : (st.map fun v => v.category).sum + 12 ≤ R.locals) (hd : decode cc pc = .ok (.invokespecial idx, 3))
    (kk : z_V p l e R s m args below meth c Q D A N ad nL S Y cells slots (pc + 3) L st) : z_V p l e R s m args below meth c Q D A N ad nL S Y cells slots pc L (.ref q :: st) := by
  intro H locs ls hR hS hl
  exact W.objInit C.1 C.2.1 C.2.2.2.1 (C.2.2.2.2.1 _ (hm _ (by simp))) (C.2.2.2.2.1 _ (hm _ (by simp))) (C.2.2.2.2.1 _ (hm _ (by simp))) rfl (hl.1.trans C.2.2.1.symm) rfl hd hfr (by show 2 * 0 + _ + _ ≤ _; omega) (kk H locs ls hR hS hl)
end ZHEAP
