/-! the law's world: the class's numbered cells, the reference's behind them -/
def z_ad (aC aM : Nat → Nat) (k : Nat) : Nat := if k < 27 then aC k else aM (k - 27)
def z_S2 (SC SM : Nat → va_E) (k : Nat) : va_E := if k < 27 then SC k else SM (k - 27)
def z_PC (A : Nat → Prop) (aM : Nat → Nat) : Nat → Prop := fun q => A q ∧ ∀ k, k < 24 → aM k ≠ q
section ZTWO
variable {p : Program} {l : Launch} {e : Env} {R : Room} {s : State} {m : MethodId} {args : Array Value} {below : List Frame} {meth : Method} {c : Code} {Q : State → Prop} {D : va_G} {A : Nat → Prop} {aC aM : Nat → Nat} {nL : Nat} {SC SM S' : Nat → va_E} {Y Y' : Nat → Option va_E} {cells slots pc : Nat} {L : List (Nat × Value)} {st st0 : List Value} {cc : ByteArray} {own : String} {ks : z_Ks} {post : Option Value → (Nat → va_E) → (Nat → Option va_E) → Prop} {mc ms fr lo mL idx : Nat} {y : MethodName} {b : ByteArray} {ret : Option FieldType} {As : List Value} {H H1 : Heap}
theorem z_adC {k : Nat} (h : k < 27) : z_ad aC aM k = aC k := if_pos h
theorem z_adM {k : Nat} : z_ad aC aM (27 + k) = aM k := by unfold z_ad; rw [if_neg (by omega)]; congr 1; omega
theorem z_S2C {k : Nat} (h : k < 27) : z_S2 SC SM k = SC k := if_pos h
theorem z_S2M {k : Nat} : z_S2 SC SM (27 + k) = SM k := by unfold z_S2; rw [if_neg (by omega)]; congr 1; omega
theorem z_cut (hR : z_R D A 51 (z_ad aC aM) (z_S2 SC SM) Y H) : z_R D (z_PC A aM) 27 aC SC Y H ∧ (∀ k, k < 24 → A (aM k) ∧ va_at D z_cl (aM k, SM k) H) ∧ (∀ i j, i < 24 → j < 24 → aM i = aM j → i = j) := by
  refine ⟨⟨fun k hk => ?_, fun i j hi hj hij => ?_, fun q x hq => ?_⟩, fun k hk => ?_, fun i j hi hj hij => ?_⟩
  · have h := hR.1 k (by omega)
    rw [z_adC hk, z_S2C hk] at h
    refine ⟨⟨h.1, fun j hj hjk => ?_⟩, h.2⟩
    have := hR.2.1 (27 + j) k (by omega) (by omega) (by rw [z_adM, z_adC hk]; exact hjk)
    omega
  · exact hR.2.1 i j (by omega) (by omega) (by rw [z_adC hi, z_adC hj]; exact hij)
  · have h := hR.2.2 q x hq
    refine ⟨⟨h.1, fun j hj => ?_⟩, fun k hk => ?_, h.2.2⟩
    · have := h.2.1 (27 + j) (by omega)
      rw [z_adM] at this
      exact this
    · have := h.2.1 k (by omega)
      rw [z_adC hk] at this
      exact this
  · have h := hR.1 (27 + k) (by omega)
    rw [z_adM, z_S2M] at h
    exact h
  · have := hR.2.1 (27 + i) (27 + j) (by omega) (by omega) (by rw [z_adM, z_adM]; exact hij)
    omega
theorem z_tie (h : z_R D (z_PC A aM) 27 aC SC Y H) (hM : ∀ k, k < 24 → A (aM k) ∧ va_at D z_cl (aM k, SM k) H) (hi : ∀ i j, i < 24 → j < 24 → aM i = aM j → i = j) : z_R D A 51 (z_ad aC aM) (z_S2 SC SM) Y H := by
  have key : ∀ k, k < 51 → (k < 27 ∨ ∃ j, j < 24 ∧ k = 27 + j) := fun k hk => by
    rcases Nat.lt_or_ge k 27 with q | q
    · exact Or.inl q
    · exact Or.inr ⟨k - 27, by omega, by omega⟩
  refine ⟨fun k hk => ?_, fun i j h1 h2 hij => ?_, fun q x hq => ⟨(h.2.2 q x hq).1.1, fun k hk => ?_, (h.2.2 q x hq).2.2⟩⟩
  · rcases key k hk with q | ⟨j, hj, rfl⟩
    · rw [z_adC q, z_S2C q]
      exact ⟨(h.1 k q).1.1, (h.1 k q).2⟩
    · rw [z_adM, z_S2M]
      exact hM j hj
  · rcases key i h1 with q1 | ⟨j1, hj1, rfl⟩ <;> rcases key j h2 with q2 | ⟨j2, hj2, rfl⟩
    · rw [z_adC q1, z_adC q2] at hij
      exact h.2.1 i j q1 q2 hij
    · rw [z_adC q1, z_adM] at hij
      exact absurd hij.symm ((h.1 i q1).1.2 j2 hj2)
    · rw [z_adM, z_adC q2] at hij
      exact absurd hij ((h.1 j q2).1.2 j1 hj1)
    · rw [z_adM, z_adM] at hij
      rw [hi j1 j2 hj1 hj2 hij]
  · rcases key k hk with q1 | ⟨j1, hj1, rfl⟩
    · rw [z_adC q1]
      exact (h.2.2 q x hq).2.1 k q1
    · rw [z_adM]
      exact (h.2.2 q x hq).1.2 j1 hj1
theorem z_callC (C : z_C p s m args meth c cc nL own D A ks) (hM : z_Met l y b mL ret fr lo mc ms D (z_PC A aM) 27 aC ks (.ref (aC 0) :: As) SC Y post) (hm : ∀ w ∈ [Cond.methodLink own idx y, Cond.instanceMethod y, Cond.selects y.cls y y, Cond.initialized y.cls, Cond.code y b mL ret], w ∈ z_tbl) {fs : List Value} (hS0 : SC 0 = .inr (10, fs)) (hcl : y.cls = RX10) (hdy : y.cls ≠ "java/lang/invoke/MethodHandle" ∧ y.cls ≠ "java/lang/invoke/VarHandle" ∧ (parseMethodDescriptor y.desc).map (fun d => d.parameters.length) = some As.length) (hr : fr + 1 ≤ R.frames ∧ 8 + (mL + 11) + lo ≤ R.locals) (hf : cells + mc ≤ R.cells ∧ slots + ms ≤ R.slots) (hst : st0 = As.reverse ++ .ref (aC 0) :: st) (hW : (st.map fun v => v.category).sum ≤ 8) (hd : decode cc pc = .ok (.invokevirtual idx, 3))
    (kk : ∀ r S' Y', post r S' Y' → z_V p l e R s m args below meth c Q D A 51 (z_ad aC aM) nL (z_S2 S' SM) Y' (cells + mc) (slots + ms) (pc + 3) L (r.toList ++ st)) : z_V p l e R s m args below meth c Q D A 51 (z_ad aC aM) nL (z_S2 SC SM) Y cells slots pc L st0 := by
  subst hst
  intro H locs ls hR hS hl T hT X
  obtain ⟨h1, h2, h3⟩ := z_cut hR
  have hrecv : ∃ cell : Cell, H[aC 0]? = some cell ∧ cell.vm.isStatics = false ∧ s.vm.findClass y.cls = some cell.cls := by
    obtain ⟨hP, -⟩ := h1.one (k := 0) (by omega)
    rw [hS0] at hP
    rw [hcl]
    exact va_recv (ci := 10) C.2.2.2.2.2.1 hP rfl (q0 := 0) rfl
  have hpre : ∀ U : State, U.heap = H → s.WarmedH U.vm → va_Pc (.ref (aC 0) :: As) (z_P D (z_PC A aM) 27 aC ks SC Y) (Value.ref (aC 0) :: As).toArray U := fun U hU hW => ⟨rfl, by rw [hU]; exact h1, va_K.moved hW.alike C.2.2.2.2.2.1, C.2.2.2.2.2.2.1.warm hW, fun q hq => ⟨C.2.2.2.2.2.2.2.2 q (by rw [hU] at hq; exact Nat.le_trans hS.1 hq), fun k hk hkq => by
    have := (h2 k hk).2.lt
    rw [hU] at hq
    simp only at this
    omega⟩⟩
  obtain ⟨v, st₀, t, T', Lo, h0, X', hL, e1, e2, ⟨⟨r, S', Y', hv, hp, hR'⟩, hz, hk⟩, stp⟩ := va_runV (Ts := z_tbl) (g := F0 m pc ls (As.reverse ++ .ref (aC 0) :: st)) (rest := st) ⟨C.1, C.2.1, C.2.2.1, C.2.2.2.1, C.2.2.2.2.1⟩ hM ⟨z_callB C As.length (hm _ (by simp)) (hm _ (by simp)) (hm _ (by simp)) hdy hr, C.2.2.2.2.1 _ (hm _ (by simp)), C.2.2.2.2.1 _ (hm _ (by simp))⟩ ⟨z_blind, hrecv, hpre⟩ rfl rfl hl.1 rfl (lv_room hW) hd hf T hT X
  cases hv
  rw [h0] at hz hk
  obtain ⟨t2, a1, b1⟩ := kk v S' Y' hp T'.heap (locs ++ Lo) ls (by
      rw [e1]
      exact z_tie hR' (fun k hk2 => ⟨(h2 k hk2).1, (h2 k hk2).2.kept (hk (aM k) (h2 k hk2).2.lt (fun hp2 => hp2.2 k hk2 rfl))⟩) h3) ⟨Nat.le_trans hS.1 (by rw [e1]; exact hz), fun q g1 g2 => by rw [e1, hk q (Nat.lt_of_lt_of_le g1 hS.1) (fun z => g2 z.1)]; exact hS.2.1 q g1 g2, fun q hq => by
      rcases List.mem_append.mp hq with h | h
      · exact hS.2.2 q h
      · exact (hL q h).1⟩ hl T' rfl X'
  exact ⟨t2, stp t2 a1, b1⟩
theorem z_callM (C : z_C p s m args meth c cc nL own D A ks) (hM : ∀ B : Nat → Prop, z_Met l y b mL ret fr lo mc ms D B 24 aM ks (.ref (aM 0) :: As) SM (fun _ => none) post) (hm : ∀ w ∈ [Cond.methodLink own idx y, Cond.instanceMethod y, Cond.selects y.cls y y, Cond.initialized y.cls, Cond.code y b mL ret], w ∈ z_tbl) {fs : List Value} (hS0 : SM 0 = .inr (11, fs)) (hcl : y.cls = RX11) (hdy : y.cls ≠ "java/lang/invoke/MethodHandle" ∧ y.cls ≠ "java/lang/invoke/VarHandle" ∧ (parseMethodDescriptor y.desc).map (fun d => d.parameters.length) = some As.length) (hr : fr + 1 ≤ R.frames ∧ 8 + (mL + 11) + lo ≤ R.locals) (hf : cells + mc ≤ R.cells ∧ slots + ms ≤ R.slots) (hst : st0 = As.reverse ++ .ref (aM 0) :: st) (hW : (st.map fun v => v.category).sum ≤ 8) (hd : decode cc pc = .ok (.invokevirtual idx, 3))
    (kk : ∀ r S' Y', post r S' Y' → z_V p l e R s m args below meth c Q D A 51 (z_ad aC aM) nL (z_S2 SC S') Y (cells + mc) (slots + ms) (pc + 3) L (r.toList ++ st)) : z_V p l e R s m args below meth c Q D A 51 (z_ad aC aM) nL (z_S2 SC SM) Y cells slots pc L st0 := by
  subst hst
  intro H locs ls hR hS hl T hT X
  obtain ⟨h1, h2, h3⟩ := z_cut hR
  generalize hB : (fun q : Nat => (∃ k, k < 24 ∧ q = aM k) ∨ H.size ≤ q) = B
  have hBi : ∀ q, B q → (∃ k, k < 24 ∧ q = aM k) ∨ H.size ≤ q := fun q h => by rw [← hB] at h; exact h
  have hm1 : z_R D B 24 aM SM (fun _ => none) H := ⟨fun k hk => ⟨by rw [← hB]; exact Or.inl ⟨k, hk, rfl⟩, (h2 k hk).2⟩, h3, fun q x hq => by cases hq⟩
  have hrecv : ∃ cell : Cell, H[aM 0]? = some cell ∧ cell.vm.isStatics = false ∧ s.vm.findClass y.cls = some cell.cls := by
    obtain ⟨hP, -⟩ := hm1.one (k := 0) (by omega)
    rw [hS0] at hP
    rw [hcl]
    exact va_recv (ci := 11) C.2.2.2.2.2.1 hP rfl (q0 := 0) rfl
  have hpre : ∀ U : State, U.heap = H → s.WarmedH U.vm → va_Pc (.ref (aM 0) :: As) (z_P D B 24 aM ks SM (fun _ => none)) (Value.ref (aM 0) :: As).toArray U := fun U hU hW => ⟨rfl, by rw [hU]; exact hm1, va_K.moved hW.alike C.2.2.2.2.2.1, C.2.2.2.2.2.2.1.warm hW, fun q hq => by rw [hU] at hq; rw [← hB]; exact Or.inr hq⟩
  obtain ⟨v, st₀, t, T', Lo, h0, X', hL, e1, e2, ⟨⟨r, S', Y', hv, hp, hR'⟩, hz, hk⟩, stp⟩ := va_runV (Ts := z_tbl) (g := F0 m pc ls (As.reverse ++ .ref (aM 0) :: st)) (rest := st) ⟨C.1, C.2.1, C.2.2.1, C.2.2.2.1, C.2.2.2.2.1⟩ (hM B) ⟨z_callB C As.length (hm _ (by simp)) (hm _ (by simp)) (hm _ (by simp)) hdy hr, C.2.2.2.2.1 _ (hm _ (by simp)), C.2.2.2.2.1 _ (hm _ (by simp))⟩ ⟨z_blind, hrecv, hpre⟩ rfl rfl hl.1 rfl (lv_room hW) hd hf T hT X
  cases hv
  rw [h0] at hz hk
  have hBA : ∀ q, B q → A q := fun q h => by
    rcases hBi q h with ⟨k, hk1, rfl⟩ | h
    · exact (h2 k hk1).1
    · exact C.2.2.2.2.2.2.2.2 q (Nat.le_trans hS.1 h)
  obtain ⟨t2, a1, b1⟩ := kk v S' Y' hp T'.heap (locs ++ Lo) ls (by
      rw [e1]
      refine z_tie ⟨fun k hk2 => ⟨(h1.1 k hk2).1, (h1.1 k hk2).2.kept (hk (aC k) (h1.1 k hk2).2.lt ?_)⟩, h1.2.1, fun q x hq => ⟨(h1.2.2 q x hq).1, (h1.2.2 q x hq).2.1, (h1.2.2 q x hq).2.2.kept (hk q (h1.2.2 q x hq).2.2.lt ?_)⟩⟩ (fun k hk2 => ⟨(h2 k hk2).1, (hR'.1 k hk2).2⟩) h3
      · intro hb
        rcases hBi _ hb with ⟨j, hj, hjq⟩ | hb
        · exact (h1.1 k hk2).1.2 j hj hjq.symm
        · exact absurd (h1.1 k hk2).2.lt (Nat.not_lt.mpr hb)
      · intro hb
        rcases hBi _ hb with ⟨j, hj, hjq⟩ | hb
        · exact (h1.2.2 q x hq).1.2 j hj hjq.symm
        · exact absurd (h1.2.2 q x hq).2.2.lt (Nat.not_lt.mpr hb)) ⟨Nat.le_trans hS.1 (by rw [e1]; exact hz), fun q g1 g2 => by rw [e1, hk q (Nat.lt_of_lt_of_le g1 hS.1) (fun z => g2 (hBA q z))]; exact hS.2.1 q g1 g2, fun q hq => by
      rcases List.mem_append.mp hq with h | h
      · exact hS.2.2 q h
      · exact hBA _ (hL q h)⟩ hl T' rfl X'
  exact ⟨t2, stp t2 a1, b1⟩
/-- the script -/
theorem z_scr {N : Nat} {ad : Nat → Nat} {S : Nat → va_E} (C : z_C p s m args meth c cc nL own D (fun q => s.heap.size ≤ q) ks) {bb Ln : Nat} {xs : Nat → Int32} (hX : va_X bb Ln xs s s.heap) (hbl : bb < s.heap.size) {i : Int} (h0 : 0 ≤ i) (h1 : i < Ln) (hL : Ln < 2147483648) (hd : decode cc pc = .ok (.iaload, 1))
    (kk : ∀ z, z_rg z → z = (xs i.toNat).toInt → z_V p l e R s m args below meth c Q D (fun q => s.heap.size ≤ q) N ad nL S Y cells slots (pc + 1) L (z_v z :: st)) : z_V p l e R s m args below meth c Q D (fun q => s.heap.size ≤ q) N ad nL S Y cells slots pc L (z_v i :: .ref bb :: st) := by
  intro H locs ls hR hS hl
  refine va_sld C.1 C.2.1 hX hbl (Nat.not_le.mpr hbl) hS (z_ix h0 h1 hL) hd ?_
  rw [z_cl0 h0 (by omega)]
  have h := kk (xs i.toNat).toInt (z_rgI _) rfl H locs ls hR hS hl
  rw [show z_v (xs i.toNat).toInt = .int (xs i.toNat) from congrArg Value.int (z_of _)] at h
  exact h
theorem z_scrL {N : Nat} {ad : Nat → Nat} {S : Nat → va_E} (C : z_C p s m args meth c cc nL own D (fun q => s.heap.size ≤ q) ks) {bb Ln : Nat} {xs : Nat → Int32} (hX : va_X bb Ln xs s s.heap) (hbl : bb < s.heap.size) (hd : decode cc pc = .ok (.arraylength, 1))
    (kk : z_V p l e R s m args below meth c Q D (fun q => s.heap.size ≤ q) N ad nL S Y cells slots (pc + 1) L (z_v (Ln : Int) :: st)) : z_V p l e R s m args below meth c Q D (fun q => s.heap.size ≤ q) N ad nL S Y cells slots pc L (.ref bb :: st) := by
  intro H locs ls hR hS hl
  refine va_slen C.1 C.2.1 hX hbl (Nat.not_le.mpr hbl) hS hd ?_
  have h := kk H locs ls hR hS hl
  exact h
end ZTWO
