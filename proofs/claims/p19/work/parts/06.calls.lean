section ZCALL
variable {p : Program} {l : Launch} {e : Env} {R : Room} {s : State} {m : MethodId} {args : Array Value} {below : List Frame} {meth : Method} {c : Code} {Q : State → Prop} {D : va_G} {A : Nat → Prop} {N : Nat} {ad : Nat → Nat} {nL : Nat} {S S' : Nat → va_E} {Y Y' : Nat → Option va_E} {cells slots pc : Nat} {L : List (Nat × Value)} {st st0 : List Value} {cc : ByteArray} {own : String} {ks : z_Ks} {post : Option Value → (Nat → va_E) → (Nat → Option va_E) → Prop} {mc ms fr lo mL idx : Nat} {y : MethodName} {b : ByteArray} {ret : Option FieldType} {As : List Value}
theorem z_go {a : Array Value} (hr : ∀ H locs ls, z_R D A N ad S Y H → va_S A s.heap H locs → lv_has ls nL L → va_Run p l e R s m args below meth c H locs cells slots mc ms (F0 m pc ls st0) st (z_Q D A N ad post a) A)
    (kk : ∀ r S' Y', post r S' Y' → z_V p l e R s m args below meth c Q D A N ad nL S' Y' (cells + mc) (slots + ms) (pc + 3) L (r.toList ++ st)) : z_V p l e R s m args below meth c Q D A N ad nL S Y cells slots pc L st0 := by
  intro H locs ls hR hS hl T hT X
  obtain ⟨v, st₀, t, T', Lo, h0, X', hL, e1, e2, ⟨⟨r, S', Y', hv, hp, hR'⟩, hz, hk⟩, stp⟩ := hr H locs ls hR hS hl T hT X
  cases hv
  rw [h0] at hz hk
  obtain ⟨t2, a1, b1⟩ := kk v S' Y' hp T'.heap (locs ++ Lo) ls (by rw [e1]; exact hR') ⟨Nat.le_trans hS.1 (by rw [e1]; exact hz), fun q h1 h2 => by rw [e1, hk q (Nat.lt_of_lt_of_le h1 hS.1) h2]; exact hS.2.1 q h1 h2, fun q hq => by
      rcases List.mem_append.mp hq with h | h
      · exact hS.2.2 q h
      · exact hL q h⟩ hl T' rfl X'
  exact ⟨t2, stp t2 a1, b1⟩
theorem z_blind {av : List Value} : FrameBlind (va_Pc av (z_P D A N ad ks S Y)) := by
  intro a U g mk q
  obtain ⟨q0, q1, q2, q3, q4⟩ := q
  exact ⟨q0, q1, va_K.moved (u := U) (U := U.calling g mk a) (Vm.Alike.refl U.vm) q2, z_X.same (s := U) (U := U.calling g mk a) rfl q3, q4⟩
theorem z_goodIn (h : Cond.code y b mL ret ∈ z_tbl) : GoodIn z_tbl (z_w y b mL ret) := by
  intro w hw
  have hm : w ∈ z_tbl := by
    rcases List.mem_cons.mp hw with rfl | hw
    · exact h
    · exact hw
  exact ⟨hm, good_of_word (z_good w hm)⟩
theorem z_callB (C : z_C p s m args meth c cc nL own D A ks) (n : Nat) (hc : Cond.code y b mL ret ∈ z_tbl) (hi : Cond.initialized y.cls ∈ z_tbl) (hk : Cond.methodLink own idx y ∈ z_tbl) (hd : y.cls ≠ "java/lang/invoke/MethodHandle" ∧ y.cls ≠ "java/lang/invoke/VarHandle" ∧ (parseMethodDescriptor y.desc).map (fun d => d.parameters.length) = some n) (hr : fr + 1 ≤ R.frames ∧ 8 + (mL + 11) + lo ≤ R.locals) : CallB R s args own idx y b mL ret (z_w y b mL ret) { frames := fr, cells := mc, slots := ms, locals := lo } mc ms n :=
  callB_of n C.2.2.2.2.1 (z_goodIn hc) rfl rfl rfl (C.2.2.2.2.1 _ hi) (C.2.2.2.2.1 _ hk) hd hr
theorem z_pre (C : z_C p s m args meth c cc nL own D A ks) {H : Heap} {locs : List Loc} (hR : z_R D A N ad S Y H) (hS : va_S A s.heap H locs) {av : List Value} : ∀ U : State, U.heap = H → s.WarmedH U.vm → va_Pc av (z_P D A N ad ks S Y) av.toArray U := by
  intro U hU hW
  exact ⟨rfl, by rw [hU]; exact hR, va_K.moved hW.alike C.2.2.2.2.2.1, C.2.2.2.2.2.2.1.warm hW, fun q h => C.2.2.2.2.2.2.2.2 q (by rw [hU] at h; exact Nat.le_trans hS.1 h)⟩
/-- what is called is an object of the world, of class y.cls -/
def z_at (N : Nat) (ad : Nat → Nat) (S : Nat → va_E) (Y : Nat → Option va_E) (q : Nat) (nm : String) : Prop := ∃ (ci : Nat) (r : vw_C) (fs : List Value), z_cl[ci]? = some r ∧ r.1 = nm ∧ ((∃ k, k < N ∧ q = ad k ∧ S k = .inr (ci, fs)) ∨ Y q = some (.inr (ci, fs)))
theorem z_atS (k ci : Nat) {nm : String} {r : vw_C} {fs : List Value} (hk : k < N) (he : S k = .inr (ci, fs)) (hc : z_cl[ci]? = some r) (hr : r.1 = nm) : z_at N ad S Y (ad k) nm := ⟨ci, r, fs, hc, hr, Or.inl ⟨k, hk, rfl, he⟩⟩
theorem z_atY (ci : Nat) {q : Nat} {nm : String} {r : vw_C} {fs : List Value} (he : Y q = some (.inr (ci, fs))) (hc : z_cl[ci]? = some r) (hr : r.1 = nm) : z_at N ad S Y q nm := ⟨ci, r, fs, hc, hr, Or.inr he⟩
theorem z_recv (C : z_C p s m args meth c cc nL own D A ks) {H : Heap} {q : Nat} {nm : String} (hR : z_R D A N ad S Y H) (h : z_at N ad S Y q nm) : ∃ cell : Cell, H[q]? = some cell ∧ cell.vm.isStatics = false ∧ s.vm.findClass nm = some cell.cls := by
  obtain ⟨ci, r, fs, hc, rfl, ⟨k, hk, rfl, he⟩ | he⟩ := h
  · obtain ⟨hP, -⟩ := hR.one hk
    rw [he] at hP
    exact va_recv C.2.2.2.2.2.1 hP hc (q0 := 0) rfl
  · obtain ⟨hP, -⟩ := hR.dyn he
    exact va_recv C.2.2.2.2.2.1 hP hc (q0 := 0) rfl
theorem z_callV (C : z_C p s m args meth c cc nL own D A ks) {q : Nat} (hM : z_Met l y b mL ret fr lo mc ms D A N ad ks (.ref q :: As) S Y post) (hm : ∀ w ∈ [Cond.methodLink own idx y, Cond.instanceMethod y, Cond.selects y.cls y y, Cond.initialized y.cls, Cond.code y b mL ret], w ∈ z_tbl) (ht : z_at N ad S Y q y.cls) (hdy : y.cls ≠ "java/lang/invoke/MethodHandle" ∧ y.cls ≠ "java/lang/invoke/VarHandle" ∧ (parseMethodDescriptor y.desc).map (fun d => d.parameters.length) = some As.length) (hr : fr + 1 ≤ R.frames ∧ 8 + (mL + 11) + lo ≤ R.locals) (hf : cells + mc ≤ R.cells ∧ slots + ms ≤ R.slots) (hst : st0 = As.reverse ++ .ref q :: st) (hW : (st.map fun v => v.category).sum ≤ 8) (hd : decode cc pc = .ok (.invokevirtual idx, 3))
    (kk : ∀ r S' Y', post r S' Y' → z_V p l e R s m args below meth c Q D A N ad nL S' Y' (cells + mc) (slots + ms) (pc + 3) L (r.toList ++ st)) : z_V p l e R s m args below meth c Q D A N ad nL S Y cells slots pc L st0 := by
  subst hst
  refine z_go (a := (Value.ref q :: As).toArray) ?_ kk
  intro H locs ls hR hS hl
  exact va_runV (Ts := z_tbl) ⟨C.1, C.2.1, C.2.2.1, C.2.2.2.1, C.2.2.2.2.1⟩ hM ⟨z_callB C As.length (hm _ (by simp)) (hm _ (by simp)) (hm _ (by simp)) hdy hr, C.2.2.2.2.1 _ (hm _ (by simp)), C.2.2.2.2.1 _ (hm _ (by simp))⟩ ⟨z_blind, z_recv C hR ht, z_pre C hR hS⟩ rfl rfl hl.1 rfl (lv_room hW) hd hf
theorem z_callS (C : z_C p s m args meth c cc nL own D A ks) (hM : z_Met l y b mL ret fr lo mc ms D A N ad ks As S Y post) (hm : ∀ w ∈ [Cond.methodLink own idx y, Cond.static y, Cond.initialized y.cls, Cond.code y b mL ret], w ∈ z_tbl) (hdy : y.cls ≠ "java/lang/invoke/MethodHandle" ∧ y.cls ≠ "java/lang/invoke/VarHandle" ∧ (parseMethodDescriptor y.desc).map (fun d => d.parameters.length) = some As.length) (hr : fr + 1 ≤ R.frames ∧ 8 + (mL + 11) + lo ≤ R.locals) (hf : cells + mc ≤ R.cells ∧ slots + ms ≤ R.slots) (hst : st0 = As.reverse ++ st) (hW : (st.map fun v => v.category).sum ≤ 8) (hd : decode cc pc = .ok (.invokestatic idx, 3))
    (kk : ∀ r S' Y', post r S' Y' → z_V p l e R s m args below meth c Q D A N ad nL S' Y' (cells + mc) (slots + ms) (pc + 3) L (r.toList ++ st)) : z_V p l e R s m args below meth c Q D A N ad nL S Y cells slots pc L st0 := by
  subst hst
  refine z_go (a := As.toArray) ?_ kk
  intro H locs ls hR hS hl
  exact va_runS (Ts := z_tbl) ⟨C.1, C.2.1, C.2.2.1, C.2.2.2.1, C.2.2.2.2.1⟩ hM ⟨z_callB C As.length (hm _ (by simp)) (hm _ (by simp)) (hm _ (by simp)) hdy hr, C.2.2.2.2.1 _ (hm _ (by simp))⟩ ⟨z_blind, z_pre C hR hS⟩ rfl rfl hl.1 rfl (lv_room hW) hd hf
theorem z_callI (C : z_C p s m args meth c cc nL own D A ks) {q : Nat} (hM : z_Met l y b mL none fr lo mc ms D A N ad ks (.ref q :: As) S Y post) (hm : ∀ w ∈ [Cond.methodLink own idx y, Cond.instanceMethod y, Cond.initialized y.cls, Cond.code y b mL none], w ∈ z_tbl) (hy1 : y.name = "<init>") (hdy : y.cls ≠ "java/lang/invoke/MethodHandle" ∧ y.cls ≠ "java/lang/invoke/VarHandle" ∧ (parseMethodDescriptor y.desc).map (fun d => d.parameters.length) = some As.length) (hr : fr + 1 ≤ R.frames ∧ 8 + (mL + 11) + lo ≤ R.locals) (hf : cells + mc ≤ R.cells ∧ slots + ms ≤ R.slots) (hst : st0 = As.reverse ++ .ref q :: st) (hW : (st.map fun v => v.category).sum ≤ 8) (hd : decode cc pc = .ok (.invokespecial idx, 3))
    (kk : ∀ r S' Y', post r S' Y' → z_V p l e R s m args below meth c Q D A N ad nL S' Y' (cells + mc) (slots + ms) (pc + 3) L (r.toList ++ st)) : z_V p l e R s m args below meth c Q D A N ad nL S Y cells slots pc L st0 := by
  subst hst
  refine z_go (a := (Value.ref q :: As).toArray) ?_ kk
  intro H locs ls hR hS hl
  exact va_runI (Ts := z_tbl) ⟨C.1, C.2.1, C.2.2.1, C.2.2.2.1, C.2.2.2.2.1⟩ hM ⟨z_callB C As.length (hm _ (by simp)) (hm _ (by simp)) (hm _ (by simp)) hdy hr, hy1, C.2.2.2.2.1 _ (hm _ (by simp))⟩ ⟨z_blind, z_pre C hR hS⟩ rfl rfl hl.1 rfl (lv_room hW) hd hf
theorem z_callN (C : z_C p s m args meth c cc nL own D A ks) {q : Nat} {host : String} (hM : z_Met l y b mL none fr lo mc ms D A N ad ks (.ref q :: As) S Y post) (hl0 : va_Nw (.methodLinkNest own idx y host) s) (hm : ∀ w ∈ [Cond.instanceMethod y, Cond.initialized y.cls, Cond.code y b mL none], w ∈ z_tbl) (hy1 : y.name = "<init>") (hdy : y.cls ≠ "java/lang/invoke/MethodHandle" ∧ y.cls ≠ "java/lang/invoke/VarHandle" ∧ (parseMethodDescriptor y.desc).map (fun d => d.parameters.length) = some As.length) (hr : fr + 1 ≤ R.frames ∧ 8 + (mL + 11) + lo ≤ R.locals) (hf : cells + mc ≤ R.cells ∧ slots + ms ≤ R.slots) (hst : st0 = As.reverse ++ .ref q :: st) (hW : (st.map fun v => v.category).sum ≤ 8) (hd : decode cc pc = .ok (.invokespecial idx, 3))
    (kk : ∀ r S' Y', post r S' Y' → z_V p l e R s m args below meth c Q D A N ad nL S' Y' (cells + mc) (slots + ms) (pc + 3) L (r.toList ++ st)) : z_V p l e R s m args below meth c Q D A N ad nL S Y cells slots pc L st0 := by
  subst hst
  refine z_go (a := (Value.ref q :: As).toArray) ?_ kk
  intro H locs ls hR hS hl
  exact va_runIN (Ts := z_tbl) ⟨C.1, C.2.1, C.2.2.1, C.2.2.2.1, C.2.2.2.2.1⟩ hM ⟨va_cnB As.length C.2.2.2.2.1 (z_goodIn (hm _ (by simp))) rfl rfl rfl hl0 (C.2.2.2.2.1 _ (hm _ (by simp))) hdy hr, hy1, C.2.2.2.2.1 _ (hm _ (by simp))⟩ ⟨z_blind, z_pre C hR hS⟩ rfl rfl hl.1 rfl (lv_room hW) hd hf
/-- returns -/
theorem z_ret {v : Option Value} (hW : ∀ (H : Heap) (locs : List Loc) (ls : Array Slot) (Qc : Array Value → State → Outcome → State → Prop) (k n : Nat), (∀ t : State, t.heap = H → s.WarmedH t.vm → Qc args s (.returned v) t) → (∀ q ∈ locs, A q.base) → W p l e R s m args below meth c H locs k n (MQ below Qc args s k n A) (F0 m pc ls st)) (hp : post v S Y) (h1 : cells ≤ mc) (h2 : slots ≤ ms) : z_V p l e R s m args below meth c (MQ below (z_Q D A N ad post) args s mc ms A) D A N ad nL S Y cells slots pc L st := by
  intro H locs ls hR hS hl
  refine W.widen h1 h2 (hW H locs ls _ mc ms ?_ hS.2.2)
  intro t ht _
  exact ⟨⟨v, S, Y, rfl, hp, by rw [ht]; exact hR⟩, hS.F ht⟩
theorem z_iret (C : z_C p s m args meth c cc nL own D A ks) {z : Int} (hr : meth.sig.returnType = some .int) (hd : decode cc pc = .ok (.ireturn, 1)) (hp : post (some (z_v z)) S Y) (h1 : cells ≤ mc) (h2 : slots ≤ ms) : z_V p l e R s m args below meth c (MQ below (z_Q D A N ad post) args s mc ms A) D A N ad nL S Y cells slots pc L [z_v z] :=
  z_ret (v := some (z_v z)) (fun H locs ls Qc k n hq hf => W.iret C.1 C.2.1 hr hq hf hd C.2.2.2.2.2.2.2.1) hp h1 h2
theorem z_zret (C : z_C p s m args meth c cc nL own D A ks) {z : Int} (hr : meth.sig.returnType = some .boolean) (hz : z = 0 ∨ z = 1) (hd : decode cc pc = .ok (.ireturn, 1)) (hp : post (some (z_v z)) S Y) (h1 : cells ≤ mc) (h2 : slots ≤ ms) : z_V p l e R s m args below meth c (MQ below (z_Q D A N ad post) args s mc ms A) D A N ad nL S Y cells slots pc L [z_v z] :=
  z_ret (v := some (z_v z)) (fun H locs ls Qc k n hq hf => W.zret C.1 C.2.1 hr (by rcases hz with rfl | rfl <;> rfl) hq hf hd C.2.2.2.2.2.2.2.1) hp h1 h2
theorem z_lret (C : z_C p s m args meth c cc nL own D A ks) {w : Int64} (hr : meth.sig.returnType = some .long) (hd : decode cc pc = .ok (.lreturn, 1)) (hp : post (some (.long w)) S Y) (h1 : cells ≤ mc) (h2 : slots ≤ ms) : z_V p l e R s m args below meth c (MQ below (z_Q D A N ad post) args s mc ms A) D A N ad nL S Y cells slots pc L [.long w] :=
  z_ret (v := some (.long w)) (fun H locs ls Qc k n hq hf => W.lret C.1 C.2.1 hr hq hf hd C.2.2.2.2.2.2.2.1) hp h1 h2
theorem z_aret (C : z_C p s m args meth c cc nL own D A ks) {v : Value} {E : String} (hr : meth.sig.returnType = some (.object E)) (hv : v = .null ∨ ∃ a, v = .ref a) (hd : decode cc pc = .ok (.areturn, 1)) (hp : post (some v) S Y) (h1 : cells ≤ mc) (h2 : slots ≤ ms) : z_V p l e R s m args below meth c (MQ below (z_Q D A N ad post) args s mc ms A) D A N ad nL S Y cells slots pc L [v] :=
  z_ret (v := some v) (fun H locs ls Qc k n hq hf => W.aret C.1 C.2.1 hr (Or.inl ⟨_, rfl⟩) hv hq hf hd C.2.2.2.2.2.2.2.1) hp h1 h2
theorem z_vret (C : z_C p s m args meth c cc nL own D A ks) (hr : meth.sig.returnType = none) (hd : decode cc pc = .ok (.return_, 1)) (hp : post none S Y) (h1 : cells ≤ mc) (h2 : slots ≤ ms) : z_V p l e R s m args below meth c (MQ below (z_Q D A N ad post) args s mc ms A) D A N ad nL S Y cells slots pc L [] :=
  z_ret (v := none) (fun H locs ls Qc k n hq hf => W.vret C.1 C.2.1 hr hq hf hd C.2.2.2.2.2.2.2.1) hp h1 h2
/-- a contract out of the walk from the entry -/
theorem z_start {av : List Value} (hy : plainName y.cls = true) (hlen : (lg_sl av).length ≤ mL)
    (body : ∀ p e s m below meth c, z_C p s m av.toArray meth c b mL y.cls D A ks → meth.sig.returnType = ret → meth.name = y.name → z_V p l e { frames := fr, cells := mc, slots := ms, locals := lo } s m av.toArray below meth c (MQ below (z_Q D A N ad post) av.toArray s mc ms A) D A N ad mL S Y 0 0 0 (lv_args 0 av) []) : z_Met l y b mL ret fr lo mc ms D A N ad ks av S Y post := by
  refine Met.ofW (cc := b) (maxL := mL) (ret := ret) hy rfl ?_
  intro p e s m args below meth c s₁ B hml hv
  obtain ⟨rfl, hR, hK, hX, hA⟩ := hv
  have hts := atoms_spec (ws := z_w y b mL ret) B.pre
  have hown : s.vm.findClass y.cls = some m.cls := findClass_of_methodNamed B.named
  have hname : meth.name = y.name := (name_of_methodNamed B.named B.method).1
  have hl := lv_entry av (n := mL) hlen
  rw [lg_entry_eq]
  exact body p e s m below meth c ⟨B.exec, B.bytes, hml, hown, fun w hw => hts w (List.mem_cons_of_mem _ hw), hK, hX, B.notSynchronized, hA⟩ B.returns hname s.heap [] _ hR va_S.rf hl
end ZCALL
