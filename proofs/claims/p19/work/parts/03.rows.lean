theorem z_rg0 : z_rg 0 := ⟨by decide, by decide⟩
section ZROWS
variable {p : Program} {l : Launch} {e : Env} {R : Room} {s : State} {m : MethodId} {args : Array Value} {below : List Frame} {meth : Method} {c : Code} {Q : State → Prop} {D : va_G} {A : Nat → Prop} {N : Nat} {ad : Nat → Nat} {nL : Nat} {S : Nat → va_E} {Y : Nat → Option va_E} {cells slots pc : Nat} {L : List (Nat × Value)} {st : List Value} {cc : ByteArray} {own : String} {ks : z_Ks}
theorem z_iconst (C : z_C p s m args meth c cc nL own D A ks) {n : Int} (hd : decode cc pc = .ok (.iconst n, 1)) (k : z_V p l e R s m args below meth c Q D A N ad nL S Y cells slots (pc + 1) L (z_v n :: st)) : z_V p l e R s m args below meth c Q D A N ad nL S Y cells slots (pc) L (st) := by
  intro H locs ls hR hS hl
  exact lv_iconst C.1 C.2.1 hd rfl (k H locs ls hR hS hl)
theorem z_bipush (C : z_C p s m args meth c cc nL own D A ks) {n : Int} (hd : decode cc pc = .ok (.bipush n, 2)) (hv : (Int8.ofInt n).toInt32 = z_i n) (k : z_V p l e R s m args below meth c Q D A N ad nL S Y cells slots (pc + 2) L (z_v n :: st)) : z_V p l e R s m args below meth c Q D A N ad nL S Y cells slots (pc) L (st) := by
  intro H locs ls hR hS hl
  exact lv_bipush C.1 C.2.1 hd hv (k H locs ls hR hS hl)
theorem z_sipush (C : z_C p s m args meth c cc nL own D A ks) {n : Int} (hd : decode cc pc = .ok (.sipush n, 3)) (hv : (Int16.ofInt n).toInt32 = z_i n) (k : z_V p l e R s m args below meth c Q D A N ad nL S Y cells slots (pc + 3) L (z_v n :: st)) : z_V p l e R s m args below meth c Q D A N ad nL S Y cells slots (pc) L (st) := by
  intro H locs ls hR hS hl
  exact lv_sipush C.1 C.2.1 hd hv (k H locs ls hR hS hl)
theorem z_ldc (C : z_C p s m args meth c cc nL own D A ks) {i : Nat} {w : Int32} {n : Int} (hm : Cond.constant own i w ∈ z_tbl) (hw : w = z_i n) (hd : decode cc pc = .ok (.ldc i, 2)) (k : z_V p l e R s m args below meth c Q D A N ad nL S Y cells slots (pc + 2) L (z_v n :: st)) : z_V p l e R s m args below meth c Q D A N ad nL S Y cells slots (pc) L (st) := by
  intro H locs ls hR hS hl
  subst hw
  exact lv_ldc C.1 C.2.1 C.2.2.2.1 (C.2.2.2.2.1 _ hm) hd (k H locs ls hR hS hl)
theorem z_ldc2 (C : z_C p s m args meth c cc nL own D A ks) {i : Nat} {w : Int64} (hm : Cond.constantLong own i w ∈ z_tbl) (hd : decode cc pc = .ok (.ldc2_w i, 3)) (k : z_V p l e R s m args below meth c Q D A N ad nL S Y cells slots (pc + 3) L (.long w :: st)) : z_V p l e R s m args below meth c Q D A N ad nL S Y cells slots (pc) L (st) := by
  intro H locs ls hR hS hl
  exact lv_ldc2 C.1 C.2.1 C.2.2.2.1 (C.2.2.2.2.1 _ hm) hd (k H locs ls hR hS hl)
theorem z_lconst (C : z_C p s m args meth c cc nL own D A ks) {n : Fin 2} {w : Int64} (hd : decode cc pc = .ok (.lconst n, 1)) (hw : Int64.ofNat (n : Nat) = w) (k : z_V p l e R s m args below meth c Q D A N ad nL S Y cells slots (pc + 1) L (.long w :: st)) : z_V p l e R s m args below meth c Q D A N ad nL S Y cells slots (pc) L (st) := by
  intro H locs ls hR hS hl
  exact lv_lconst C.1 C.2.1 hd hw (k H locs ls hR hS hl)
theorem z_null (C : z_C p s m args meth c cc nL own D A ks) (hd : decode cc pc = .ok (.aconst_null, 1)) (k : z_V p l e R s m args below meth c Q D A N ad nL S Y cells slots (pc + 1) L (.null :: st)) : z_V p l e R s m args below meth c Q D A N ad nL S Y cells slots (pc) L (st) := by
  intro H locs ls hR hS hl
  exact lv_null C.1 C.2.1 hd (k H locs ls hR hS hl)
theorem z_iloadn (C : z_C p s m args meth c cc nL own D A ks) {n : Fin 4} {i : Nat} {x : Int32} (j : Nat) (hd : decode cc pc = .ok (.iload_n n, 1)) (hi : (n : Nat) = i) (hj : L[j]? = some (i, .int x)) (k : z_V p l e R s m args below meth c Q D A N ad nL S Y cells slots (pc + 1) L (.int x :: st)) : z_V p l e R s m args below meth c Q D A N ad nL S Y cells slots (pc) L (st) := by
  intro H locs ls hR hS hl
  exact lv_iload_n C.1 C.2.1 hd hi (lv_at hl j hj) (k H locs ls hR hS hl)
theorem z_iload (C : z_C p s m args meth c cc nL own D A ks) {i : Nat} {x : Int32} (j : Nat) (hd : decode cc pc = .ok (.iload i, 2)) (hj : L[j]? = some (i, .int x)) (k : z_V p l e R s m args below meth c Q D A N ad nL S Y cells slots (pc + 2) L (.int x :: st)) : z_V p l e R s m args below meth c Q D A N ad nL S Y cells slots (pc) L (st) := by
  intro H locs ls hR hS hl
  exact lv_iload C.1 C.2.1 hd (lv_at hl j hj) (k H locs ls hR hS hl)
theorem z_lloadn (C : z_C p s m args meth c cc nL own D A ks) {n : Fin 4} {i : Nat} {x : Int64} (j : Nat) (hd : decode cc pc = .ok (.lload_n n, 1)) (hi : (n : Nat) = i) (hj : L[j]? = some (i, .long x)) (k : z_V p l e R s m args below meth c Q D A N ad nL S Y cells slots (pc + 1) L (.long x :: st)) : z_V p l e R s m args below meth c Q D A N ad nL S Y cells slots (pc) L (st) := by
  intro H locs ls hR hS hl
  exact lv_lload_n C.1 C.2.1 hd hi (lv_at hl j hj) (k H locs ls hR hS hl)
theorem z_lload (C : z_C p s m args meth c cc nL own D A ks) {i : Nat} {x : Int64} (j : Nat) (hd : decode cc pc = .ok (.lload i, 2)) (hj : L[j]? = some (i, .long x)) (k : z_V p l e R s m args below meth c Q D A N ad nL S Y cells slots (pc + 2) L (.long x :: st)) : z_V p l e R s m args below meth c Q D A N ad nL S Y cells slots (pc) L (st) := by
  intro H locs ls hR hS hl
  exact lv_lload C.1 C.2.1 hd (lv_at hl j hj) (k H locs ls hR hS hl)
theorem z_aloadn (C : z_C p s m args meth c cc nL own D A ks) {n : Fin 4} {i : Nat} {x : Nat} (j : Nat) (hd : decode cc pc = .ok (.aload_n n, 1)) (hi : (n : Nat) = i) (hj : L[j]? = some (i, .ref x)) (k : z_V p l e R s m args below meth c Q D A N ad nL S Y cells slots (pc + 1) L (.ref x :: st)) : z_V p l e R s m args below meth c Q D A N ad nL S Y cells slots (pc) L (st) := by
  intro H locs ls hR hS hl
  exact lv_aload_n C.1 C.2.1 hd hi (lv_at hl j hj) (k H locs ls hR hS hl)
theorem z_aload (C : z_C p s m args meth c cc nL own D A ks) {i : Nat} {x : Nat} (j : Nat) (hd : decode cc pc = .ok (.aload i, 2)) (hj : L[j]? = some (i, .ref x)) (k : z_V p l e R s m args below meth c Q D A N ad nL S Y cells slots (pc + 2) L (.ref x :: st)) : z_V p l e R s m args below meth c Q D A N ad nL S Y cells slots (pc) L (st) := by
  intro H locs ls hR hS hl
  exact lv_aload C.1 C.2.1 hd (lv_at hl j hj) (k H locs ls hR hS hl)
theorem z_aloadnN (C : z_C p s m args meth c cc nL own D A ks) {n : Fin 4} {i : Nat} (j : Nat) (hd : decode cc pc = .ok (.aload_n n, 1)) (hi : (n : Nat) = i) (hj : L[j]? = some (i, .null)) (k : z_V p l e R s m args below meth c Q D A N ad nL S Y cells slots (pc + 1) L (.null :: st)) : z_V p l e R s m args below meth c Q D A N ad nL S Y cells slots (pc) L (st) := by
  intro H locs ls hR hS hl
  exact lv_aload_nN C.1 C.2.1 hd hi (lv_at hl j hj) (k H locs ls hR hS hl)
theorem z_istoren (C : z_C p s m args meth c cc nL own D A ks) {n : Fin 4} {i : Nat} {x : Int32} {L' : List (Nat × Value)} (hd : decode cc pc = .ok (.istore_n n, 1)) (hi : (n : Nat) = i) (hn : i < nL) (he : (i, Value.int x) :: L.filter (fun q => !(q.1 == i) && !(q.1 + 1 == i && q.2.category == 2)) = L') (k : z_V p l e R s m args below meth c Q D A N ad nL S Y cells slots (pc + 1) L' (st)) : z_V p l e R s m args below meth c Q D A N ad nL S Y cells slots (pc) L (.int x :: st) := by
  intro H locs ls hR hS hl
  exact lv_istore_n C.1 C.2.1 hd hi hl hn he (fun ls' hl' => k H locs ls' hR hS hl')
theorem z_istore (C : z_C p s m args meth c cc nL own D A ks) {i : Nat} {x : Int32} {L' : List (Nat × Value)} (hd : decode cc pc = .ok (.istore i, 2)) (hn : i < nL) (he : (i, Value.int x) :: L.filter (fun q => !(q.1 == i) && !(q.1 + 1 == i && q.2.category == 2)) = L') (k : z_V p l e R s m args below meth c Q D A N ad nL S Y cells slots (pc + 2) L' (st)) : z_V p l e R s m args below meth c Q D A N ad nL S Y cells slots (pc) L (.int x :: st) := by
  intro H locs ls hR hS hl
  exact lv_istore C.1 C.2.1 hd hl hn he (fun ls' hl' => k H locs ls' hR hS hl')
theorem z_lstoren (C : z_C p s m args meth c cc nL own D A ks) {n : Fin 4} {i : Nat} {x : Int64} {L' : List (Nat × Value)} (hd : decode cc pc = .ok (.lstore_n n, 1)) (hi : (n : Nat) = i) (hn : i + 1 < nL) (he : (i, Value.long x) :: L.filter (fun q => !(q.1 == i) && (!(q.1 == i + 1) && !(q.1 + 1 == i && q.2.category == 2))) = L') (k : z_V p l e R s m args below meth c Q D A N ad nL S Y cells slots (pc + 1) L' (st)) : z_V p l e R s m args below meth c Q D A N ad nL S Y cells slots (pc) L (.long x :: st) := by
  intro H locs ls hR hS hl
  exact lv_lstore_n C.1 C.2.1 hd hi hl hn he (fun ls' hl' => k H locs ls' hR hS hl')
theorem z_lstore (C : z_C p s m args meth c cc nL own D A ks) {i : Nat} {x : Int64} {L' : List (Nat × Value)} (hd : decode cc pc = .ok (.lstore i, 2)) (hn : i + 1 < nL) (he : (i, Value.long x) :: L.filter (fun q => !(q.1 == i) && (!(q.1 == i + 1) && !(q.1 + 1 == i && q.2.category == 2))) = L') (k : z_V p l e R s m args below meth c Q D A N ad nL S Y cells slots (pc + 2) L' (st)) : z_V p l e R s m args below meth c Q D A N ad nL S Y cells slots (pc) L (.long x :: st) := by
  intro H locs ls hR hS hl
  exact lv_lstore C.1 C.2.1 hd hl hn he (fun ls' hl' => k H locs ls' hR hS hl')
theorem z_astoren (C : z_C p s m args meth c cc nL own D A ks) {n : Fin 4} {i : Nat} {x : Nat} {L' : List (Nat × Value)} (hd : decode cc pc = .ok (.astore_n n, 1)) (hi : (n : Nat) = i) (hn : i < nL) (he : (i, Value.ref x) :: L.filter (fun q => !(q.1 == i) && !(q.1 + 1 == i && q.2.category == 2)) = L') (k : z_V p l e R s m args below meth c Q D A N ad nL S Y cells slots (pc + 1) L' (st)) : z_V p l e R s m args below meth c Q D A N ad nL S Y cells slots (pc) L (.ref x :: st) := by
  intro H locs ls hR hS hl
  exact lv_astore_n C.1 C.2.1 hd hi hl hn he (fun ls' hl' => k H locs ls' hR hS hl')
theorem z_astore (C : z_C p s m args meth c cc nL own D A ks) {i : Nat} {x : Nat} {L' : List (Nat × Value)} (hd : decode cc pc = .ok (.astore i, 2)) (hn : i < nL) (he : (i, Value.ref x) :: L.filter (fun q => !(q.1 == i) && !(q.1 + 1 == i && q.2.category == 2)) = L') (k : z_V p l e R s m args below meth c Q D A N ad nL S Y cells slots (pc + 2) L' (st)) : z_V p l e R s m args below meth c Q D A N ad nL S Y cells slots (pc) L (.ref x :: st) := by
  intro H locs ls hR hS hl
  exact lv_astore C.1 C.2.1 hd hl hn he (fun ls' hl' => k H locs ls' hR hS hl')
theorem z_iinc (C : z_C p s m args meth c cc nL own D A ks) {i : Nat} {n x : Int} {L' : List (Nat × Value)} (j : Nat) (hd : decode cc pc = .ok (.iinc i n, 3)) (hj : L[j]? = some (i, z_v x)) (hn : i < nL) (he : (i, z_v (x + n)) :: L.filter (fun q => !(q.1 == i) && !(q.1 + 1 == i && q.2.category == 2)) = L') (k : z_V p l e R s m args below meth c Q D A N ad nL S Y cells slots (pc + 3) L' (st)) : z_V p l e R s m args below meth c Q D A N ad nL S Y cells slots (pc) L (st) := by
  intro H locs ls hR hS hl
  exact lv_iinc C.1 C.2.1 hd hl hj (z_add x n) hn he (fun ls' hl' => k H locs ls' hR hS hl')
theorem z_iadd (C : z_C p s m args meth c cc nL own D A ks) {x y : Int} (hd : decode cc pc = .ok (.iadd, 1)) (k : z_V p l e R s m args below meth c Q D A N ad nL S Y cells slots (pc + 1) L (z_v (x + y) :: st)) : z_V p l e R s m args below meth c Q D A N ad nL S Y cells slots (pc) L (z_v y :: z_v x :: st) := by
  intro H locs ls hR hS hl
  refine lv_iadd C.1 C.2.1 hd ?_
  rw [z_add]
  exact k H locs ls hR hS hl
theorem z_isub (C : z_C p s m args meth c cc nL own D A ks) {x y : Int} (hd : decode cc pc = .ok (.isub, 1)) (k : z_V p l e R s m args below meth c Q D A N ad nL S Y cells slots (pc + 1) L (z_v (x - y) :: st)) : z_V p l e R s m args below meth c Q D A N ad nL S Y cells slots (pc) L (z_v y :: z_v x :: st) := by
  intro H locs ls hR hS hl
  refine lv_isub C.1 C.2.1 hd ?_
  rw [z_sub]
  exact k H locs ls hR hS hl
theorem z_imul (C : z_C p s m args meth c cc nL own D A ks) {x y : Int} (hd : decode cc pc = .ok (.imul, 1)) (k : z_V p l e R s m args below meth c Q D A N ad nL S Y cells slots (pc + 1) L (z_v (x * y) :: st)) : z_V p l e R s m args below meth c Q D A N ad nL S Y cells slots (pc) L (z_v y :: z_v x :: st) := by
  intro H locs ls hR hS hl
  refine lv_imul C.1 C.2.1 hd ?_
  rw [z_mul]
  exact k H locs ls hR hS hl
theorem z_ineg (C : z_C p s m args meth c cc nL own D A ks) {x : Int} (hd : decode cc pc = .ok (.ineg, 1)) (k : z_V p l e R s m args below meth c Q D A N ad nL S Y cells slots (pc + 1) L (z_v (-x) :: st)) : z_V p l e R s m args below meth c Q D A N ad nL S Y cells slots (pc) L (z_v x :: st) := by
  intro H locs ls hR hS hl
  refine lv_ineg C.1 C.2.1 hd ?_
  rw [z_neg]
  exact k H locs ls hR hS hl
theorem z_iand (C : z_C p s m args meth c cc nL own D A ks) {x y z : Int} (hz : z_i x &&& z_i y = z_i z) (hd : decode cc pc = .ok (.iand, 1)) (k : z_V p l e R s m args below meth c Q D A N ad nL S Y cells slots (pc + 1) L (z_v z :: st)) : z_V p l e R s m args below meth c Q D A N ad nL S Y cells slots (pc) L (z_v y :: z_v x :: st) := by
  intro H locs ls hR hS hl
  refine lv_iand C.1 C.2.1 hd ?_
  rw [hz]
  exact k H locs ls hR hS hl
theorem z_ior (C : z_C p s m args meth c cc nL own D A ks) {x y z : Int} (hz : z_i x ||| z_i y = z_i z) (hd : decode cc pc = .ok (.ior, 1)) (k : z_V p l e R s m args below meth c Q D A N ad nL S Y cells slots (pc + 1) L (z_v z :: st)) : z_V p l e R s m args below meth c Q D A N ad nL S Y cells slots (pc) L (z_v y :: z_v x :: st) := by
  intro H locs ls hR hS hl
  refine lv_ior C.1 C.2.1 hd ?_
  rw [hz]
  exact k H locs ls hR hS hl
theorem z_ishr (C : z_C p s m args meth c cc nL own D A ks) {x y z : Int} (hz : z_i x >>> (z_i y &&& 31) = z_i z) (hd : decode cc pc = .ok (.ishr, 1)) (k : z_V p l e R s m args below meth c Q D A N ad nL S Y cells slots (pc + 1) L (z_v z :: st)) : z_V p l e R s m args below meth c Q D A N ad nL S Y cells slots (pc) L (z_v y :: z_v x :: st) := by
  intro H locs ls hR hS hl
  refine lv_ishr C.1 C.2.1 hd ?_
  rw [hz]
  exact k H locs ls hR hS hl
theorem z_i2l (C : z_C p s m args meth c cc nL own D A ks) {x : Int} (hd : decode cc pc = .ok (.i2l, 1)) (k : z_V p l e R s m args below meth c Q D A N ad nL S Y cells slots (pc + 1) L (.long (z_i x).toInt64 :: st)) : z_V p l e R s m args below meth c Q D A N ad nL S Y cells slots (pc) L (z_v x :: st) := by
  intro H locs ls hR hS hl
  exact lv_i2l C.1 C.2.1 hd rfl (k H locs ls hR hS hl)
theorem z_ladd (C : z_C p s m args meth c cc nL own D A ks) {x y : Int64} (hd : decode cc pc = .ok (.ladd, 1)) (k : z_V p l e R s m args below meth c Q D A N ad nL S Y cells slots (pc + 1) L (.long (x + y) :: st)) : z_V p l e R s m args below meth c Q D A N ad nL S Y cells slots (pc) L (.long y :: .long x :: st) := by
  intro H locs ls hR hS hl
  exact lv_ladd C.1 C.2.1 hd (k H locs ls hR hS hl)
theorem z_lmul (C : z_C p s m args meth c cc nL own D A ks) {x y : Int64} (hd : decode cc pc = .ok (.lmul, 1)) (k : z_V p l e R s m args below meth c Q D A N ad nL S Y cells slots (pc + 1) L (.long (x * y) :: st)) : z_V p l e R s m args below meth c Q D A N ad nL S Y cells slots (pc) L (.long y :: .long x :: st) := by
  intro H locs ls hR hS hl
  exact lv_lmul C.1 C.2.1 hd (k H locs ls hR hS hl)
theorem z_dup (C : z_C p s m args meth c cc nL own D A ks) {v : Value} (hd : decode cc pc = .ok (.dup, 1)) (hv : v.category = 1) (k : z_V p l e R s m args below meth c Q D A N ad nL S Y cells slots (pc + 1) L (v :: v :: st)) : z_V p l e R s m args below meth c Q D A N ad nL S Y cells slots (pc) L (v :: st) := by
  intro H locs ls hR hS hl
  exact lv_dup C.1 C.2.1 hd hv (k H locs ls hR hS hl)
theorem z_dup2 (C : z_C p s m args meth c cc nL own D A ks) {v w : Value} (hd : decode cc pc = .ok (.dup2, 1)) (hv : v.category = 1) (hw : w.category = 1) (k : z_V p l e R s m args below meth c Q D A N ad nL S Y cells slots (pc + 1) L (v :: w :: v :: w :: st)) : z_V p l e R s m args below meth c Q D A N ad nL S Y cells slots (pc) L (v :: w :: st) := by
  intro H locs ls hR hS hl
  exact lv_dup2_11 C.1 C.2.1 hd hv hw (k H locs ls hR hS hl)
theorem z_pop (C : z_C p s m args meth c cc nL own D A ks) {v : Value} (hd : decode cc pc = .ok (.pop, 1)) (hv : v.category = 1) (k : z_V p l e R s m args below meth c Q D A N ad nL S Y cells slots (pc + 1) L (st)) : z_V p l e R s m args below meth c Q D A N ad nL S Y cells slots (pc) L (v :: st) := by
  intro H locs ls hR hS hl
  exact lv_pop C.1 C.2.1 hd hv (k H locs ls hR hS hl)
theorem z_pop2 (C : z_C p s m args meth c cc nL own D A ks) {v : Value} (hd : decode cc pc = .ok (.pop2, 1)) (hv : v.category = 2) (k : z_V p l e R s m args below meth c Q D A N ad nL S Y cells slots (pc + 1) L (st)) : z_V p l e R s m args below meth c Q D A N ad nL S Y cells slots (pc) L (v :: st) := by
  intro H locs ls hR hS hl
  exact lv_pop2_2 C.1 C.2.1 hd hv (k H locs ls hR hS hl)
theorem z_goto (C : z_C p s m args meth c cc nL own D A ks) {o : Int} {t : Nat} (hd : decode cc pc = .ok (.goto o, 3)) (ht : (pc : Int) + o = (t : Int)) (k : z_V p l e R s m args below meth c Q D A N ad nL S Y cells slots (t) L (st)) : z_V p l e R s m args below meth c Q D A N ad nL S Y cells slots (pc) L (st) := by
  intro H locs ls hR hS hl
  exact lv_goto C.1 C.2.1 hd ht (k H locs ls hR hS hl)
theorem z_icmp_eq (C : z_C p s m args meth c cc nL own D A ks) {x y o : Int} {t : Nat} (hd : decode cc pc = .ok (.if_icmp .eq o, 3)) (ht : (pc : Int) + o = (t : Int)) (hx : z_rg x) (hy : z_rg y) (kt : x = y → z_V p l e R s m args below meth c Q D A N ad nL S Y cells slots (t) L (st)) (kf : ¬ x = y → z_V p l e R s m args below meth c Q D A N ad nL S Y cells slots (pc + 3) L (st)) : z_V p l e R s m args below meth c Q D A N ad nL S Y cells slots (pc) L (z_v y :: z_v x :: st) := by
  intro H locs ls hR hS hl
  exact lv_icmp_eq C.1 C.2.1 hd ht (fun h => kt ((z_eq hx hy).mp h) H locs ls hR hS hl) (fun h => kf (fun g => h ((z_eq hx hy).mpr g)) H locs ls hR hS hl)
theorem z_if_eq (C : z_C p s m args meth c cc nL own D A ks) {x o : Int} {t : Nat} (hd : decode cc pc = .ok (.ifCond .eq o, 3)) (ht : (pc : Int) + o = (t : Int)) (hx : z_rg x) (kt : x = 0 → z_V p l e R s m args below meth c Q D A N ad nL S Y cells slots (t) L (st)) (kf : ¬ x = 0 → z_V p l e R s m args below meth c Q D A N ad nL S Y cells slots (pc + 3) L (st)) : z_V p l e R s m args below meth c Q D A N ad nL S Y cells slots (pc) L (z_v x :: st) := by
  intro H locs ls hR hS hl
  exact lv_if_eq C.1 C.2.1 hd ht (fun h => kt ((z_eq hx z_rg0).mp h) H locs ls hR hS hl) (fun h => kf (fun g => h ((z_eq hx z_rg0).mpr g)) H locs ls hR hS hl)
theorem z_icmp_ne (C : z_C p s m args meth c cc nL own D A ks) {x y o : Int} {t : Nat} (hd : decode cc pc = .ok (.if_icmp .ne o, 3)) (ht : (pc : Int) + o = (t : Int)) (hx : z_rg x) (hy : z_rg y) (kt : ¬ x = y → z_V p l e R s m args below meth c Q D A N ad nL S Y cells slots (t) L (st)) (kf : x = y → z_V p l e R s m args below meth c Q D A N ad nL S Y cells slots (pc + 3) L (st)) : z_V p l e R s m args below meth c Q D A N ad nL S Y cells slots (pc) L (z_v y :: z_v x :: st) := by
  intro H locs ls hR hS hl
  exact lv_icmp_ne C.1 C.2.1 hd ht (fun h => kt (fun g => h ((z_eq hx hy).mpr g)) H locs ls hR hS hl) (fun h => kf ((z_eq hx hy).mp h) H locs ls hR hS hl)
theorem z_if_ne (C : z_C p s m args meth c cc nL own D A ks) {x o : Int} {t : Nat} (hd : decode cc pc = .ok (.ifCond .ne o, 3)) (ht : (pc : Int) + o = (t : Int)) (hx : z_rg x) (kt : ¬ x = 0 → z_V p l e R s m args below meth c Q D A N ad nL S Y cells slots (t) L (st)) (kf : x = 0 → z_V p l e R s m args below meth c Q D A N ad nL S Y cells slots (pc + 3) L (st)) : z_V p l e R s m args below meth c Q D A N ad nL S Y cells slots (pc) L (z_v x :: st) := by
  intro H locs ls hR hS hl
  exact lv_if_ne C.1 C.2.1 hd ht (fun h => kt (fun g => h ((z_eq hx z_rg0).mpr g)) H locs ls hR hS hl) (fun h => kf ((z_eq hx z_rg0).mp h) H locs ls hR hS hl)
theorem z_icmp_lt (C : z_C p s m args meth c cc nL own D A ks) {x y o : Int} {t : Nat} (hd : decode cc pc = .ok (.if_icmp .lt o, 3)) (ht : (pc : Int) + o = (t : Int)) (hx : z_rg x) (hy : z_rg y) (kt : x < y → z_V p l e R s m args below meth c Q D A N ad nL S Y cells slots (t) L (st)) (kf : y ≤ x → z_V p l e R s m args below meth c Q D A N ad nL S Y cells slots (pc + 3) L (st)) : z_V p l e R s m args below meth c Q D A N ad nL S Y cells slots (pc) L (z_v y :: z_v x :: st) := by
  intro H locs ls hR hS hl
  exact lv_icmp_lt C.1 C.2.1 hd ht (fun h => kt ((z_lt hx hy).mp h) H locs ls hR hS hl) (fun h => kf (Int.not_lt.mp (fun g => h ((z_lt hx hy).mpr g))) H locs ls hR hS hl)
theorem z_if_lt (C : z_C p s m args meth c cc nL own D A ks) {x o : Int} {t : Nat} (hd : decode cc pc = .ok (.ifCond .lt o, 3)) (ht : (pc : Int) + o = (t : Int)) (hx : z_rg x) (kt : x < 0 → z_V p l e R s m args below meth c Q D A N ad nL S Y cells slots (t) L (st)) (kf : 0 ≤ x → z_V p l e R s m args below meth c Q D A N ad nL S Y cells slots (pc + 3) L (st)) : z_V p l e R s m args below meth c Q D A N ad nL S Y cells slots (pc) L (z_v x :: st) := by
  intro H locs ls hR hS hl
  exact lv_if_lt C.1 C.2.1 hd ht (fun h => kt ((z_lt hx z_rg0).mp h) H locs ls hR hS hl) (fun h => kf (Int.not_lt.mp (fun g => h ((z_lt hx z_rg0).mpr g))) H locs ls hR hS hl)
theorem z_icmp_ge (C : z_C p s m args meth c cc nL own D A ks) {x y o : Int} {t : Nat} (hd : decode cc pc = .ok (.if_icmp .ge o, 3)) (ht : (pc : Int) + o = (t : Int)) (hx : z_rg x) (hy : z_rg y) (kt : y ≤ x → z_V p l e R s m args below meth c Q D A N ad nL S Y cells slots (t) L (st)) (kf : x < y → z_V p l e R s m args below meth c Q D A N ad nL S Y cells slots (pc + 3) L (st)) : z_V p l e R s m args below meth c Q D A N ad nL S Y cells slots (pc) L (z_v y :: z_v x :: st) := by
  intro H locs ls hR hS hl
  exact lv_icmp_ge C.1 C.2.1 hd ht (fun h => kt ((z_le hy hx).mp h) H locs ls hR hS hl) (fun h => kf (Int.not_le.mp (fun g => h ((z_le hy hx).mpr g))) H locs ls hR hS hl)
theorem z_if_ge (C : z_C p s m args meth c cc nL own D A ks) {x o : Int} {t : Nat} (hd : decode cc pc = .ok (.ifCond .ge o, 3)) (ht : (pc : Int) + o = (t : Int)) (hx : z_rg x) (kt : 0 ≤ x → z_V p l e R s m args below meth c Q D A N ad nL S Y cells slots (t) L (st)) (kf : x < 0 → z_V p l e R s m args below meth c Q D A N ad nL S Y cells slots (pc + 3) L (st)) : z_V p l e R s m args below meth c Q D A N ad nL S Y cells slots (pc) L (z_v x :: st) := by
  intro H locs ls hR hS hl
  exact lv_if_ge C.1 C.2.1 hd ht (fun h => kt ((z_le z_rg0 hx).mp h) H locs ls hR hS hl) (fun h => kf (Int.not_le.mp (fun g => h ((z_le z_rg0 hx).mpr g))) H locs ls hR hS hl)
theorem z_icmp_gt (C : z_C p s m args meth c cc nL own D A ks) {x y o : Int} {t : Nat} (hd : decode cc pc = .ok (.if_icmp .gt o, 3)) (ht : (pc : Int) + o = (t : Int)) (hx : z_rg x) (hy : z_rg y) (kt : y < x → z_V p l e R s m args below meth c Q D A N ad nL S Y cells slots (t) L (st)) (kf : x ≤ y → z_V p l e R s m args below meth c Q D A N ad nL S Y cells slots (pc + 3) L (st)) : z_V p l e R s m args below meth c Q D A N ad nL S Y cells slots (pc) L (z_v y :: z_v x :: st) := by
  intro H locs ls hR hS hl
  exact lv_icmp_gt C.1 C.2.1 hd ht (fun h => kt ((z_lt hy hx).mp h) H locs ls hR hS hl) (fun h => kf (Int.not_lt.mp (fun g => h ((z_lt hy hx).mpr g))) H locs ls hR hS hl)
theorem z_if_gt (C : z_C p s m args meth c cc nL own D A ks) {x o : Int} {t : Nat} (hd : decode cc pc = .ok (.ifCond .gt o, 3)) (ht : (pc : Int) + o = (t : Int)) (hx : z_rg x) (kt : 0 < x → z_V p l e R s m args below meth c Q D A N ad nL S Y cells slots (t) L (st)) (kf : x ≤ 0 → z_V p l e R s m args below meth c Q D A N ad nL S Y cells slots (pc + 3) L (st)) : z_V p l e R s m args below meth c Q D A N ad nL S Y cells slots (pc) L (z_v x :: st) := by
  intro H locs ls hR hS hl
  exact lv_if_gt C.1 C.2.1 hd ht (fun h => kt ((z_lt z_rg0 hx).mp h) H locs ls hR hS hl) (fun h => kf (Int.not_lt.mp (fun g => h ((z_lt z_rg0 hx).mpr g))) H locs ls hR hS hl)
theorem z_icmp_le (C : z_C p s m args meth c cc nL own D A ks) {x y o : Int} {t : Nat} (hd : decode cc pc = .ok (.if_icmp .le o, 3)) (ht : (pc : Int) + o = (t : Int)) (hx : z_rg x) (hy : z_rg y) (kt : x ≤ y → z_V p l e R s m args below meth c Q D A N ad nL S Y cells slots (t) L (st)) (kf : y < x → z_V p l e R s m args below meth c Q D A N ad nL S Y cells slots (pc + 3) L (st)) : z_V p l e R s m args below meth c Q D A N ad nL S Y cells slots (pc) L (z_v y :: z_v x :: st) := by
  intro H locs ls hR hS hl
  exact lv_icmp_le C.1 C.2.1 hd ht (fun h => kt ((z_le hx hy).mp h) H locs ls hR hS hl) (fun h => kf (Int.not_le.mp (fun g => h ((z_le hx hy).mpr g))) H locs ls hR hS hl)
theorem z_if_le (C : z_C p s m args meth c cc nL own D A ks) {x o : Int} {t : Nat} (hd : decode cc pc = .ok (.ifCond .le o, 3)) (ht : (pc : Int) + o = (t : Int)) (hx : z_rg x) (kt : x ≤ 0 → z_V p l e R s m args below meth c Q D A N ad nL S Y cells slots (t) L (st)) (kf : 0 < x → z_V p l e R s m args below meth c Q D A N ad nL S Y cells slots (pc + 3) L (st)) : z_V p l e R s m args below meth c Q D A N ad nL S Y cells slots (pc) L (z_v x :: st) := by
  intro H locs ls hR hS hl
  exact lv_if_le C.1 C.2.1 hd ht (fun h => kt ((z_le hx z_rg0).mp h) H locs ls hR hS hl) (fun h => kf (Int.not_le.mp (fun g => h ((z_le hx z_rg0).mpr g))) H locs ls hR hS hl)
theorem z_ifnull (C : z_C p s m args meth c cc nL own D A ks) {q : Nat} {o : Int} (hd : decode cc pc = .ok (.ifnull o, 3)) (k : z_V p l e R s m args below meth c Q D A N ad nL S Y cells slots (pc + 3) L (st)) : z_V p l e R s m args below meth c Q D A N ad nL S Y cells slots (pc) L (.ref q :: st) := by
  intro H locs ls hR hS hl
  exact lv_ifnull C.1 C.2.1 hd (k H locs ls hR hS hl)
theorem z_ifnullN (C : z_C p s m args meth c cc nL own D A ks) {o : Int} {t : Nat} (hd : decode cc pc = .ok (.ifnull o, 3)) (ht : (pc : Int) + o = (t : Int)) (k : z_V p l e R s m args below meth c Q D A N ad nL S Y cells slots (t) L (st)) : z_V p l e R s m args below meth c Q D A N ad nL S Y cells slots (pc) L (.null :: st) := by
  intro H locs ls hR hS hl
  exact lv_ifnullN C.1 C.2.1 hd ht (k H locs ls hR hS hl)
theorem z_ifnonnull (C : z_C p s m args meth c cc nL own D A ks) {q : Nat} {o : Int} {t : Nat} (hd : decode cc pc = .ok (.ifnonnull o, 3)) (ht : (pc : Int) + o = (t : Int)) (k : z_V p l e R s m args below meth c Q D A N ad nL S Y cells slots (t) L (st)) : z_V p l e R s m args below meth c Q D A N ad nL S Y cells slots (pc) L (.ref q :: st) := by
  intro H locs ls hR hS hl
  exact lv_ifnonnull C.1 C.2.1 hd ht (k H locs ls hR hS hl)
theorem z_ifnonnullN (C : z_C p s m args meth c cc nL own D A ks) {o : Int} (hd : decode cc pc = .ok (.ifnonnull o, 3)) (k : z_V p l e R s m args below meth c Q D A N ad nL S Y cells slots (pc + 3) L (st)) : z_V p l e R s m args below meth c Q D A N ad nL S Y cells slots (pc) L (.null :: st) := by
  intro H locs ls hR hS hl
  exact lv_ifnonnullN C.1 C.2.1 hd (k H locs ls hR hS hl)
theorem z_tabOut (C : z_C p s m args meth c cc nL own D A ks) {d lo hi x : Int} {os : Array Int} {n t : Nat} (hd : decode cc pc = .ok (.tableswitch d lo hi os, n)) (hx : z_rg x) (h : x < lo ∨ hi < x) (ht : (pc : Int) + d = (t : Int)) (k : z_V p l e R s m args below meth c Q D A N ad nL S Y cells slots (t) L (st)) : z_V p l e R s m args below meth c Q D A N ad nL S Y cells slots (pc) L (z_v x :: st) := by
  intro H locs ls hR hS hl
  exact lv_tableOut C.1 C.2.1 hd (by rw [z_to hx]; exact h) ht (k H locs ls hR hS hl)
theorem z_tabIn (C : z_C p s m args meth c cc nL own D A ks) {d lo hi o : Int} (x : Int) {os : Array Int} {n t : Nat} (hd : decode cc pc = .ok (.tableswitch d lo hi os, n)) (hx : z_rg x) (h1 : ¬ x < lo) (h2 : ¬ hi < x) (ho : os[(x - lo).toNat]? = some o) (ht : (pc : Int) + o = (t : Int)) (k : z_V p l e R s m args below meth c Q D A N ad nL S Y cells slots (t) L (st)) : z_V p l e R s m args below meth c Q D A N ad nL S Y cells slots (pc) L (z_v x :: st) := by
  intro H locs ls hR hS hl
  exact lv_tableIn C.1 C.2.1 hd (by rw [z_to hx]; exact h1) (by rw [z_to hx]; exact h2) (by rw [z_to hx]; exact ho) ht (k H locs ls hR hS hl)
theorem z_look (C : z_C p s m args meth c cc nL own D A ks) {d o x : Int} {ps : Array (Int × Int)} {n t : Nat} (hd : decode cc pc = .ok (.lookupswitch d ps, n)) (hp : (ps.toList.zip (ps.toList.drop 1)).all (fun (a, next) => a.1 < next.1) = true) (hx : z_rg x) (ho : Op.lookupswitch.offset ps.toList d x = o) (ht : (pc : Int) + o = (t : Int)) (k : z_V p l e R s m args below meth c Q D A N ad nL S Y cells slots (t) L (st)) : z_V p l e R s m args below meth c Q D A N ad nL S Y cells slots (pc) L (z_v x :: st) := by
  intro H locs ls hR hS hl
  exact lv_lookup C.1 C.2.1 hd hp (by rw [z_to hx]; exact ho) ht (k H locs ls hR hS hl)
end ZROWS
