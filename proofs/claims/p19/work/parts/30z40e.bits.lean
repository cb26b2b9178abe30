/-! parity and halves of ints -/
theorem zo_l0 (x : Int32) : (x &&& z_i 1).toInt = if x.toBitVec.getLsbD 0 then 1 else 0 := by
  have h : (x &&& z_i 1).toInt = (x.toBitVec &&& 1#32).toInt := rfl
  rw [h, BitVec.and_one_eq_setWidth_ofBool_getLsbD]
  cases x.toBitVec.getLsbD 0 <;> rfl
theorem zo_par (x : Int32) : x.toInt % 2 = if x.toBitVec.getLsbD 0 then 1 else 0 := by
  have h1 : (x.toBitVec &&& 1#32).toNat = x.toBitVec.toNat % 2 := by
    rw [BitVec.toNat_and]
    exact Nat.and_one_is_mod _
  have h2 : (x.toBitVec &&& 1#32).toNat = if x.toBitVec.getLsbD 0 then 1 else 0 := by
    rw [BitVec.and_one_eq_setWidth_ofBool_getLsbD]
    cases x.toBitVec.getLsbD 0 <;> rfl
  have h3 : x.toInt = x.toBitVec.toInt := rfl
  rw [h3, BitVec.toInt_eq_toNat_cond]
  rw [h1] at h2
  split at h2 <;> split <;> omega
theorem zo_and1 {a : Int} (h : z_rg a) : (z_i a &&& z_i 1).toInt = a % 2 := by
  rw [zo_l0, ← zo_par, z_to h]
theorem zo_and3 {a b : Int} (ha : z_rg a) (hb : z_rg b) : (z_i (z_i a &&& z_i b).toInt &&& z_i 1).toInt = min (a % 2) (b % 2) := by
  rw [z_of, zo_l0]
  have e : (z_i a &&& z_i b).toBitVec.getLsbD 0 = ((z_i a).toBitVec.getLsbD 0 && (z_i b).toBitVec.getLsbD 0) := by
    rw [Int32.toBitVec_and, BitVec.getLsbD_and]
  have p1 := zo_par (z_i a)
  have p2 := zo_par (z_i b)
  rw [z_to ha] at p1
  rw [z_to hb] at p2
  rw [e, p1, p2]
  cases (z_i a).toBitVec.getLsbD 0 <;> cases (z_i b).toBitVec.getLsbD 0 <;> rfl
theorem zo_or1 {a b : Int} (ha : z_rg a) (hb : z_rg b) : (z_i (z_i a ||| z_i b).toInt &&& z_i 1).toInt = max (a % 2) (b % 2) := by
  rw [z_of, zo_l0]
  have e : (z_i a ||| z_i b).toBitVec.getLsbD 0 = ((z_i a).toBitVec.getLsbD 0 || (z_i b).toBitVec.getLsbD 0) := by
    rw [Int32.toBitVec_or, BitVec.getLsbD_or]
  have p1 := zo_par (z_i a)
  have p2 := zo_par (z_i b)
  rw [z_to ha] at p1
  rw [z_to hb] at p2
  rw [e, p1, p2]
  cases (z_i a).toBitVec.getLsbD 0 <;> cases (z_i b).toBitVec.getLsbD 0 <;> rfl
theorem zo_shr {a : Int} (h : z_rg a) : (z_i a >>> (z_i 1 &&& 31)).toInt = a / 2 := by
  have e : (z_i a >>> (z_i 1 &&& 31)).toBitVec = (z_i a).toBitVec.sshiftRight 1 := by
    rw [Int32.toBitVec_shiftRight]
    rfl
  have h3 : (z_i a >>> (z_i 1 &&& 31)).toInt = (z_i a >>> (z_i 1 &&& 31)).toBitVec.toInt := rfl
  have h4 : (z_i a).toBitVec.toInt = a := z_to h
  rw [h3, e, BitVec.toInt_sshiftRight, h4, Int.shiftRight_eq_div_pow]
  rfl
theorem zo_or0 {a : Int} (h : z_rg a) : (z_i a ||| z_i 0).toInt = a := by
  have e : z_i a ||| z_i 0 = z_i a := by
    apply Int32.toBitVec_inj.mp
    rw [Int32.toBitVec_or]
    show (z_i a).toBitVec ||| 0#32 = _
    rw [BitVec.or_zero]
  rw [e, z_to h]
