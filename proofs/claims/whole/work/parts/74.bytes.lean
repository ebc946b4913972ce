/-! the bytes of an int -/
theorem q_b255 {i : Nat} (hi : i < 8) : (255#32).getLsbD i = true := by
  have h : ∀ i, i < 8 → (255#32).getLsbD i = true := by decide
  exact h i hi
theorem q_bv (x : BitVec 32) (s : Nat) (hs : s ≤ 24) : ((x.sshiftRight s) &&& 255#32).signExtend 8 = (x >>> s).signExtend 8 := by
  apply BitVec.eq_of_getLsbD_eq
  intro i hi
  have h32 : decide (32 ≤ i) = false := decide_eq_false (by omega)
  rw [BitVec.getLsbD_signExtend, BitVec.getLsbD_signExtend, if_pos (by omega), if_pos (by omega), BitVec.getLsbD_and, q_b255 hi, Bool.and_true, BitVec.getLsbD_sshiftRight, BitVec.getLsbD_ushiftRight, if_pos (by omega), h32, Bool.not_false, Bool.true_and]
theorem q_byte24 (w : Int32) : ((w >>> (24 : Int32)) &&& 255).toInt8 = ((w.toUInt32 >>> ((24 : Int32).toUInt32 &&& Int32.toUInt32 31)).toInt32).toInt8 := by
  apply Int8.toBitVec_inj.mp
  show ((w.toBitVec.sshiftRight' ((24#32).smod 32)) &&& 255#32).signExtend 8 = (w.toBitVec >>> ((24#32 &&& 31#32) % 32#32)).signExtend 8
  rw [show (24#32).smod 32 = 24#32 by decide, show (24#32 &&& 31#32) % 32#32 = 24#32 by decide]
  exact q_bv w.toBitVec 24 (by omega)
theorem q_byte16 (w : Int32) : ((w >>> (16 : Int32)) &&& 255).toInt8 = ((w.toUInt32 >>> ((16 : Int32).toUInt32 &&& Int32.toUInt32 31)).toInt32).toInt8 := by
  apply Int8.toBitVec_inj.mp
  show ((w.toBitVec.sshiftRight' ((16#32).smod 32)) &&& 255#32).signExtend 8 = (w.toBitVec >>> ((16#32 &&& 31#32) % 32#32)).signExtend 8
  rw [show (16#32).smod 32 = 16#32 by decide, show (16#32 &&& 31#32) % 32#32 = 16#32 by decide]
  exact q_bv w.toBitVec 16 (by omega)
theorem q_byte8 (w : Int32) : ((w >>> (8 : Int32)) &&& 255).toInt8 = ((w.toUInt32 >>> ((8 : Int32).toUInt32 &&& Int32.toUInt32 31)).toInt32).toInt8 := by
  apply Int8.toBitVec_inj.mp
  show ((w.toBitVec.sshiftRight' ((8#32).smod 32)) &&& 255#32).signExtend 8 = (w.toBitVec >>> ((8#32 &&& 31#32) % 32#32)).signExtend 8
  rw [show (8#32).smod 32 = 8#32 by decide, show (8#32 &&& 31#32) % 32#32 = 8#32 by decide]
  exact q_bv w.toBitVec 8 (by omega)
theorem q_byte0 (w : Int32) : ((w >>> (0 : Int32)) &&& 255).toInt8 = ((w.toUInt32 >>> ((0 : Int32).toUInt32 &&& Int32.toUInt32 31)).toInt32).toInt8 := by
  apply Int8.toBitVec_inj.mp
  show ((w.toBitVec.sshiftRight' ((0#32).smod 32)) &&& 255#32).signExtend 8 = (w.toBitVec >>> ((0#32 &&& 31#32) % 32#32)).signExtend 8
  rw [show (0#32).smod 32 = 0#32 by decide, show (0#32 &&& 31#32) % 32#32 = 0#32 by decide]
  exact q_bv w.toBitVec 0 (by omega)
theorem q_and255 (w : Int32) : 0 ≤ (w &&& 255).toInt ∧ (w &&& 255).toInt ≤ 255 := by
  have h : (w &&& 255).toBitVec.toNat = w.toBitVec.toNat % 256 := by
    show (w.toBitVec &&& 255#32).toNat = _
    rw [BitVec.toNat_and]
    exact Nat.and_two_pow_sub_one_eq_mod _ 8
  have h2 : (w &&& 255).toInt = ((w &&& 255).toBitVec.toNat : Int) := by
    show (w &&& 255).toBitVec.toInt = _
    rw [BitVec.toInt_eq_toNat_of_lt (by omega)]
  omega
theorem q_nar (v : Int8) : vp_nar .byte v.toInt32 = v.toInt32 := by
  have : v.toInt32.toInt8 = v := Int8.toInt8_toInt32 v
  show v.toInt32.toInt8.toInt32 = v.toInt32
  rw [this]
