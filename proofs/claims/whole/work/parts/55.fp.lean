/-! quotients that are numbers -/
theorem fp_nn64 {b : UInt64} (h : FP.Core.val64 b ≠ .nan) : isNaN64 b = false := by
  cases hb : isNaN64 b with
  | false => rfl
  | true =>
    exfalso
    apply h
    unfold isNaN64 at hb
    have h1 : (0x7ff0000000000000 : UInt64) < b &&& 0x7fffffffffffffff := by simpa using hb
    rw [UInt64.lt_iff_toNat_lt, UInt64.toNat_and] at h1
    have e1 : (0x7ff0000000000000 : UInt64).toNat = 9218868437227405312 := rfl
    have e2 : (0x7fffffffffffffff : UInt64).toNat = 2 ^ 63 - 1 := rfl
    rw [e1, e2, Nat.and_two_pow_sub_one_eq_mod] at h1
    have hlt := b.toNat_lt
    unfold FP.Core.val64 FP.Core.decode FP.Core.fieldE FP.Core.fieldT FP.Core.Fmt.exps FP.Core.Fmt.tails
    show (if b.toNat / 2 ^ 52 % 2 ^ 11 = 2 ^ 11 - 1 then _ else _) = _
    rw [if_pos (by omega)]
    show (if b.toNat % 2 ^ 52 = 0 then _ else _) = _
    rw [if_neg (by omega)]
theorem fp_nn32 {b : UInt32} (h : FP.Core.val32 b ≠ .nan) : isNaN32 b = false := by
  cases hb : isNaN32 b with
  | false => rfl
  | true =>
    exfalso
    apply h
    unfold isNaN32 at hb
    have h1 : (0x7f800000 : UInt32) < b &&& 0x7fffffff := by simpa using hb
    rw [UInt32.lt_iff_toNat_lt, UInt32.toNat_and] at h1
    have e1 : (0x7f800000 : UInt32).toNat = 2139095040 := rfl
    have e2 : (0x7fffffff : UInt32).toNat = 2 ^ 31 - 1 := rfl
    rw [e1, e2, Nat.and_two_pow_sub_one_eq_mod] at h1
    have hlt := b.toNat_lt
    unfold FP.Core.val32 FP.Core.decode FP.Core.fieldE FP.Core.fieldT FP.Core.Fmt.exps FP.Core.Fmt.tails
    show (if b.toNat / 2 ^ 23 % 2 ^ 8 = 2 ^ 8 - 1 then _ else _) = _
    rw [if_pos (by omega)]
    show (if b.toNat % 2 ^ 23 = 0 then _ else _) = _
    rw [if_neg (by omega)]
theorem fp_pos {f : FP.Core.Fmt} (hf : FP.Core.Good f) {n : Nat} (n1 : 1 ≤ n) (n2 : n < 2 ^ 17) (hp : 18 ≤ f.p) (hq : f.qmin ≤ 1 - (f.p : Int)) (hq2 : 0 ≤ f.qmax) : ∃ c q, c ≠ 0 ∧ FP.Core.round f (FP.Core.ofInt (n : Int)) = .fin false c q := by
  have k1 : 2 ^ n.log2 ≤ n := Nat.log2_self_le (by omega)
  have k2 : n < 2 ^ (n.log2 + 1) := Nat.lt_log2_self
  have k3 : n.log2 < 17 := by
    rcases Nat.lt_or_ge n.log2 17 with h | h
    · exact h
    · have := Nat.pow_le_pow_right (n := 2) (by decide) h
      omega
  have e0 : 2 ^ (f.p - 1 - n.log2) * 2 ^ n.log2 = 2 ^ (f.p - 1) := by rw [← Nat.pow_add]; congr 1; omega
  have e1 : 2 ^ (f.p - 1 - n.log2) * 2 ^ (n.log2 + 1) = 2 ^ f.p := by rw [← Nat.pow_add]; congr 1; omega
  have pp := Nat.two_pow_pos (f.p - 1 - n.log2)
  refine ⟨n * 2 ^ (f.p - 1 - n.log2), -((f.p - 1 - n.log2 : Nat) : Int), Nat.ne_of_gt (Nat.mul_pos (by omega) pp), ?_⟩
  show FP.Core.roundRatio f (decide ((n : Int) < 0)) (n : Int).natAbs 1 0 = _
  rw [decide_eq_false (by omega), Int.natAbs_natCast]
  refine FP.Core.roundRatio_exact hf (by decide) ⟨?_, by omega, by omega, Or.inr ?_⟩ ?_
  · rw [← e1, Nat.mul_comm n]
    exact Nat.mul_lt_mul_of_pos_left k2 pp
  · unfold FP.Core.Fmt.tails
    rw [← e0, Nat.mul_comm n]
    exact Nat.mul_le_mul_left _ k1
  · rw [show ((0 : Int) - -((f.p - 1 - n.log2 : Nat) : Int)).toNat = f.p - 1 - n.log2 by omega, show (-((f.p - 1 - n.log2 : Nat) : Int) - 0).toNat = 0 by omega]
    simp
theorem fp_rr (f : FP.Core.Fmt) (s : Bool) (a b : Nat) (e : Int) : FP.Core.roundRatio f s a b e ≠ .nan := by
  unfold FP.Core.roundRatio
  split
  · intro h; cases h
  · unfold FP.Core.roundAt FP.Core.settle FP.Core.bound
    split <;> split <;> (intro h; cases h)
theorem fp_round {f : FP.Core.Fmt} {d : FP.Core.Datum} (h : d ≠ .nan) : FP.Core.round f d ≠ .nan := by
  cases d with
  | nan => exact absurd rfl h
  | inf s => intro h; cases h
  | fin s c q => exact fp_rr f s c 1 q
theorem fp_quot {f : FP.Core.Fmt} {x : FP.Core.Datum} {t : Bool} {d : Nat} {r : Int} (hx : x ≠ .nan) (hd : d ≠ 0) : FP.Core.quotient f x (.fin t d r) ≠ .nan := by
  cases x with
  | nan => exact absurd rfl hx
  | inf s => intro h; cases h
  | fin s c q =>
    unfold FP.Core.quotient
    rw [if_neg hd]
    exact fp_rr f _ c d _
theorem fp_ofInt (i : Int) : FP.Core.ofInt i ≠ .nan := by intro h; cases h
theorem fp_mean {s : Int64} {n : Nat} (n1 : 1 ≤ n) (n2 : n ≤ 99999) : isNaN64 (FP.ddiv (FP.l2d s) (FP.i2d (Int32.ofNat n))) = false := by
  apply fp_nn64
  show FP.Core.val64 (FP.Core.ddiv (FP.Core.l2d s) (FP.Core.i2d (Int32.ofNat n))) ≠ .nan
  rw [FP.Core.val64_ddiv, FP.Core.val64_l2d, FP.Core.val64_i2d, t_ofNat (by omega)]
  obtain ⟨c, q, hc, hr⟩ := fp_pos FP.Core.good_b64 n1 (by omega) (by decide) (by decide) (by decide)
  rw [hr]
  exact fp_quot (fp_round (fp_ofInt _)) hc
theorem fp_buf {a : Int32} {n : Nat} (n1 : 1 ≤ n) (n2 : n ≤ 99999) : isNaN32 (FP.fdiv (FP.i2f a) (FP.i2f (Int32.ofNat n))) = false ∧ isNaN64 (FP.f2d (FP.fdiv (FP.i2f a) (FP.i2f (Int32.ofNat n)))) = false := by
  have h : FP.Core.val32 (FP.Core.fdiv (FP.Core.i2f a) (FP.Core.i2f (Int32.ofNat n))) ≠ .nan := by
    rw [FP.Core.val32_fdiv, FP.Core.val32_i2f, FP.Core.val32_i2f, t_ofNat (by omega)]
    obtain ⟨c, q, hc, hr⟩ := fp_pos FP.Core.good_b32 n1 (by omega) (by decide) (by decide) (by decide)
    rw [hr]
    exact fp_quot (fp_round (fp_ofInt _)) hc
  refine ⟨fp_nn32 h, fp_nn64 ?_⟩
  unfold FP.f2d
  rw [if_neg (by
    unfold FP.Core.fIsNaN FP.Core.isNaN
    rw [decide_eq_true_eq]; exact h)]
  rw [FP.Core.val64_f2d]
  exact fp_round h
theorem fp_l2f (a : Int32) : FP.l2f a.toInt64 = FP.i2f a := by
  show FP.Core.l2f a.toInt64 = FP.Core.i2f a
  unfold FP.Core.l2f FP.Core.i2f
  rw [l_of]
