/-! quotients that are numbers -/
/-- what rounding gives -/
def fp_ok (f : FP.Core.Fmt) : FP.Core.Datum → Prop
  | .nan => False
  | .inf _ => True
  | .fin _ c q => c < 2 ^ f.p ∧ q ≤ f.qmax
theorem fp_rr {f : FP.Core.Fmt} (h0 : f.qmin ≤ f.qmax) (h1 : f.tails < 2 ^ f.p) (s : Bool) (a b : Nat) (e : Int) : fp_ok f (FP.Core.roundRatio f s a b e) := by
  unfold FP.Core.roundRatio
  split
  · exact ⟨Nat.two_pow_pos _, h0⟩
  · unfold FP.Core.roundAt FP.Core.settle FP.Core.bound
    split
    · split
      · exact ⟨by assumption, by assumption⟩
      · trivial
    · split
      · exact ⟨h1, by assumption⟩
      · trivial
theorem fp_round {f : FP.Core.Fmt} (h0 : f.qmin ≤ f.qmax) (h1 : f.tails < 2 ^ f.p) {d : FP.Core.Datum} (h : d ≠ .nan) : fp_ok f (FP.Core.round f d) := by
  cases d with
  | nan => exact absurd rfl h
  | inf s => trivial
  | fin s c q => exact fp_rr h0 h1 s c 1 q
theorem fp_quot {f : FP.Core.Fmt} (h0 : f.qmin ≤ f.qmax) (h1 : f.tails < 2 ^ f.p) {x : FP.Core.Datum} {t : Bool} {d : Nat} {r : Int} (hx : x ≠ .nan) (hd : d ≠ 0) : fp_ok f (FP.Core.quotient f x (.fin t d r)) := by
  cases x with
  | nan => exact absurd rfl hx
  | inf s => trivial
  | fin s c q =>
    show fp_ok f (if d = 0 then _ else _)
    rw [if_neg hd]
    exact fp_rr h0 h1 _ c d _
theorem fp_c64 : FP.Core.b64.tails = 4503599627370496 ∧ FP.Core.b64.exps = 2048 ∧ FP.Core.b64.qmin = -1074 ∧ FP.Core.b64.qmax = 971 ∧ 2 ^ FP.Core.b64.p = 9007199254740992 := by decide
theorem fp_c32 : FP.Core.b32.tails = 8388608 ∧ FP.Core.b32.exps = 256 ∧ FP.Core.b32.qmin = -149 ∧ FP.Core.b32.qmax = 104 ∧ 2 ^ FP.Core.b32.p = 16777216 := by decide
theorem fp_e64 {d : FP.Core.Datum} (h : fp_ok FP.Core.b64 d) : FP.Core.encode FP.Core.b64 d < 18446744073709551616 ∧ FP.Core.encode FP.Core.b64 d % 9223372036854775808 ≤ 9218868437227405312 ∧ FP.Core.decode FP.Core.b64 (FP.Core.encode FP.Core.b64 d) ≠ .nan := by
  obtain ⟨c1, c2, c3, c4, c5⟩ := fp_c64
  cases d with
  | nan => exact h.elim
  | inf s => cases s <;> decide
  | fin s c q =>
    obtain ⟨h1, h2⟩ := h
    rw [c5] at h1
    rw [c4] at h2
    obtain ⟨n, hn⟩ : ∃ n, n = FP.Core.encode FP.Core.b64 (.fin s c q) := ⟨_, rfl⟩
    obtain ⟨sb, hsb⟩ : ∃ b, b = s.toNat := ⟨_, rfl⟩
    have hs : sb ≤ 1 := by rw [hsb]; cases s <;> decide
    have hb : n < 18446744073709551616 ∧ n % 9223372036854775808 ≤ 9218868437227405312 ∧ n / 4503599627370496 % 2048 ≠ 2047 := by
      have e : n = if c < FP.Core.b64.tails then FP.Core.assemble FP.Core.b64 s 0 c else FP.Core.assemble FP.Core.b64 s ((q - FP.Core.b64.qmin).toNat + 1) (c - FP.Core.b64.tails) := hn
      unfold FP.Core.assemble at e
      rw [c1, c2, c3, ← hsb] at e
      split at e <;> omega
    rw [← hn]
    refine ⟨hb.1, hb.2.1, ?_⟩
    unfold FP.Core.decode FP.Core.fieldE
    rw [c1, c2, if_neg (by omega)]
    split <;> (intro z; cases z)
theorem fp_e32 {d : FP.Core.Datum} (h : fp_ok FP.Core.b32 d) : FP.Core.encode FP.Core.b32 d < 4294967296 ∧ FP.Core.encode FP.Core.b32 d % 2147483648 ≤ 2139095040 ∧ FP.Core.decode FP.Core.b32 (FP.Core.encode FP.Core.b32 d) ≠ .nan := by
  obtain ⟨c1, c2, c3, c4, c5⟩ := fp_c32
  cases d with
  | nan => exact h.elim
  | inf s => cases s <;> decide
  | fin s c q =>
    obtain ⟨h1, h2⟩ := h
    rw [c5] at h1
    rw [c4] at h2
    obtain ⟨n, hn⟩ : ∃ n, n = FP.Core.encode FP.Core.b32 (.fin s c q) := ⟨_, rfl⟩
    obtain ⟨sb, hsb⟩ : ∃ b, b = s.toNat := ⟨_, rfl⟩
    have hs : sb ≤ 1 := by rw [hsb]; cases s <;> decide
    have hb : n < 4294967296 ∧ n % 2147483648 ≤ 2139095040 ∧ n / 8388608 % 256 ≠ 255 := by
      have e : n = if c < FP.Core.b32.tails then FP.Core.assemble FP.Core.b32 s 0 c else FP.Core.assemble FP.Core.b32 s ((q - FP.Core.b32.qmin).toNat + 1) (c - FP.Core.b32.tails) := hn
      unfold FP.Core.assemble at e
      rw [c1, c2, c3, ← hsb] at e
      split at e <;> omega
    rw [← hn]
    refine ⟨hb.1, hb.2.1, ?_⟩
    unfold FP.Core.decode FP.Core.fieldE
    rw [c1, c2, if_neg (by omega)]
    split <;> (intro z; cases z)
theorem fp_nn64 {d : FP.Core.Datum} (h : fp_ok FP.Core.b64 d) : isNaN64 (UInt64.ofNat (FP.Core.encode FP.Core.b64 d)) = false := by
  obtain ⟨h1, h2, -⟩ := fp_e64 h
  generalize FP.Core.encode FP.Core.b64 d = n at *
  cases hb : isNaN64 (UInt64.ofNat n) with
  | false => rfl
  | true =>
    exfalso
    unfold isNaN64 at hb
    have h3 : (0x7ff0000000000000 : UInt64) < UInt64.ofNat n &&& 0x7fffffffffffffff := by simpa using hb
    have e1 : (0x7ff0000000000000 : UInt64).toNat = 9218868437227405312 := rfl
    have e2 : (0x7fffffffffffffff : UInt64).toNat = 2 ^ 63 - 1 := rfl
    have e3 : (UInt64.ofNat n).toNat = n := UInt64.toNat_ofNat_of_lt' h1
    rw [UInt64.lt_iff_toNat_lt, UInt64.toNat_and, e1, e2, e3, Nat.and_two_pow_sub_one_eq_mod] at h3
    omega
theorem fp_nn32 {d : FP.Core.Datum} (h : fp_ok FP.Core.b32 d) : isNaN32 (UInt32.ofNat (FP.Core.encode FP.Core.b32 d)) = false := by
  obtain ⟨h1, h2, -⟩ := fp_e32 h
  generalize FP.Core.encode FP.Core.b32 d = n at *
  cases hb : isNaN32 (UInt32.ofNat n) with
  | false => rfl
  | true =>
    exfalso
    unfold isNaN32 at hb
    have h3 : (0x7f800000 : UInt32) < UInt32.ofNat n &&& 0x7fffffff := by simpa using hb
    have e1 : (0x7f800000 : UInt32).toNat = 2139095040 := rfl
    have e2 : (0x7fffffff : UInt32).toNat = 2 ^ 31 - 1 := rfl
    have e3 : (UInt32.ofNat n).toNat = n := UInt32.toNat_ofNat_of_lt' h1
    rw [UInt32.lt_iff_toNat_lt, UInt32.toNat_and, e1, e2, e3, Nat.and_two_pow_sub_one_eq_mod] at h3
    omega
theorem fp_v64 {d : FP.Core.Datum} (h : fp_ok FP.Core.b64 d) : FP.Core.decode FP.Core.b64 (UInt64.ofNat (FP.Core.encode FP.Core.b64 d)).toNat ≠ .nan := by
  rw [UInt64.toNat_ofNat_of_lt' (fp_e64 h).1]; exact (fp_e64 h).2.2
theorem fp_v32 {d : FP.Core.Datum} (h : fp_ok FP.Core.b32 d) : FP.Core.decode FP.Core.b32 (UInt32.ofNat (FP.Core.encode FP.Core.b32 d)).toNat ≠ .nan := by
  rw [UInt32.toNat_ofNat_of_lt' (fp_e32 h).1]; exact (fp_e32 h).2.2
theorem fp_lead {n : Nat} (n1 : 1 ≤ n) : FP.Core.leading n 1 = (n.log2 : Int) := by
  have k1 : 2 ^ n.log2 ≤ n := Nat.log2_self_le (by omega)
  have e1 : (1 : Nat).log2 = 0 := by decide
  unfold FP.Core.leading
  simp only [e1]
  rw [show ((n.log2 : Int) - ((0 : Nat) : Int)) = (n.log2 : Int) by omega, Int.toNat_natCast, show (-(n.log2 : Int)).toNat = 0 by omega, if_pos (by omega)]
theorem fp_near (n : Nat) : FP.Core.nearest n 1 = n := by
  unfold FP.Core.nearest
  rw [Nat.mod_one, if_pos (by decide), Nat.div_one]
theorem fp_int {f : FP.Core.Fmt} {n : Nat} (n1 : 1 ≤ n) (n2 : n < 131072) (hp : 18 ≤ f.p) (hp2 : f.p ≤ 60) (hq : f.qmin ≤ 1 - (f.p : Int)) (hq2 : 0 ≤ f.qmax) : ∃ c k, k ≤ 16 ∧ FP.Core.round f (FP.Core.ofInt (n : Int)) = .fin false c ((k : Int) - ((f.p : Int) - 1)) ∧ 2 ^ (f.p - 1) ≤ c ∧ c < 2 ^ f.p := by
  have k1 : 2 ^ n.log2 ≤ n := Nat.log2_self_le (by omega)
  have k2 : n < 2 ^ (n.log2 + 1) := Nat.lt_log2_self
  have k3 : n.log2 < 17 := by
    rcases Nat.lt_or_ge n.log2 17 with h | h
    · exact h
    · have := Nat.pow_le_pow_right (n := 2) (by decide) h
      omega
  have e0 : 2 ^ (f.p - 1 - n.log2) * 2 ^ n.log2 = 2 ^ (f.p - 1) := by rw [← Nat.pow_add]; congr 1; omega
  have e1 : 2 ^ (f.p - 1 - n.log2) * 2 ^ (n.log2 + 1) = 2 ^ f.p := by rw [← Nat.pow_add]; congr 1; omega
  have pp := Nat.two_pow_pos (f.p - 1 - n.log2)
  have lt1 : 2 ^ (f.p - 1 - n.log2) * n < 2 ^ f.p := by rw [← e1]; exact Nat.mul_lt_mul_of_pos_left k2 pp
  have le1 : 2 ^ (f.p - 1) ≤ 2 ^ (f.p - 1 - n.log2) * n := by rw [← e0]; exact Nat.mul_le_mul_left _ k1
  refine ⟨2 ^ (f.p - 1 - n.log2) * n, n.log2, by omega, ?_, le1, lt1⟩
  show FP.Core.roundRatio f (decide ((n : Int) < 0)) (n : Int).natAbs 1 0 = _
  rw [decide_eq_false (by omega), Int.natAbs_natCast]
  unfold FP.Core.roundRatio
  rw [if_neg (by omega)]
  have hquant : FP.Core.quantum f n 1 0 = (n.log2 : Int) - ((f.p : Int) - 1) := by
    unfold FP.Core.quantum
    rw [fp_lead n1, Int.max_eq_right (by omega)]; omega
  unfold FP.Core.roundAt
  rw [hquant]
  have hu : FP.Core.unitsNum n 0 ((n.log2 : Int) - ((f.p : Int) - 1)) = 2 ^ (f.p - 1 - n.log2) * n := by
    unfold FP.Core.unitsNum
    rw [Nat.mul_comm]
    exact congrArg (fun j => 2 ^ j * n) (by omega)
  have hd : FP.Core.unitsDen 1 0 ((n.log2 : Int) - ((f.p : Int) - 1)) = 1 := by
    unfold FP.Core.unitsDen
    rw [show ((n.log2 : Int) - ((f.p : Int) - 1) - 0).toNat = 0 by omega]
  rw [hu, hd, fp_near]
  unfold FP.Core.settle FP.Core.bound
  rw [if_pos lt1, if_pos (by omega)]
theorem fp_d64 {n : Nat} (n1 : 1 ≤ n) (n2 : n < 131072) : ∃ t c q, c ≠ 0 ∧ FP.Core.decode FP.Core.b64 (FP.Core.i2d (Int32.ofNat n)).toNat = .fin t c q := by
  obtain ⟨c1, c2, c3, c4, c5⟩ := fp_c64
  obtain ⟨c, k, hk, hr, h1, h2⟩ := fp_int (f := FP.Core.b64) n1 n2 (by decide) (by decide) (by decide) (by decide)
  rw [show 2 ^ (FP.Core.b64.p - 1) = 4503599627370496 by decide] at h1
  rw [c5] at h2
  obtain ⟨N, hN⟩ : ∃ N, N = FP.Core.encode FP.Core.b64 (.fin false c ((k : Int) - ((FP.Core.b64.p : Int) - 1))) := ⟨_, rfl⟩
  have hp53 : (FP.Core.b64.p : Int) = 53 := by decide
  have e : N = if c < FP.Core.b64.tails then FP.Core.assemble FP.Core.b64 false 0 c else FP.Core.assemble FP.Core.b64 false (((k : Int) - ((FP.Core.b64.p : Int) - 1) - FP.Core.b64.qmin).toNat + 1) (c - FP.Core.b64.tails) := hN
  unfold FP.Core.assemble at e
  rw [c1, c2, c3, hp53, if_neg (by omega), show false.toNat = 0 from rfl] at e
  have hi : (FP.Core.i2d (Int32.ofNat n)).toNat = N := by
    show (UInt64.ofNat (FP.Core.encode FP.Core.b64 (FP.Core.round FP.Core.b64 (FP.Core.ofInt (Int32.ofNat n).toInt)))).toNat = N
    rw [t_ofNat (by omega), hr, ← hN]
    exact UInt64.toNat_ofNat_of_lt' (by show N < 18446744073709551616; omega)
  rw [hi]
  unfold FP.Core.decode FP.Core.fieldE FP.Core.fieldT
  rw [c1, c2, if_neg (by omega), if_neg (by omega)]
  exact ⟨_, _, _, by omega, rfl⟩
theorem fp_d32 {n : Nat} (n1 : 1 ≤ n) (n2 : n < 131072) : ∃ t c q, c ≠ 0 ∧ FP.Core.decode FP.Core.b32 (FP.Core.i2f (Int32.ofNat n)).toNat = .fin t c q := by
  obtain ⟨c1, c2, c3, c4, c5⟩ := fp_c32
  obtain ⟨c, k, hk, hr, h1, h2⟩ := fp_int (f := FP.Core.b32) n1 n2 (by decide) (by decide) (by decide) (by decide)
  rw [show 2 ^ (FP.Core.b32.p - 1) = 8388608 by decide] at h1
  rw [c5] at h2
  obtain ⟨N, hN⟩ : ∃ N, N = FP.Core.encode FP.Core.b32 (.fin false c ((k : Int) - ((FP.Core.b32.p : Int) - 1))) := ⟨_, rfl⟩
  have hp53 : (FP.Core.b32.p : Int) = 24 := by decide
  have e : N = if c < FP.Core.b32.tails then FP.Core.assemble FP.Core.b32 false 0 c else FP.Core.assemble FP.Core.b32 false (((k : Int) - ((FP.Core.b32.p : Int) - 1) - FP.Core.b32.qmin).toNat + 1) (c - FP.Core.b32.tails) := hN
  unfold FP.Core.assemble at e
  rw [c1, c2, c3, hp53, if_neg (by omega), show false.toNat = 0 from rfl] at e
  have hi : (FP.Core.i2f (Int32.ofNat n)).toNat = N := by
    show (UInt32.ofNat (FP.Core.encode FP.Core.b32 (FP.Core.round FP.Core.b32 (FP.Core.ofInt (Int32.ofNat n).toInt)))).toNat = N
    rw [t_ofNat (by omega), hr, ← hN]
    exact UInt32.toNat_ofNat_of_lt' (by show N < 4294967296; omega)
  rw [hi]
  unfold FP.Core.decode FP.Core.fieldE FP.Core.fieldT
  rw [c1, c2, if_neg (by omega), if_neg (by omega)]
  exact ⟨_, _, _, by omega, rfl⟩
theorem fp_ofInt (i : Int) : FP.Core.ofInt i ≠ .nan := by intro h; cases h
theorem fp_q64 : FP.Core.b64.qmin ≤ FP.Core.b64.qmax ∧ FP.Core.b64.tails < 2 ^ FP.Core.b64.p := by decide
theorem fp_q32 : FP.Core.b32.qmin ≤ FP.Core.b32.qmax ∧ FP.Core.b32.tails < 2 ^ FP.Core.b32.p := by decide
theorem fp_mean {s : Int64} {n : Nat} (n1 : 1 ≤ n) (n2 : n ≤ 99999) : isNaN64 (FP.ddiv (FP.l2d s) (FP.i2d (Int32.ofNat n))) = false := by
  obtain ⟨t, c, q, hc, hd⟩ := fp_d64 n1 (by omega)
  have hl : FP.Core.decode FP.Core.b64 (FP.Core.l2d s).toNat ≠ .nan := fp_v64 (fp_round fp_q64.1 fp_q64.2 (fp_ofInt _))
  show isNaN64 (UInt64.ofNat (FP.Core.encode FP.Core.b64 (FP.Core.quotient FP.Core.b64 (FP.Core.decode FP.Core.b64 (FP.Core.l2d s).toNat) (FP.Core.decode FP.Core.b64 (FP.Core.i2d (Int32.ofNat n)).toNat)))) = false
  rw [hd]
  exact fp_nn64 (fp_quot fp_q64.1 fp_q64.2 hl hc)
theorem fp_buf {a : Int32} {n : Nat} (n1 : 1 ≤ n) (n2 : n ≤ 99999) : isNaN32 (FP.fdiv (FP.i2f a) (FP.i2f (Int32.ofNat n))) = false ∧ isNaN64 (FP.f2d (FP.fdiv (FP.i2f a) (FP.i2f (Int32.ofNat n)))) = false := by
  obtain ⟨t, c, q, hc, hd⟩ := fp_d32 n1 (by omega)
  have hl : FP.Core.decode FP.Core.b32 (FP.Core.i2f a).toNat ≠ .nan := fp_v32 (fp_round fp_q32.1 fp_q32.2 (fp_ofInt _))
  have e : FP.fdiv (FP.i2f a) (FP.i2f (Int32.ofNat n)) = UInt32.ofNat (FP.Core.encode FP.Core.b32 (FP.Core.quotient FP.Core.b32 (FP.Core.decode FP.Core.b32 (FP.Core.i2f a).toNat) (.fin t c q))) := by
    rw [← hd]; rfl
  have hq := fp_quot fp_q32.1 fp_q32.2 (x := FP.Core.decode FP.Core.b32 (FP.Core.i2f a).toNat) (t := t) (r := q) hl hc
  rw [e]
  generalize FP.Core.quotient FP.Core.b32 (FP.Core.decode FP.Core.b32 (FP.Core.i2f a).toNat) (.fin t c q) = d at *
  refine ⟨fp_nn32 hq, ?_⟩
  have hv := fp_v32 hq
  unfold FP.f2d
  rw [if_neg (by
    show ¬ decide (FP.Core.decode FP.Core.b32 (UInt32.ofNat (FP.Core.encode FP.Core.b32 d)).toNat = .nan) = true
    rw [decide_eq_true_eq]; exact hv)]
  exact fp_nn64 (fp_round fp_q64.1 fp_q64.2 hv)
theorem fp_l2f (a : Int32) : FP.l2f a.toInt64 = FP.i2f a := by
  show FP.Core.l2f a.toInt64 = FP.Core.i2f a
  unfold FP.Core.l2f FP.Core.i2f
  rw [l_of]
