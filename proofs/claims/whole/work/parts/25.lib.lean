/-! PURE HALF: a library -/
theorem m_gd_t {α : Type} {c : Prop} [Decidable c] {t : Option α} (h : c) : m_gd c t = t := if_pos h
theorem m_b1_s {α β : Type} (a : α) (k : α → Option β) : m_b1 (some a) k = k a := rfl
theorem m_bw_s {α β : Type} (a : α) (S : m_S) (k : α → m_S → Option β) : m_bw (some (a, S)) k = k a S := rfl
theorem m_lt_s {α β : Type} (v : α) (k : α → β) : m_lt v k = k v := rfl
theorem m_jp_s {α β : Type} (k : α) (b : α → β) : m_jp k b = b k := rfl
theorem m_fx_s {α β : Type} (F : (α → Option β) → α → Option β) (n : Nat) (a : α) : m_fx F (n + 1) a = F (m_fx F n) a := rfl
theorem t_add {a b : Int32} (h1 : -2147483648 ≤ a.toInt + b.toInt) (h2 : a.toInt + b.toInt < 2147483648) : (a + b).toInt = a.toInt + b.toInt := by
  rw [Int32.toInt_add]; exact Int.bmod_eq_of_le (by omega) (by omega)
theorem t_sub {a b : Int32} (h1 : -2147483648 ≤ a.toInt - b.toInt) (h2 : a.toInt - b.toInt < 2147483648) : (a - b).toInt = a.toInt - b.toInt := by
  rw [Int32.toInt_sub]; exact Int.bmod_eq_of_le (by omega) (by omega)
theorem t_mul {a b : Int32} (h1 : -2147483648 ≤ a.toInt * b.toInt) (h2 : a.toInt * b.toInt < 2147483648) : (a * b).toInt = a.toInt * b.toInt := by
  rw [Int32.toInt_mul]; exact Int.bmod_eq_of_le (by omega) (by omega)
theorem t_div {a b : Int32} (h : b.toInt ≠ -1) : (a / b).toInt = a.toInt.tdiv b.toInt := by
  rw [Int32.toInt_div_of_ne_right]
  intro e; exact h (by rw [e]; rfl)
theorem t_lt {a b : Int32} : a < b ↔ a.toInt < b.toInt := Int32.lt_iff_toInt_lt
theorem t_le {a b : Int32} : a ≤ b ↔ a.toInt ≤ b.toInt := Int32.le_iff_toInt_le
theorem t_eq {a b : Int32} : a = b ↔ a.toInt = b.toInt := Int32.toInt_inj.symm
theorem t_range (a : Int32) : -2147483648 ≤ a.toInt ∧ a.toInt < 2147483648 := ⟨Int32.le_toInt a, Int32.toInt_lt a⟩
theorem t_tn (a : Int32) : a.toNatClampNeg = a.toInt.toNat := rfl
theorem t_in {i : Int32} {n : Nat} (h0 : 0 ≤ i.toInt) (h1 : i.toInt < n) : m_in i n := by
  rintro (h | h)
  · rw [t_lt] at h; have : (0 : Int32).toInt = 0 := rfl; omega
  · rw [t_tn] at h; omega
theorem t_ofNat {n : Nat} (h : n < 2147483648) : (Int32.ofNat n).toInt = n := by
  exact Int32.toInt_ofNat_of_lt h
theorem io_add (a b : Nat) : Int32.ofNat a + Int32.ofNat b = Int32.ofNat (a + b) := (Int32.ofNat_add a b).symm
theorem io_mul (a b : Nat) : Int32.ofNat a * Int32.ofNat b = Int32.ofNat (a * b) := (Int32.ofNat_mul a b).symm
theorem io_sub {a b : Nat} (h : b ≤ a) : Int32.ofNat a - Int32.ofNat b = Int32.ofNat (a - b) := by
  rw [← Int32.ofNat_sub _ _ h]
theorem io_tn {n : Nat} (h : n < 2147483648) : (Int32.ofNat n).toNatClampNeg = n := by
  rw [t_tn, t_ofNat h]; rfl
theorem io_in {n N : Nat} (h : n < 2147483648) (h1 : n < N) : m_in (Int32.ofNat n) N := t_in (by rw [t_ofNat h]; omega) (by rw [t_ofNat h]; omega)
theorem l_add {a b : Int64} (h1 : -9223372036854775808 ≤ a.toInt + b.toInt) (h2 : a.toInt + b.toInt < 9223372036854775808) : (a + b).toInt = a.toInt + b.toInt := by
  rw [Int64.toInt_add]; exact Int.bmod_eq_of_le (by omega) (by omega)
theorem l_sub {a b : Int64} (h1 : -9223372036854775808 ≤ a.toInt - b.toInt) (h2 : a.toInt - b.toInt < 9223372036854775808) : (a - b).toInt = a.toInt - b.toInt := by
  rw [Int64.toInt_sub]; exact Int.bmod_eq_of_le (by omega) (by omega)
theorem l_mul {a b : Int64} (h1 : -9223372036854775808 ≤ a.toInt * b.toInt) (h2 : a.toInt * b.toInt < 9223372036854775808) : (a * b).toInt = a.toInt * b.toInt := by
  rw [Int64.toInt_mul]; exact Int.bmod_eq_of_le (by omega) (by omega)
theorem l_div {a b : Int64} (h : b.toInt ≠ -1) : (a / b).toInt = a.toInt.tdiv b.toInt := by
  rw [Int64.toInt_div_of_ne_right]
  intro e; exact h (by rw [e]; rfl)
theorem l_lt {a b : Int64} : a < b ↔ a.toInt < b.toInt := Int64.lt_iff_toInt_lt
theorem l_le {a b : Int64} : a ≤ b ↔ a.toInt ≤ b.toInt := Int64.le_iff_toInt_le
theorem l_eq {a b : Int64} : a = b ↔ a.toInt = b.toInt := Int64.toInt_inj.symm
theorem l_range (a : Int64) : -9223372036854775808 ≤ a.toInt ∧ a.toInt < 9223372036854775808 := ⟨Int64.le_toInt a, Int64.toInt_lt a⟩
theorem l_of (a : Int32) : a.toInt64.toInt = a.toInt := Int32.toInt_toInt64 a
theorem t_of {w : Int64} (h1 : -2147483648 ≤ w.toInt) (h2 : w.toInt < 2147483648) : w.toInt32.toInt = w.toInt := by
  rw [Int64.toInt_toInt32]; exact Int.bmod_eq_of_le (by omega) (by omega)
theorem t_of64 (a : Int32) : a.toInt64.toInt32 = a := Int32.toInt32_toInt64 a
theorem l_add32 (a b : Int64) : (a + b).toInt32 = a.toInt32 + b.toInt32 := Int64.toInt32_add a b
theorem l_mul32 (a b : Int64) : (a * b).toInt32 = a.toInt32 * b.toInt32 := Int64.toInt32_mul a b
/-- division that rounds toward 0, of what isn't negative -/
theorem d_pos {a b : Int} (ha : 0 ≤ a) : a.tdiv b = a / b := Int.tdiv_eq_ediv_of_nonneg ha
