/-! the reference's may -/
theorem e_may1 {Z : m_Z} {S : m_S} {m : Nat} {is pl : Int32} (h : m_ok Z m 9) (h1 : ¬ is = 0) (h0 : S.1 m 0 = 0) : f_X9_may Z S m is pl = some (1, S) := by
  unfold f_X9_may
  rw [if_pos h1, m_gd_t h, h0, if_neg (fun q => q rfl)]
theorem e_may0 {Z : m_Z} {S : m_S} {m : Nat} {pl : Int32} (h : m_ok Z m 9) (h0 : S.1 m 0 = 0) (hp : ¬ pl = 0) : f_X9_may Z S m 0 pl = some (0, m_pI S m 0 pl) := by
  unfold f_X9_may
  rw [if_neg (fun q => q rfl), m_gd_t h, h0, if_neg (fun q => q rfl), m_lt_s, pI_same, if_pos hp]
theorem e_mayT {Z : m_Z} {S : m_S} {m : Nat} {is pl : Int32} (h : m_ok Z m 9) (h0 : ¬ S.1 m 0 = 0) : f_X9_may Z S m is pl = some (0, S) := by
  unfold f_X9_may
  by_cases q : is = 0
  · rw [if_neg (fun z => z q), m_gd_t h, if_pos h0, if_pos h0]
  · rw [if_pos q, m_gd_t h, if_pos h0]
theorem e_isIn (Z : m_Z) (S : m_S) (v lo hi : Int32) : f_X9_isIn Z S v lo hi = some (if lo ≤ v ∧ v ≤ hi then 1 else 0) := by
  unfold f_X9_isIn
  by_cases q : v < lo
  · rw [if_pos q, if_neg (fun z => absurd z.1 (Int32.not_le.mpr q))]
  · rw [if_neg q]
    by_cases q2 : hi < v
    · rw [if_pos q2, if_neg (fun z => absurd z.2 (Int32.not_le.mpr q2))]
    · rw [if_neg q2, if_pos ⟨Int32.not_lt.mp q, Int32.not_lt.mp q2⟩]
