/-! an hour of a case, in numbers -/
theorem k1000 : (1000 : Int32).toInt = 1000 := rfl
theorem q_hum_t {air vol : Int32} (a0 : 0 ≤ air.toInt) (a1 : air.toInt < 20000) (v0 : 100 ≤ vol.toInt) (v1 : vol.toInt ≤ 9999) : (((1000 : Int32) * air) / vol).toInt = 1000 * air.toInt / vol.toInt := by
  have e : ((1000 : Int32) * air).toInt = 1000 * air.toInt := by rw [t_mul (by rw [k1000]; omega) (by rw [k1000]; omega), k1000]
  rw [t_div (by omega), e, d_pos (by omega)]
theorem q_hum_l {air vol : Int32} (a0 : 0 ≤ air.toInt) (a1 : air.toInt < 20000) (v0 : 100 ≤ vol.toInt) (v1 : vol.toInt ≤ 9999) : (((1000 : Int64) * air.toInt64) / vol.toInt64).toInt32 = ((1000 : Int32) * air) / vol := by
  have k : (1000 : Int64).toInt = 1000 := rfl
  have e : ((1000 : Int64) * air.toInt64).toInt = 1000 * air.toInt := by rw [l_mul (by rw [k, l_of]; omega) (by rw [k, l_of]; omega), k, l_of]
  have e2 : (((1000 : Int64) * air.toInt64) / vol.toInt64).toInt = 1000 * air.toInt / vol.toInt := by rw [l_div (by rw [l_of]; omega), e, l_of, d_pos (by omega)]
  have b0 : 0 ≤ 1000 * air.toInt / vol.toInt := Int.ediv_nonneg (by omega) (by omega)
  have b1 : 1000 * air.toInt / vol.toInt ≤ 1000 * air.toInt := Int.ediv_le_self _ (by omega)
  rw [t_eq, t_of (by omega) (by omega), e2, q_hum_t a0 a1 v0 v1]
theorem q_mp_t {p : Nat → Int32} {k : Nat} (hw : q_wk p k) {mass : Int32} (m1 : 1 ≤ mass.toInt) (m2 : mass.toInt ≤ 999) (hum : Int32) : 0 ≤ (q_mp p k mass hum).toInt ∧ (q_mp p k mass hum).toInt ≤ 9989 ∧ (q_mp p k mass hum).toInt ≤ (q_mp p k mass 1000).toInt ∧ (1000 ≤ hum.toInt → q_mp p k mass hum = q_mp p k mass 1000) := by
  have h := q_mo_t hw.2.1 (mass := mass) (by omega) m2 hum
  have hs : 1000 ≤ hum.toInt → q_mp p k mass hum = q_mp p k mass 1000 := fun h9 => by
    unfold q_mp q_mo
    rw [q_ct_sat hw.2.1 h9, q_ct_sat hw.2.1 (hum := 1000) (by rw [k1000]; omega)]
  refine ⟨h.2.1, h.2.2, ?_, hs⟩
  by_cases h9 : 1000 ≤ hum.toInt
  · rw [hs h9]; exact Int.le_refl _
  · exact q_mo_mono hw.2.1 (by omega) m2 (by rw [k1000]; omega)
/-- what a cassette takes in an hour -/
theorem q_take_t {G M sp A V hv mx : Int} (g0 : 0 ≤ G) (g1 : G ≤ mx) (gs : 1000 ≤ hv → G = mx) (m0 : 0 ≤ M) (m1 : M ≤ mx) (x1 : mx ≤ 9989) (s0 : 0 ≤ sp) (s1 : sp ≤ 1000) (a0 : 0 ≤ A) (a1 : A < 20000) (v0 : 100 ≤ V) (v1 : V ≤ 9999) (hh : hv = 1000 * A / V) {w t : Int} (hw : w = ((G - M) * sp).tdiv 1000) (ht : t = if A ≤ w then A else w) : (-9989 ≤ w ∧ w ≤ 9989) ∧ (-9989000 ≤ (G - M) * sp ∧ (G - M) * sp ≤ 9989000) ∧ 0 ≤ M + t ∧ M + t ≤ mx ∧ 0 ≤ A - t ∧ A - t < 20000 ∧ -9989 ≤ t ∧ t ≤ 9989 := by
  by_cases hg : M ≤ G
  · have p0 : 0 ≤ (G - M) * sp := Int.mul_nonneg (by omega) s0
    have p1 : (G - M) * sp ≤ (G - M) * 1000 := Int.mul_le_mul_of_nonneg_left s1 (by omega)
    have e : w = (G - M) * sp / 1000 := by rw [hw, d_pos p0]
    have w0 : 0 ≤ w := by omega
    have w1 : w ≤ G - M := by omega
    refine ⟨⟨by omega, by omega⟩, ⟨by omega, by omega⟩, ?_⟩
    by_cases q : A ≤ w
    · rw [if_pos q] at ht; omega
    · rw [if_neg q] at ht; omega
  · have p0 : 0 ≤ (M - G) * sp := Int.mul_nonneg (by omega) s0
    have p1 : (M - G) * sp ≤ (M - G) * 1000 := Int.mul_le_mul_of_nonneg_left s1 (by omega)
    have en : (G - M) * sp = -((M - G) * sp) := by rw [← Int.neg_mul]; congr 1; omega
    have e : w = -((M - G) * sp / 1000) := by rw [hw, en, Int.neg_tdiv, d_pos p0]
    have w0 : w ≤ 0 := by omega
    have w1 : -(M - G) ≤ w := by omega
    have hs : hv ≤ 999 := by
      by_cases q : 1000 ≤ hv
      · have := gs q; omega
      · omega
    have ha : A < V := by
      by_cases q : V ≤ A
      · have : 1000 ≤ 1000 * A / V := by
          rw [Int.le_ediv_iff_mul_le (by omega)]; omega
        omega
      · omega
    refine ⟨⟨by omega, by omega⟩, ⟨by omega, by omega⟩, ?_⟩
    by_cases q : A ≤ w
    · rw [if_pos q] at ht; omega
    · rw [if_neg q] at ht; omega
/-- the air's change by the leak -/
theorem q_flow_t {V room A leak : Int} (v0 : 100 ≤ V) (v1 : V ≤ 9999) (r0 : 0 ≤ room) (r1 : room ≤ 1000) (a0 : 0 ≤ A) (a1 : A < 20000) (k0 : 0 ≤ leak) (k1 : leak ≤ 1000) {f : Int} (hf : f = ((V * room - 1000 * A) * leak).tdiv 1000000) : (0 ≤ V * room ∧ V * room ≤ 9999000) ∧ (-20000000000 ≤ (V * room - 1000 * A) * leak ∧ (V * room - 1000 * A) * leak ≤ 20000000000) ∧ 0 ≤ A + f ∧ A + f < 20000 ∧ -20000 ≤ f ∧ f ≤ 20000 := by
  have p0 : 0 ≤ V * room := Int.mul_nonneg (by omega) r0
  have p1 : V * room ≤ 9999 * 1000 := Int.mul_le_mul v1 r1 r0 (by omega)
  by_cases q : 1000 * A ≤ V * room
  · have n0 : 0 ≤ (V * room - 1000 * A) * leak := Int.mul_nonneg (by omega) k0
    have n1 : (V * room - 1000 * A) * leak ≤ (V * room - 1000 * A) * 1000 := Int.mul_le_mul_of_nonneg_left k1 (by omega)
    rw [d_pos n0] at hf
    refine ⟨⟨by omega, by omega⟩, ⟨by omega, by omega⟩, by omega, by omega, by omega, by omega⟩
  · have n0 : 0 ≤ (1000 * A - V * room) * leak := Int.mul_nonneg (by omega) k0
    have n1 : (1000 * A - V * room) * leak ≤ (1000 * A - V * room) * 1000 := Int.mul_le_mul_of_nonneg_left k1 (by omega)
    have en : (V * room - 1000 * A) * leak = -((1000 * A - V * room) * leak) := by rw [← Int.neg_mul]; congr 1; omega
    rw [en, Int.neg_tdiv, d_pos n0] at hf
    rw [en]
    refine ⟨⟨by omega, by omega⟩, ⟨by omega, by omega⟩, by omega, by omega, by omega, by omega⟩
