/-! what an isotherm's values are like -/
theorem q_ct_cases {x y : Nat → Int32} {n : Nat} (h0 : 0 < n) (hum : Int32) : (hum ≤ x 0 ∧ q_ct x y n hum = y 0) ∨ (∃ j, 0 < j ∧ j < n ∧ (∀ k, k < j → ¬ hum ≤ x k) ∧ hum ≤ x j ∧ q_ct x y n hum = q_line (y (j - 1)) (y j) (hum - x (j - 1)) (x j - x (j - 1))) ∨ ((∀ k, k < n → ¬ hum ≤ x k) ∧ q_ct x y n hum = y (n - 1)) := by
  by_cases h1 : hum ≤ x 0
  · exact Or.inl ⟨h1, by unfold q_ct; rw [if_pos h1]⟩
  · by_cases h2 : ∀ k, k < n → ¬ hum ≤ x k
    · exact Or.inr (Or.inr ⟨h2, q_ct_last h0 h2⟩)
    · have key : ∀ d i : Nat, d + i = n → (∀ k, k < i → ¬ hum ≤ x k) → ∃ j, j < n ∧ (∀ k, k < j → ¬ hum ≤ x k) ∧ hum ≤ x j := by
        intro d
        induction d with
        | zero => intro i h3 h4; exact absurd (fun k hk => h4 k (by omega)) h2
        | succ d ih =>
          intro i h3 h4
          by_cases h5 : hum ≤ x i
          · exact ⟨i, by omega, h4, h5⟩
          · exact ih (i + 1) (by omega) (fun k hk => by
              by_cases q : k = i
              · subst q; exact h5
              · exact h4 k (by omega))
      obtain ⟨j, hj, h3, h4⟩ := key n 0 (by omega) (fun k hk => by omega)
      have hj0 : 0 < j := Nat.pos_of_ne_zero (fun q => by subst q; exact h1 h4)
      exact Or.inr (Or.inl ⟨j, hj0, hj, h3, h4, q_ct_seg hj0 hj h3 h4⟩)
/-- on a piece -/
theorem q_seg_t {x y : Nat → Int32} {n j : Nat} {hum : Int32} (hi : q_iso x y n) (h0 : 0 < j) (hj : j < n) (hl : ¬ hum ≤ x (j - 1)) (hu : hum ≤ x j) : (q_line (y (j - 1)) (y j) (hum - x (j - 1)) (x j - x (j - 1))).toInt = (y (j - 1)).toInt + ((y j).toInt - (y (j - 1)).toInt) * (hum.toInt - (x (j - 1)).toInt) / ((x j).toInt - (x (j - 1)).toInt) ∧ (y (j - 1)).toInt ≤ (q_line (y (j - 1)) (y j) (hum - x (j - 1)) (x j - x (j - 1))).toInt ∧ (q_line (y (j - 1)) (y j) (hum - x (j - 1)) (x j - x (j - 1))).toInt ≤ (y j).toInt := by
  obtain ⟨⟨n2, n6⟩, hb, hm⟩ := id hi
  have hx := hm (j - 1) (by omega)
  rw [show j - 1 + 1 = j by omega] at hx
  have b1 := hb j hj
  have b2 := hb (j - 1) (by omega)
  rw [t_le] at hl hu
  have e1 : (hum - x (j - 1)).toInt = hum.toInt - (x (j - 1)).toInt := t_sub (by omega) (by omega)
  have e2 : (x j - x (j - 1)).toInt = (x j).toInt - (x (j - 1)).toInt := t_sub (by omega) (by omega)
  have h := q_line_t (a := y (j - 1)) (b := y j) (s := hum - x (j - 1)) (d := x j - x (j - 1)) (by omega) hx.2 (by omega) (by omega) (by omega) (by omega) (by omega)
  rw [e1, e2] at h
  exact h
theorem q_ct_bd {x y : Nat → Int32} {n : Nat} (hi : q_iso x y n) (hum : Int32) : (y 0).toInt ≤ (q_ct x y n hum).toInt ∧ (q_ct x y n hum).toInt ≤ (y (n - 1)).toInt := by
  obtain ⟨⟨n2, n6⟩, hb, hm⟩ := id hi
  rcases q_ct_cases (x := x) (y := y) (n := n) (by omega) hum with ⟨_, e⟩ | ⟨j, h0, hj, h3, h4, e⟩ | ⟨_, e⟩
  · rw [e]; exact ⟨Int.le_refl _, hi.le2 (Nat.zero_le _) (by omega)⟩
  · rw [e]
    have h := q_seg_t hi h0 hj (h3 _ (by omega)) h4
    have a1 := hi.le2 (i := 0) (j := j - 1) (by omega) (by omega)
    have a2 := hi.le2 (i := j) (j := n - 1) (by omega) (by omega)
    exact ⟨by omega, by omega⟩
  · rw [e]; exact ⟨hi.le2 (Nat.zero_le _) (by omega), Int.le_refl _⟩
theorem q_ct_sat {x y : Nat → Int32} {n : Nat} (hi : q_iso x y n) {hum : Int32} (h : 1000 ≤ hum.toInt) : q_ct x y n hum = y (n - 1) := by
  obtain ⟨⟨n2, n6⟩, hb, hm⟩ := id hi
  have lo : ∀ k, k < n - 1 → ¬ hum ≤ x k := fun k hk q => by
    have := hi.lt2 (i := k) (j := n - 1) hk (by omega)
    have b := hb (n - 1) (by omega)
    rw [t_le] at q; omega
  by_cases e : hum ≤ x (n - 1)
  · rw [q_ct_seg (by omega) (by omega) lo e]
    have hxj := hm (n - 1 - 1) (by omega)
    rw [show n - 1 - 1 + 1 = n - 1 by omega] at hxj
    have b1 := hb (n - 1) (by omega)
    have b2 := hb (n - 1 - 1) (by omega)
    rw [t_le] at e
    refine q_line_1 (by omega) hxj.2 (by omega) ?_ ?_ ?_
    · rw [t_sub (by omega) (by omega), t_sub (by omega) (by omega)]; omega
    · rw [t_sub (by omega) (by omega)]; omega
    · rw [t_sub (by omega) (by omega)]; omega
  · exact q_ct_last (by omega) (fun j hj => by
      by_cases q : j = n - 1
      · subst q; exact e
      · exact lo j (by omega))
theorem q_ct_mono {x y : Nat → Int32} {n : Nat} (hi : q_iso x y n) {u v : Int32} (huv : u.toInt ≤ v.toInt) : (q_ct x y n u).toInt ≤ (q_ct x y n v).toInt := by
  obtain ⟨⟨n2, n6⟩, hb, hm⟩ := id hi
  rcases q_ct_cases (x := x) (y := y) (n := n) (by omega) u with ⟨_, e⟩ | ⟨j, h0, hj, h3, h4, e⟩ | ⟨q, e⟩
  · rw [e]; exact (q_ct_bd hi v).1
  · rcases q_ct_cases (x := x) (y := y) (n := n) (by omega) v with ⟨q, e'⟩ | ⟨i, i0, hi2, i3, i4, e'⟩ | ⟨q, e'⟩
    · exfalso
      have := h3 0 h0
      rw [t_le] at this q; omega
    · have hij : j ≤ i := Nat.le_of_not_lt (fun q => by
        have := h3 i q
        rw [t_le] at this i4; omega)
      rw [e, e']
      have a1 := q_seg_t hi h0 hj (h3 _ (by omega)) h4
      have a2 := q_seg_t hi i0 hi2 (i3 _ (by omega)) i4
      by_cases q : i = j
      · subst q
        rw [a1.1, a2.1]
        have hx := hm (i - 1) (by omega)
        rw [show i - 1 + 1 = i by omega] at hx
        have : ((y i).toInt - (y (i - 1)).toInt) * (u.toInt - (x (i - 1)).toInt) ≤ ((y i).toInt - (y (i - 1)).toInt) * (v.toInt - (x (i - 1)).toInt) := Int.mul_le_mul_of_nonneg_left (by omega) (by omega)
        have := Int.ediv_le_ediv (show 0 < (x i).toInt - (x (i - 1)).toInt by omega) this
        omega
      · have := hi.le2 (i := j) (j := i - 1) (by omega) (by omega)
        omega
    · rw [e']; exact (q_ct_bd hi u).2
  · rcases q_ct_cases (x := x) (y := y) (n := n) (by omega) v with ⟨q2, e'⟩ | ⟨i, i0, hi2, i3, i4, e'⟩ | ⟨q2, e'⟩
    · exfalso
      have := q 0 (by omega)
      rw [t_le] at this q2; omega
    · exfalso
      have := q i hi2
      rw [t_le] at this i4; omega
    · rw [e, e']; exact Int.le_refl _
/-- the moisture of a cassette at a humidity -/
def q_mo (x y : Nat → Int32) (n : Nat) (mass hum : Int32) : Int32 := (q_ct x y n hum * mass) / (1000 : Int32)
theorem q_mo_t {x y : Nat → Int32} {n : Nat} (hi : q_iso x y n) {mass : Int32} (m1 : 0 ≤ mass.toInt) (m2 : mass.toInt ≤ 999) (hum : Int32) : (q_mo x y n mass hum).toInt = (q_ct x y n hum).toInt * mass.toInt / 1000 ∧ 0 ≤ (q_mo x y n mass hum).toInt ∧ (q_mo x y n mass hum).toInt ≤ 9989 := by
  obtain ⟨⟨n2, n6⟩, hb, hm⟩ := id hi
  have b := q_ct_bd hi hum
  have b0 := hb 0 (by omega)
  have b1 := hb (n - 1) (by omega)
  have p0 : 0 ≤ (q_ct x y n hum).toInt * mass.toInt := Int.mul_nonneg (by omega) m1
  have p1 : (q_ct x y n hum).toInt * mass.toInt ≤ 9999 * 999 := Int.mul_le_mul (by omega) m2 m1 (by omega)
  have e : (q_mo x y n mass hum).toInt = (q_ct x y n hum).toInt * mass.toInt / 1000 := by
    unfold q_mo
    have e0 : (1000 : Int32).toInt = 1000 := rfl
    rw [t_div (by rw [e0]; decide), t_mul (by omega) (by omega), d_pos p0, e0]
  exact ⟨e, by omega, by omega⟩
theorem q_mo_mono {x y : Nat → Int32} {n : Nat} (hi : q_iso x y n) {mass : Int32} (m1 : 0 ≤ mass.toInt) (m2 : mass.toInt ≤ 999) {u v : Int32} (huv : u.toInt ≤ v.toInt) : (q_mo x y n mass u).toInt ≤ (q_mo x y n mass v).toInt := by
  rw [(q_mo_t hi m1 m2 u).1, (q_mo_t hi m1 m2 v).1]
  exact Int.ediv_le_ediv (by decide) (Int.mul_le_mul_of_nonneg_right (q_ct_mono hi huv) m1)
