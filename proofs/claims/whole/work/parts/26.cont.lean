/-! the isotherm -/
def q_line (a b s d : Int32) : Int32 := a + (((b - a) * s) / d)
def q_cg (x y : Nat → Int32) (n : Nat) (hum : Int32) : Nat → Nat → Int32
  | 0, _ => y (n - 1)
  | d + 1, i => if hum ≤ x i then q_line (y (i - 1)) (y i) (hum - x (i - 1)) (x i - x (i - 1)) else q_cg x y n hum d (i + 1)
def q_ct (x y : Nat → Int32) (n : Nat) (hum : Int32) : Int32 := if hum ≤ x 0 then y 0 else q_cg x y n hum (n - 1) 1
/-- an isotherm as the document has it -/
def q_iso (x y : Nat → Int32) (n : Nat) : Prop := (2 ≤ n ∧ n ≤ 6) ∧ (∀ j, j < n → 0 ≤ (x j).toInt ∧ (x j).toInt ≤ 1000 ∧ 0 ≤ (y j).toInt ∧ (y j).toInt ≤ 9999) ∧ ∀ j, j + 1 < n → (x j).toInt < (x (j + 1)).toInt ∧ (y j).toInt ≤ (y (j + 1)).toInt
theorem q_iso.lt {x y : Nat → Int32} {n : Nat} (h : q_iso x y n) : ∀ (d i : Nat), i + d + 1 < n → (x i).toInt < (x (i + d + 1)).toInt
  | 0, i, hi => (h.2.2 i hi).1
  | d + 1, i, hi => Int.lt_trans (q_iso.lt h d i (by omega)) (h.2.2 (i + d + 1) (by omega)).1
theorem q_iso.lt2 {x y : Nat → Int32} {n i j : Nat} (h : q_iso x y n) (hij : i < j) (hj : j < n) : (x i).toInt < (x j).toInt := by
  have := h.lt (j - i - 1) i (by omega)
  rwa [show i + (j - i - 1) + 1 = j by omega] at this
theorem q_iso.le {x y : Nat → Int32} {n : Nat} (h : q_iso x y n) : ∀ (d i : Nat), i + d < n → (y i).toInt ≤ (y (i + d)).toInt
  | 0, i, hi => Int.le_refl _
  | d + 1, i, hi => Int.le_trans (q_iso.le h d i (by omega)) (h.2.2 (i + d) (by omega)).2
theorem q_iso.le2 {x y : Nat → Int32} {n i j : Nat} (h : q_iso x y n) (hij : i ≤ j) (hj : j < n) : (y i).toInt ≤ (y j).toInt := by
  have := h.le (j - i) i (by omega)
  rwa [show i + (j - i) = j by omega] at this
theorem q_cg_seg {x y : Nat → Int32} {n : Nat} {hum : Int32} : ∀ (d i j : Nat), d + i = n → 0 < i → i ≤ j → j < n → (∀ k, i ≤ k → k < j → ¬ hum ≤ x k) → hum ≤ x j → q_cg x y n hum d i = q_line (y (j - 1)) (y j) (hum - x (j - 1)) (x j - x (j - 1))
  | 0, i, j, h1, _, h3, h4, _, _ => by omega
  | d + 1, i, j, h1, h2, h3, h4, h5, h6 => by
    unfold q_cg
    by_cases e : i = j
    · subst e; rw [if_pos h6]
    · rw [if_neg (h5 i (Nat.le_refl _) (by omega))]
      exact q_cg_seg d (i + 1) j (by omega) (by omega) (by omega) h4 (fun k h k2 => h5 k (by omega) k2) h6
theorem q_cg_last {x y : Nat → Int32} {n : Nat} {hum : Int32} : ∀ (d i : Nat), d + i = n → (∀ k, i ≤ k → k < n → ¬ hum ≤ x k) → q_cg x y n hum d i = y (n - 1)
  | 0, i, _, _ => rfl
  | d + 1, i, h1, h5 => by
    unfold q_cg
    rw [if_neg (h5 i (Nat.le_refl _) (by omega))]
    exact q_cg_last d (i + 1) (by omega) (fun k h k2 => h5 k (by omega) k2)
theorem q_ct_seg {x y : Nat → Int32} {n : Nat} {hum : Int32} {j : Nat} (h0 : 0 < j) (h4 : j < n) (h5 : ∀ k, k < j → ¬ hum ≤ x k) (h6 : hum ≤ x j) : q_ct x y n hum = q_line (y (j - 1)) (y j) (hum - x (j - 1)) (x j - x (j - 1)) := by
  unfold q_ct
  rw [if_neg (h5 0 h0)]
  exact q_cg_seg (n - 1) 1 j (by omega) (by omega) h0 h4 (fun k _ k2 => h5 k k2) h6
theorem q_ct_last {x y : Nat → Int32} {n : Nat} {hum : Int32} (h0 : 0 < n) (h5 : ∀ k, k < n → ¬ hum ≤ x k) : q_ct x y n hum = y (n - 1) := by
  unfold q_ct
  rw [if_neg (h5 0 h0)]
  exact q_cg_last (n - 1) 1 (by omega) (fun k _ k2 => h5 k k2)
/-- a line's value lies between its ends; at its ends it is them -/
theorem q_line_t {a b s d : Int32} (ha : 0 ≤ a.toInt) (hab : a.toInt ≤ b.toInt) (hb : b.toInt ≤ 9999) (hs : 0 ≤ s.toInt) (hsd : s.toInt ≤ d.toInt) (hd : 0 < d.toInt) (hd2 : d.toInt ≤ 1000) : (q_line a b s d).toInt = a.toInt + (b.toInt - a.toInt) * s.toInt / d.toInt ∧ a.toInt ≤ (q_line a b s d).toInt ∧ (q_line a b s d).toInt ≤ b.toInt := by
  have e1 : (b - a).toInt = b.toInt - a.toInt := t_sub (by omega) (by omega)
  have m0 : 0 ≤ (b.toInt - a.toInt) * s.toInt := Int.mul_nonneg (by omega) hs
  have m1 : (b.toInt - a.toInt) * s.toInt ≤ (b.toInt - a.toInt) * d.toInt := Int.mul_le_mul_of_nonneg_left hsd (by omega)
  have m2 : (b.toInt - a.toInt) * d.toInt ≤ 9999 * 1000 := Int.mul_le_mul (by omega) hd2 (by omega) (by omega)
  have e2 : ((b - a) * s).toInt = (b.toInt - a.toInt) * s.toInt := by rw [t_mul (by rw [e1]; omega) (by rw [e1]; omega), e1]
  have e3 : (((b - a) * s) / d).toInt = (b.toInt - a.toInt) * s.toInt / d.toInt := by rw [t_div (by omega), e2, d_pos m0]
  have q0 : 0 ≤ (b.toInt - a.toInt) * s.toInt / d.toInt := Int.ediv_nonneg m0 (by omega)
  have q1 : (b.toInt - a.toInt) * s.toInt / d.toInt ≤ b.toInt - a.toInt := Int.ediv_le_of_le_mul hd m1
  have e4 : (q_line a b s d).toInt = a.toInt + (b.toInt - a.toInt) * s.toInt / d.toInt := by
    unfold q_line
    rw [t_add (by rw [e3]; omega) (by rw [e3]; omega), e3]
  exact ⟨e4, by omega, by omega⟩
theorem q_line_0 (a b d : Int32) {s : Int32} (hs : s.toInt = 0) : q_line a b s d = a := by
  have : s = 0 := t_eq.mpr hs
  subst this
  unfold q_line
  rw [Int32.mul_zero, Int32.zero_div, Int32.add_zero]
theorem q_line_1 {a b s d : Int32} (ha : 0 ≤ a.toInt) (hab : a.toInt ≤ b.toInt) (hb : b.toInt ≤ 9999) (hsd : s.toInt = d.toInt) (hd : 0 < d.toInt) (hd2 : d.toInt ≤ 1000) : q_line a b s d = b := by
  have h := (q_line_t (s := s) ha hab hb (by omega) (by omega) hd hd2).1
  rw [hsd, Int.mul_ediv_cancel _ (by omega)] at h
  exact t_eq.mpr (by omega)
