/-! the set point of a day -/
def q_sel (d : Nat → Int32) (day : Int32) : Nat → Option Nat
  | 0 => none
  | i + 1 => if d i ≤ day then some i else q_sel d day i
theorem q_sel_some {d : Nat → Int32} {day : Int32} {k : Nat} : ∀ {n : Nat}, q_sel d day n = some k → k < n ∧ d k ≤ day
  | 0, h => by cases h
  | n + 1, h => by
    unfold q_sel at h
    by_cases q : d n ≤ day
    · rw [if_pos q] at h; cases h; exact ⟨Nat.lt_succ_self _, q⟩
    · rw [if_neg q] at h
      have := q_sel_some h
      exact ⟨by omega, this.2⟩
theorem q_sel_none {d : Nat → Int32} {day : Int32} : ∀ {n : Nat}, q_sel d day n = none → ∀ k, k < n → ¬ d k ≤ day
  | 0, _, k, hk => by omega
  | n + 1, h, k, hk => by
    unfold q_sel at h
    by_cases q : d n ≤ day
    · rw [if_pos q] at h; cases h
    · rw [if_neg q] at h
      by_cases e : k = n
      · subst e; exact q
      · exact q_sel_none h k (by omega)
def q_set (d s : Nat → Int32) (n : Nat) (day : Int32) : Int32 := if n = 0 then 500 else match q_sel d day n with
  | some k => if k = n - 1 then q_line (s k) (s 0) (day - d k) (d 0 - d k + 365) else q_line (s k) (s (k + 1)) (day - d k) (d (k + 1) - d k)
  | none => q_line (s (n - 1)) (s 0) (day - d (n - 1) + 365) (d 0 - d (n - 1) + 365)
/-- the seasons as the document has them -/
def q_ws (d s : Nat → Int32) (n : Nat) : Prop := n ≤ 12 ∧ (∀ i, i < n → 0 ≤ (d i).toInt ∧ (d i).toInt ≤ 364 ∧ 0 ≤ (s i).toInt ∧ (s i).toInt ≤ 1000) ∧ ∀ i, i + 1 < n → (d i).toInt < (d (i + 1)).toInt
theorem k365 : (365 : Int32).toInt = 365 := rfl
theorem q_ws.span {d s : Nat → Int32} {n k : Nat} (h : q_ws d s n) (hk : k < n) : 1 ≤ (d 0 - d k + 365).toInt := by
  have a := h.2.1 k hk
  have b := h.2.1 0 (by omega)
  have e : (d 0 - d k).toInt = (d 0).toInt - (d k).toInt := t_sub (by omega) (by omega)
  rw [t_add (by rw [e, k365]; omega) (by rw [e, k365]; omega), e, k365]; omega
theorem q_ws.span2 {d s : Nat → Int32} {n k : Nat} (h : q_ws d s n) (hk : k + 1 < n) : 1 ≤ (d (k + 1) - d k).toInt := by
  have a := h.2.1 k (by omega)
  have b := h.2.1 (k + 1) hk
  have c := h.2.2 k hk
  rw [t_sub (by omega) (by omega)]; omega
theorem g_line {Z : m_Z} {S : m_S} {a b s d : Int32} (h : 1 ≤ d.toInt) : f_X8_onLine Z S a b s d = some (q_line a b s d) := by
  have k1 : (1 : Int32).toInt = 1 := rfl
  have k0 : (0 : Int32).toInt = 0 := rfl
  unfold f_X8_onLine
  rw [if_pos (t_le.mpr (by rw [k1]; exact h)), m_gd_t (show ¬ d = 0 from fun q => by rw [t_eq, k0] at q; omega)]
  rfl
theorem e_line {Z : m_Z} {S : m_S} {a b s d : Int32} (h : 1 ≤ d.toInt) : f_X9_line Z S a b s d = some (q_line a b s d) := by
  have k0 : (0 : Int32).toInt = 0 := rfl
  unfold f_X9_line
  rw [m_gd_t (show ¬ d = 0 from fun q => by rw [t_eq, k0] at q; omega)]
  rfl
theorem g_sel {Z : m_Z} {S : m_S} {pb n : Nat} {day : Int32} (r3 : S.2.2 pb 3 = some (pb + 1)) (g1 : m_okn Z (pb + 1) 11 12) (n1 : 0 < n) (n12 : n ≤ 12) (j37 : Int32 → Option Int32) : ∀ (k i fuel f : Nat), k + i = n → k < fuel → f = (q_sel (S.1 (pb + 1)) day i).getD (n - 1) → m_fx (F_X5_setPointOf_26 Z S pb day (Int32.ofNat (n - 1)) j37) fuel (Int32.ofNat f, Int32.ofNat i) = j37 (Int32.ofNat ((q_sel (S.1 (pb + 1)) day n).getD (n - 1))) := by
  intro k
  induction k with
  | zero =>
    intro i fuel f h1 h2 h3
    obtain ⟨u, rfl⟩ : ∃ u, fuel = u + 1 := ⟨fuel - 1, by omega⟩
    have : i = n := by omega
    subst this
    rw [m_fx_s]
    unfold F_X5_setPointOf_26
    simp only []
    rw [if_pos ((io_lt (by omega) (by omega)).mpr (by omega)), h3]
  | succ k ih =>
    intro i fuel f h1 h2 h3
    obtain ⟨u, rfl⟩ : ∃ u, fuel = u + 1 := ⟨fuel - 1, by omega⟩
    rw [m_fx_s]
    generalize hlp : m_fx (F_X5_setPointOf_26 Z S pb day (Int32.ofNat (n - 1)) j37) u = lp
    unfold F_X5_setPointOf_26
    simp only []
    rw [if_neg (fun h => absurd ((io_lt (by omega) (by omega)).mp h) (by omega)), r3, m_b1_s, m_gd_t g1.1, m_gd_t (q_inn g1 (by omega) (by omega)), io_one, ← hlp]
    simp only [io_tn (show i < 2147483648 by omega), m_lt_s]
    by_cases q : S.1 (pb + 1) i ≤ day
    · rw [if_neg (Int32.not_lt.mpr q)]
      exact ih (i + 1) u i (by omega) (by omega) (by unfold q_sel; rw [if_pos q]; rfl)
    · rw [if_pos (Int32.not_le.mp q)]
      exact ih (i + 1) u f (by omega) (by omega) (by unfold q_sel; rw [if_neg q]; exact h3)
