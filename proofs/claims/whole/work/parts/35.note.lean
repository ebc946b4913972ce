/-! the logbook -/
theorem k24 : (24 : Int32).toInt = 24 := rfl
theorem io_div24 {t : Nat} (h : t < 2147483648) : Int32.ofNat t / (24 : Int32) = Int32.ofNat (t / 24) := by
  rw [t_eq, t_div (by rw [k24]; decide), t_ofNat h, k24, t_ofNat (by omega), d_pos (by omega)]
  omega
theorem io_mod24 {t : Nat} (h : t < 2147483648) : Int32.ofNat t - Int32.ofNat t / (24 : Int32) * (24 : Int32) = Int32.ofNat (t % 24) := by
  rw [io_div24 h]
  show Int32.ofNat t - Int32.ofNat (t / 24) * Int32.ofNat 24 = _
  rw [io_mul, io_sub (by omega)]
  exact congrArg _ (by omega)
def q_G (Z : m_Z) (R : Nat → Nat → Option Nat) (l : Nat) : Prop := m_ok Z l 2 ∧ R l 8 = some (l + 1) ∧ m_okn Z (l + 1) 11 24
def q_log (S : m_S) (l : Nat) (a : Nat → Int32) (b : Nat → Int64) (c t : Nat) : Prop := (S.2.1 l 0 = b (5 * c + 1) ∧ S.2.1 l 1 = b (5 * c + 2) ∧ S.2.1 l 2 = b (5 * c + 3) ∧ S.2.1 l 3 = b (5 * c + 4) ∧ S.2.1 l 7 = b (5 * c)) ∧ S.1 l 4 = a (9 + 56 * c) ∧ S.1 l 5 = a (10 + 56 * c) ∧ S.1 l 6 = a (11 + 56 * c) ∧ ∀ j, j < 24 → j < t → S.1 (l + 1) j = a (36 + 56 * c + j)
theorem m_jp_i {α β γ : Type} {k : α → β} {b : (α → β) → γ} {r : γ} (h : ∀ j : α → β, (∀ v, j v = k v) → b j = r) : m_jp k b = r := h k (fun _ => rfl)
def q_low (w hv : Int32) : Int32 := if w = (-1 : Int32) then hv else if w ≤ hv then w else hv
def q_high (w hv : Int32) : Int32 := if hv ≤ w then w else hv
theorem g_note {Z : m_Z} {S : m_S} {l t : Nat} {hv u : Int32} (g : q_G Z S.2.2 l) (ht : t < 2147483648) : f_X2_note Z S l (Int32.ofNat t) hv u = some ((), m_pI (m_pI (m_pI (m_pJ (m_pI S (l + 1) (t % 24) hv) l 7 (S.2.1 l 7 + hv.toInt64)) l 5 (q_low (S.1 l 5) hv)) l 6 (q_high (S.1 l 6) hv)) l 4 (S.1 l 4 + if u = 0 then 0 else 1)) := by
  have h0 : ¬ Int32.ofNat t < 0 := fun h => absurd ((io_lt (b := 0) ht (by omega)).mp h) (by omega)
  unfold f_X2_note
  rw [m_jp_s, if_neg h0, m_gd_t g.1, g.2.1, m_b1_s, m_gd_t g.2.2.1, io_mod24 ht, m_gd_t (q_inn g.2.2 (by omega) (by omega)), io_tn (by omega), m_lt_s]
  show m_gd (m_ok Z l 2) _ = _
  rw [m_gd_t g.1, m_lt_s]
  generalize hS1 : m_pI S (l + 1) (t % 24) hv = S1
  have r7 : S1.2.1 l 7 = S.2.1 l 7 := by rw [← hS1]; rfl
  have r5 : S1.1 l 5 = S.1 l 5 := by rw [← hS1]; exact pI_ne (by omega)
  have r6 : S1.1 l 6 = S.1 l 6 := by rw [← hS1]; exact pI_ne (by omega)
  have r4 : S1.1 l 4 = S.1 l 4 := by rw [← hS1]; exact pI_ne (by omega)
  rw [r7]
  generalize hS2 : m_pJ S1 l 7 (S.2.1 l 7 + hv.toInt64) = S2
  have s5 : S2.1 l 5 = S.1 l 5 := by rw [← hS2]; exact r5
  have s6 : S2.1 l 6 = S.1 l 6 := by rw [← hS2]; exact r6
  have s4 : S2.1 l 4 = S.1 l 4 := by rw [← hS2]; exact r4
  refine m_jp_i (fun j6 e6 => ?_)
  rw [m_jp_s]
  have key : (if S2.1 l 5 = (-1 : Int32) then j6 hv else if S2.1 l 5 ≤ hv then j6 (S2.1 l 5) else j6 hv) = j6 (q_low (S.1 l 5) hv) := by
    rw [s5]
    unfold q_low
    by_cases q : S.1 l 5 = (-1 : Int32)
    · rw [if_pos q, if_pos q]
    · rw [if_neg q, if_neg q]
      by_cases q2 : S.1 l 5 ≤ hv
      · rw [if_pos q2, if_pos q2]
      · rw [if_neg q2, if_neg q2]
  refine key.trans ?_
  rw [e6, m_lt_s]
  generalize hS3 : m_pI S2 l 5 (q_low (S.1 l 5) hv) = S3
  have v6 : S3.1 l 6 = S.1 l 6 := by rw [← hS3]; exact (pI_ne (by omega)).trans s6
  have v4 : S3.1 l 4 = S.1 l 4 := by rw [← hS3]; exact (pI_ne (by omega)).trans s4
  refine m_jp_i (fun j10 e10 => ?_)
  have key2 : (if hv ≤ S3.1 l 6 then j10 (S3.1 l 6) else j10 hv) = j10 (q_high (S.1 l 6) hv) := by
    rw [v6]
    unfold q_high
    by_cases q : hv ≤ S.1 l 6
    · rw [if_pos q, if_pos q]
    · rw [if_neg q, if_neg q]
  refine key2.trans ?_
  rw [e10, m_lt_s]
  generalize hS4 : m_pI S3 l 6 (q_high (S.1 l 6) hv) = S4
  have w4 : S4.1 l 4 = S.1 l 4 := by rw [← hS4]; exact (pI_ne (by omega)).trans v4
  by_cases q : u = 0
  · rw [if_pos q, if_pos q, m_lt_s, w4]
  · rw [if_neg q, if_neg q, m_lt_s, w4]
theorem g_unsafe {Z : m_Z} {S : m_S} {v : Nat} (g : m_ok Z v 7) (h : 100 ≤ (S.1 v 0).toInt) : f_X7_isUnsafe Z S v = some (if ((1000 : Int32) * S.1 v 4) / S.1 v 0 < S.1 v 2 then 1 else if ((1000 : Int32) * S.1 v 4) / S.1 v 0 ≤ S.1 v 3 then 0 else 1) := by
  unfold f_X7_isUnsafe
  rw [m_gd_t g, g_hum g h, m_b1_s]
  split
  · rfl
  · split <;> rfl
