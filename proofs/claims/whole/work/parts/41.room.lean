theorem q_sel_congr {d d' : Nat → Int32} {day : Int32} : ∀ {n : Nat}, (∀ i, i < n → d i = d' i) → q_sel d day n = q_sel d' day n
  | 0, _ => rfl
  | n + 1, h => by
    unfold q_sel
    rw [h n (Nat.lt_succ_self _), q_sel_congr (n := n) (fun i hi => h i (by omega))]
theorem q_set_congr {d s d' s' : Nat → Int32} {n : Nat} {day : Int32} (h : ∀ i, i < n → d i = d' i ∧ s i = s' i) : q_set d s n day = q_set d' s' n day := by
  unfold q_set
  by_cases n0 : n = 0
  · rw [if_pos n0, if_pos n0]
  · rw [if_neg n0, if_neg n0, q_sel_congr (d' := d') (fun i hi => (h i hi).1)]
    cases hq : q_sel d' day n with
    | none => show q_line _ _ _ _ = q_line _ _ _ _; rw [(h (n - 1) (by omega)).1, (h (n - 1) (by omega)).2, (h 0 (by omega)).1, (h 0 (by omega)).2]
    | some k =>
      have hk := (q_sel_some hq).1
      show (if _ then _ else _) = (if _ then _ else _)
      by_cases q : k = n - 1
      · rw [if_pos q, if_pos q, (h k hk).1, (h k hk).2, (h 0 (by omega)).1, (h 0 (by omega)).2]
      · rw [if_neg q, if_neg q, (h k hk).1, (h k hk).2, (h (k + 1) (by omega)).1, (h (k + 1) (by omega)).2]
/-- a setup at pb tells what row p tells: ns seasons, nk kinds, nc cases -/
def q_set9 (Z : m_Z) (pb ns nk nc : Nat) (S : m_S) (p : Nat → Int32) : Prop := (m_ok Z pb 5 ∧ (S.2.2 pb 3 = some (pb + 1) ∧ m_okn Z (pb + 1) 11 12) ∧ (S.2.2 pb 4 = some (pb + 2) ∧ m_okn Z (pb + 2) 11 12) ∧ S.2.2 pb 5 = some (pb + 3) ∧ m_okn Z (pb + 3) 11 24) ∧ (S.1 pb 0 = p 0 ∧ S.1 pb 1 = p 1 ∧ S.1 pb 2 = Int32.ofNat ns ∧ p 2 = Int32.ofNat ns ∧ S.1 pb 6 = Int32.ofNat nk ∧ p 4 = Int32.ofNat nk ∧ S.1 pb 8 = Int32.ofNat nc ∧ p 5 = Int32.ofNat nc) ∧ (∀ i, i < ns → S.1 (pb + 1) i = q_d p i ∧ S.1 (pb + 2) i = q_s p i) ∧ (∀ i, i < 24 → S.1 (pb + 3) i = p (30 + i)) ∧ q_ws (q_d p) (q_s p) ns ∧ nk ≤ 4 ∧ nc ≤ 6
theorem q_ws_congr {d s d' s' : Nat → Int32} {n : Nat} (h : ∀ i, i < n → d i = d' i ∧ s i = s' i) (hw : q_ws d' s' n) : q_ws d s n := by
  refine ⟨hw.1, fun i hi => ?_, fun i hi => ?_⟩
  · rw [(h i hi).1, (h i hi).2]; exact hw.2.1 i hi
  · rw [(h i (by omega)).1, (h (i + 1) hi).1]; exact hw.2.2 i hi
theorem g_setp {Z : m_Z} {pb ns nk nc : Nat} {S : m_S} {p : Nat → Int32} {day : Int32} (h : q_set9 Z pb ns nk nc S p) : f_X5_setPointOf Z S pb day = some (q_set (q_d p) (q_s p) ns day) := by
  rw [g_set h.1.1 h.1.2.1.1 h.1.2.1.2 h.1.2.2.1.1 h.1.2.2.1.2 h.2.1.2.2.1 (q_ws_congr h.2.2.1 h.2.2.2.2.1), q_set_congr h.2.2.1]
/-- the room's humidity -/
def q_rm (p : Nat → Int32) (ns : Nat) (time excess : Int32) : Int32 := if 0 ≤ q_set (q_d p) (q_s p) ns (time / (24 : Int32) - time / (24 : Int32) / (365 : Int32) * (365 : Int32)) + excess then (if q_set (q_d p) (q_s p) ns (time / (24 : Int32) - time / (24 : Int32) / (365 : Int32) * (365 : Int32)) + excess ≤ (1000 : Int32) then q_set (q_d p) (q_s p) ns (time / (24 : Int32) - time / (24 : Int32) / (365 : Int32) * (365 : Int32)) + excess else 1000) else 0
theorem q_rm_t (p : Nat → Int32) (ns : Nat) (time excess : Int32) : 0 ≤ (q_rm p ns time excess).toInt ∧ (q_rm p ns time excess).toInt ≤ 1000 := by
  have k0 : (0 : Int32).toInt = 0 := rfl
  unfold q_rm
  generalize q_set (q_d p) (q_s p) ns (time / (24 : Int32) - time / (24 : Int32) / (365 : Int32) * (365 : Int32)) + excess = x
  by_cases q : 0 ≤ x
  · rw [if_pos q]
    by_cases q2 : x ≤ 1000
    · rw [if_pos q2]; rw [t_le, k0] at q; rw [t_le, k1000] at q2; exact ⟨q, q2⟩
    · rw [if_neg q2, k1000]; decide
  · rw [if_neg q, k0]; decide
theorem g_room {Z : m_Z} {pb ns nk nc r : Nat} {S : m_S} {p : Nat → Int32} (h : q_set9 Z pb ns nk nc S p) (g : m_ok Z r 4) : f_X4_humidity Z S r pb = some (q_rm p ns (S.1 r 0) (S.1 r 1)) := by
  unfold f_X4_humidity f_X4_day q_rm
  rw [m_gd_t g, m_gd_t g, m_b1_s, m_gd_t h.1.1, g_setp h, m_b1_s, m_lt_s]
  split
  · split <;> rfl
  · rfl
theorem e_room {Z : m_Z} {S : m_S} {m n : Nat} (h : q_M Z S.2.2 m) (hn : S.1 (m + 1) 2 = Int32.ofNat n) (hw : q_ws (q_d (S.1 (m + 1))) (q_s (S.1 (m + 1))) n) : f_X9_roomNow Z S m = some (q_rm (S.1 (m + 1)) n (S.1 (m + 3) 0) (S.1 (m + 3) 1)) := by
  have z0 : (0 : Int32).toNatClampNeg = 0 := rfl
  have z1 : (1 : Int32).toNatClampNeg = 1 := rfl
  unfold f_X9_roomNow q_rm
  rw [m_gd_t h.o, h.a.1, m_b1_s, m_gd_t h.a.2.1, m_gd_t (show m_in 0 (Z.2.2 (m + 3)) from q_inn (i := 0) h.a.2 (by omega) (by omega)), z0, e_set h hn hw, m_b1_s, m_gd_t (show m_in 1 (Z.2.2 (m + 3)) from q_inn (i := 1) h.a.2 (by omega) (by omega)), z1, m_lt_s]
  split
  · split <;> rfl
  · rfl
