/-- the draft cleared -/
theorem g_clear {Z : m_Z} {pd : Nat} {S : m_S} (o5 : m_ok Z pd 5) (rd : S.2.2 pd 5 = some (pd + 3)) (od : m_okn Z (pd + 3) 11 24) : ∃ S', f_X5_clear Z S pd = some ((), S') ∧ (S'.1 pd 0 = 0 ∧ S'.1 pd 1 = 0 ∧ S'.1 pd 2 = 0 ∧ S'.1 pd 6 = 0 ∧ S'.1 pd 8 = 0 ∧ S'.1 pd 10 = 0) ∧ (∀ j, j < 24 → S'.1 (pd + 3) j = 0) ∧ q_ag (fun b _ => ¬ b = pd ∧ ¬ b = pd + 3) S S' ∧ S'.2 = S.2 := by
  obtain ⟨S1, hS1⟩ : ∃ y, y = m_pI (m_pI (m_pI (m_pI (m_pI (m_pI S pd 0 0) pd 1 0) pd 2 0) pd 6 0) pd 8 0) pd 10 0 := ⟨_, rfl⟩
  have a1 : q_ag (fun b _ => ¬ b = pd) S S1 := by
    rw [hS1]
    exact q_ag_I (q_ag_I (q_ag_I (q_ag_I (q_ag_I (q_ag_I (q_ag_refl _ _) (by omega)) (by omega)) (by omega)) (by omega)) (by omega)) (by omega)
  have r1 : S1.2 = S.2 := by rw [hS1]; rfl
  have z : S1.1 pd 0 = 0 ∧ S1.1 pd 1 = 0 ∧ S1.1 pd 2 = 0 ∧ S1.1 pd 6 = 0 ∧ S1.1 pd 8 = 0 ∧ S1.1 pd 10 = 0 := by
    rw [hS1]
    refine ⟨?_, ?_, ?_, ?_, ?_, ?_⟩
    · rw [pI_ne (by omega), pI_ne (by omega), pI_ne (by omega), pI_ne (by omega), pI_ne (by omega), pI_same]
    · rw [pI_ne (by omega), pI_ne (by omega), pI_ne (by omega), pI_ne (by omega), pI_same]
    · rw [pI_ne (by omega), pI_ne (by omega), pI_ne (by omega), pI_same]
    · rw [pI_ne (by omega), pI_ne (by omega), pI_same]
    · rw [pI_ne (by omega), pI_same]
    · rw [pI_same]
  have key : ∀ (d i f : Nat) (U : m_S), d + i = 24 → d < f → U.2 = S.2 → (∀ j, j < i → U.1 (pd + 3) j = 0) → ∃ U', (∀ j15, m_fx (F_X5_clear_32 Z pd j15) f (Int32.ofNat i, U) = j15 U') ∧ (∀ j, j < 24 → U'.1 (pd + 3) j = 0) ∧ q_ag (fun b _ => ¬ b = pd + 3) U U' ∧ U'.2 = U.2 := by
    intro d
    induction d with
    | zero =>
      intro i f U h1 h2 hr h0
      obtain ⟨f, rfl⟩ : ∃ g, f = g + 1 := ⟨f - 1, by omega⟩
      refine ⟨U, fun j => ?_, fun j hj => h0 j (by omega), q_ag_refl _ _, rfl⟩
      rw [m_fx_s]
      unfold F_X5_clear_32
      simp only []
      rw [hr, rd, m_b1_s, m_gd_t od.1, od.2, if_pos ((io_le (by omega) (by omega)).mpr (by omega))]
    | succ d ih =>
      intro i f U h1 h2 hr h0
      obtain ⟨f, rfl⟩ : ∃ g, f = g + 1 := ⟨f - 1, by omega⟩
      obtain ⟨U1, hU1⟩ : ∃ y, y = m_pI U (pd + 3) i 0 := ⟨_, rfl⟩
      obtain ⟨U', e1, e2, e3, e4⟩ := ih (i + 1) f U1 (by omega) (by omega) (by rw [hU1]; exact hr) (fun j hj => by
        by_cases q : j = i
        · rw [hU1, q, pI_same]
        · rw [hU1, pI_ne (by omega)]; exact h0 j (by omega))
      refine ⟨U', fun j => ?_, e2, q_ag_trans (by rw [hU1]; exact q_ag_I (q_ag_refl _ _) (by omega)) e3, by rw [e4, hU1]; rfl⟩
      have e1' := e1 j
      rw [m_fx_s]
      generalize m_fx (F_X5_clear_32 Z pd j) f = lp at *
      unfold F_X5_clear_32
      simp only []
      rw [hr, rd, m_b1_s, m_gd_t od.1, od.2, if_neg (fun z => absurd ((io_le (by omega) (by omega)).mp z) (by omega)), m_gd_t (io_in (by omega) (by omega)), show m_pI U (pd + 3) (Int32.ofNat i).toNatClampNeg 0 = U1 by rw [io_tn (by omega), hU1], m_lt_s, io_one, m_lt_s]
      exact e1'
  obtain ⟨S', e1, e2, e3, e4⟩ := key 24 0 100000 S1 (by omega) (by omega) r1 (fun j hj => absurd hj (Nat.not_lt_zero _))
  refine ⟨S', ?_, ?_, e2, q_ag_trans (q_ag_sub a1 (fun b k hb => hb.1)) (q_ag_sub e3 (fun b k hb => hb.2)), e4.trans r1⟩
  · unfold f_X5_clear
    rw [m_gd_t o5, m_lt_s, m_lt_s, m_lt_s, m_lt_s, m_lt_s, m_lt_s, ← hS1, m_jp_s]
    exact e1 _
  · have c : ∀ j, S'.1 pd j = S1.1 pd j := fun j => (e3 pd j (by omega)).1
    rw [c, c, c, c, c, c]; exact z
