/-! the reference's tokens -/
def q_nm (B : Nat → Int32) (st : Nat) : Nat → Int64
  | 0 => 0
  | i + 1 => (27 * q_nm B st i + (B (st + i)).toInt64) - 96
def q_vl (B : Nat → Int32) (st : Nat) : Nat → Int32
  | 0 => 0
  | i + 1 => (10 * q_vl B st i + B (st + i)) - 48
def q_min (a b : Nat) : Nat := if a ≤ b then a else b
theorem q_min_l {a b : Nat} (h : a ≤ b) : q_min a b = a := if_pos h
theorem q_min_r {a b : Nat} (h : b ≤ a) : q_min a b = b := by unfold q_min; split <;> omega
theorem e_bl {Z : m_Z} {m n : Nat} {B : Nat → Int32} : ∀ (d i f : Nat) (T : m_S), d + i = n → d < f → T.1 m 14 = Int32.ofNat i → q_txm Z m n B T → ∃ T', (∀ j, m_fx (F_X9_token_0 Z m j) f T = j T') ∧ T'.1 m 14 = Int32.ofNat (q_scan (fun j => q_isB (B j)) d i) ∧ q_ag (fun b k => ¬ (b = m ∧ k = 14)) T T' ∧ T'.2 = T.2 := by
  intro d
  induction d with
  | zero =>
    intro i f T h1 h2 h6 h
    obtain ⟨f, rfl⟩ : ∃ g, f = g + 1 := ⟨f - 1, by omega⟩
    have n9 := h.1
    refine ⟨T, fun j => ?_, h6, q_ag_refl _ _, rfl⟩
    have ea := e_at h i (by omega)
    rw [if_neg (by omega)] at ea
    rw [m_fx_s]
    unfold F_X9_token_0
    rw [m_gd_t h.2.1.o, h6, ea, m_b1_s, if_neg (show ¬ (-1 : Int32) = 10 by decide), m_b1_s, if_pos (show ¬ (-1 : Int32) = 32 by decide)]
  | succ d ih =>
    intro i f T h1 h2 h6 h
    obtain ⟨f, rfl⟩ : ∃ g, f = g + 1 := ⟨f - 1, by omega⟩
    have n9 := h.1
    have ea := e_at h i (by omega)
    rw [if_pos (by omega)] at ea
    have k10 : B i = 10 ↔ (B i).toInt = 10 := t_eq
    have k32 : B i = 32 ↔ (B i).toInt = 32 := t_eq
    by_cases q : q_isB (B i) = true
    · obtain ⟨T1, hT1⟩ : ∃ y, y = m_pI T m 14 (Int32.ofNat (i + 1)) := ⟨_, rfl⟩
      have a1 : q_ag (fun b k => ¬ (b = m ∧ k = 14)) T T1 := by rw [hT1]; exact q_ag_I (q_ag_refl _ _) (by omega)
      obtain ⟨T', e1, e2, e3, e4⟩ := ih (i + 1) f T1 (by omega) (by omega) (by rw [hT1]; exact pI_same _ _ _ _) (q_txm_ag h (q_ag_sub a1 (fun b k hb => by omega)) (by rw [hT1]; exact h.2.1))
      refine ⟨T', fun j => ?_, by rw [e2, q_scan_s _ _ _ q], q_ag_trans a1 e3, by rw [e4, hT1]; rfl⟩
      have e1' := e1 j
      rw [m_fx_s]
      generalize m_fx (F_X9_token_0 Z m j) f = lp at *
      unfold F_X9_token_0
      rw [m_gd_t h.2.1.o, h6, ea, m_b1_s, m_b1_s]
      by_cases q1 : B i = 10
      · rw [if_pos q1, m_lt_s, io_one, ← hT1]; exact e1'
      · have q2 : B i = 32 := k32.mpr (by have := q_isB_t.mp q; have : ¬ (B i).toInt = 10 := fun z => q1 (k10.mpr z); omega)
        rw [if_neg q1, if_neg (fun z => z q2), m_lt_s, io_one, ← hT1]; exact e1'
    · refine ⟨T, fun j => ?_, by rw [q_scan_n _ _ _ q]; exact h6, q_ag_refl _ _, rfl⟩
      rw [m_fx_s]
      unfold F_X9_token_0
      rw [m_gd_t h.2.1.o, h6, ea, m_b1_s, m_b1_s, if_neg (fun z => q (q_isB_t.mpr (Or.inl (k10.mp z)))), if_pos (fun z => q (q_isB_t.mpr (Or.inr (k32.mp z))))]
/-- a word's letters: the first eight make its name -/
theorem e_word {Z : m_Z} {m n st : Nat} {B : Nat → Int32} : ∀ (d i f : Nat) (T : m_S), d + i = n → d < f → st ≤ i → T.1 m 14 = Int32.ofNat i → T.1 m 15 = Int32.ofNat st → T.2.1 m 20 = q_nm B st (q_min (i - st) 8) → q_txm Z m n B T → ∃ T', (∀ j, m_fx (F_X9_token_81 Z m j) f T = j T') ∧ T'.1 m 14 = Int32.ofNat (q_scan (fun j => q_isL (B j)) d i) ∧ T'.2.1 m 20 = q_nm B st (q_min (q_scan (fun j => q_isL (B j)) d i - st) 8) ∧ q_ag (fun b k => ¬ (b = m ∧ (k = 14 ∨ k = 20))) T T' ∧ T'.2.2 = T.2.2 := by
  have nL : ¬ q_isL (-1) = true := by decide +kernel
  intro d
  induction d with
  | zero =>
    intro i f T h1 h2 h3 h6 h5 hn h
    obtain ⟨f, rfl⟩ : ∃ g, f = g + 1 := ⟨f - 1, by omega⟩
    have n9 := h.1
    refine ⟨T, fun j => ?_, h6, hn, q_ag_refl _ _, rfl⟩
    have ea := e_at h i (by omega)
    rw [if_neg (by omega)] at ea
    rw [m_fx_s]
    unfold F_X9_token_81
    rw [h6, ea, m_b1_s, e_isL, m_b1_s, if_neg nL, if_pos z00]
  | succ d ih =>
    intro i f T h1 h2 h3 h6 h5 hn h
    obtain ⟨f, rfl⟩ : ∃ g, f = g + 1 := ⟨f - 1, by omega⟩
    have n9 := h.1
    have ea := e_at h i (by omega)
    rw [if_pos (by omega)] at ea
    by_cases q : q_isL (B i) = true
    · by_cases q8 : 8 ≤ i - st
      · obtain ⟨T1, hT1⟩ : ∃ y, y = m_pI T m 14 (Int32.ofNat (i + 1)) := ⟨_, rfl⟩
        have a1 : q_ag (fun b k => ¬ (b = m ∧ (k = 14 ∨ k = 20))) T T1 := by rw [hT1]; exact q_ag_I (q_ag_refl _ _) (by omega)
        obtain ⟨T', e1, e2, e3, e4, e5⟩ := ih (i + 1) f T1 (by omega) (by omega) (by omega) (by rw [hT1]; exact pI_same _ _ _ _) (by rw [(a1 _ _ (by omega)).1]; exact h5) (by rw [hT1]; show T.2.1 m 20 = _; rw [hn, q_min_r q8, q_min_r (by omega)]) (q_txm_ag h (q_ag_sub a1 (fun b k hb => by omega)) (by rw [hT1]; exact h.2.1))
        refine ⟨T', fun j => ?_, by rw [e2, q_scan_s _ _ _ q], by rw [e3, q_scan_s _ _ _ q], q_ag_trans a1 e4, by rw [e5, hT1]; rfl⟩
        have e1' := e1 j
        rw [m_fx_s]
        generalize m_fx (F_X9_token_81 Z m j) f = lp at *
        unfold F_X9_token_81
        rw [h6, ea, m_b1_s, e_isL, m_b1_s, if_pos q, if_neg z10, h5, io_sub h3, if_pos (show (8 : Int32) ≤ Int32.ofNat (i - st) from (io_le (a := 8) (by omega) (by omega)).mpr q8), m_lt_s, io_one, ← hT1]
        exact e1'
      · obtain ⟨T0, hT0⟩ : ∃ y, y = m_pJ T m 20 ((27 * T.2.1 m 20 + (B i).toInt64) - 96) := ⟨_, rfl⟩
        obtain ⟨T1, hT1⟩ : ∃ y, y = m_pI T0 m 14 (Int32.ofNat (i + 1)) := ⟨_, rfl⟩
        have a0 : q_ag (fun b k => ¬ (b = m ∧ (k = 14 ∨ k = 20))) T T0 := by rw [hT0]; exact q_ag_J (q_ag_refl _ _) (by omega)
        have a1 : q_ag (fun b k => ¬ (b = m ∧ (k = 14 ∨ k = 20))) T T1 := by rw [hT1]; exact q_ag_I a0 (by omega)
        obtain ⟨T', e1, e2, e3, e4, e5⟩ := ih (i + 1) f T1 (by omega) (by omega) (by omega) (by rw [hT1]; exact pI_same _ _ _ _) (by rw [(a1 _ _ (by omega)).1]; exact h5) (by
          rw [hT1, hT0]
          refine (pJ_same _ _ _ _).trans ?_
          rw [hn, q_min_l (by omega), q_min_l (by omega), show i + 1 - st = (i - st) + 1 by omega]
          show _ = (27 * q_nm B st (i - st) + (B (st + (i - st))).toInt64) - 96
          rw [show st + (i - st) = i by omega]) (q_txm_ag h (q_ag_sub a1 (fun b k hb => by omega)) (by rw [hT1, hT0]; exact h.2.1))
        refine ⟨T', fun j => ?_, by rw [e2, q_scan_s _ _ _ q], by rw [e3, q_scan_s _ _ _ q], q_ag_trans a1 e4, by rw [e5, hT1, hT0]; rfl⟩
        have e1' := e1 j
        have h60 : T0.1 m 14 = Int32.ofNat i := by rw [hT0]; exact h6
        rw [m_fx_s]
        generalize m_fx (F_X9_token_81 Z m j) f = lp at *
        unfold F_X9_token_81
        rw [h6, ea, m_b1_s, e_isL, m_b1_s, if_pos q, if_neg z10, h5, io_sub h3, if_neg (show ¬ (8 : Int32) ≤ Int32.ofNat (i - st) from fun z => q8 ((io_le (a := 8) (by omega) (by omega)).mp z)), m_b1_s, m_lt_s, ← hT0, h60, io_one, m_lt_s, ← hT1]
        exact e1'
    · refine ⟨T, fun j => ?_, by rw [q_scan_n _ _ _ q]; exact h6, by rw [q_scan_n _ _ _ q]; exact hn, q_ag_refl _ _, rfl⟩
      rw [m_fx_s]
      unfold F_X9_token_81
      rw [h6, ea, m_b1_s, e_isL, m_b1_s, if_neg q, if_pos z00]
/-- a number's digits: the first four make it -/
theorem e_num {Z : m_Z} {m n st : Nat} {B : Nat → Int32} : ∀ (d i f : Nat) (T : m_S), d + i = n → d < f → st ≤ i → T.1 m 14 = Int32.ofNat i → T.1 m 15 = Int32.ofNat st → T.1 m 17 = q_vl B st (q_min (i - st) 4) → q_txm Z m n B T → ∃ T', (∀ j, m_fx (F_X9_token_168 Z m j) f T = j T') ∧ T'.1 m 14 = Int32.ofNat (q_scan (fun j => q_isD (B j)) d i) ∧ T'.1 m 17 = q_vl B st (q_min (q_scan (fun j => q_isD (B j)) d i - st) 4) ∧ q_ag (fun b k => ¬ (b = m ∧ (k = 14 ∨ k = 17))) T T' ∧ T'.2 = T.2 := by
  have nD : ¬ q_isD (-1) = true := by decide +kernel
  intro d
  induction d with
  | zero =>
    intro i f T h1 h2 h3 h6 h5 hn h
    obtain ⟨f, rfl⟩ : ∃ g, f = g + 1 := ⟨f - 1, by omega⟩
    have n9 := h.1
    refine ⟨T, fun j => ?_, h6, hn, q_ag_refl _ _, rfl⟩
    have ea := e_at h i (by omega)
    rw [if_neg (by omega)] at ea
    rw [m_fx_s]
    unfold F_X9_token_168
    rw [h6, ea, m_b1_s, e_isD, m_b1_s, if_neg nD, if_pos z00]
  | succ d ih =>
    intro i f T h1 h2 h3 h6 h5 hn h
    obtain ⟨f, rfl⟩ : ∃ g, f = g + 1 := ⟨f - 1, by omega⟩
    have n9 := h.1
    have ea := e_at h i (by omega)
    rw [if_pos (by omega)] at ea
    by_cases q : q_isD (B i) = true
    · by_cases q8 : 4 ≤ i - st
      · obtain ⟨T1, hT1⟩ : ∃ y, y = m_pI T m 14 (Int32.ofNat (i + 1)) := ⟨_, rfl⟩
        have a1 : q_ag (fun b k => ¬ (b = m ∧ (k = 14 ∨ k = 17))) T T1 := by rw [hT1]; exact q_ag_I (q_ag_refl _ _) (by omega)
        obtain ⟨T', e1, e2, e3, e4, e5⟩ := ih (i + 1) f T1 (by omega) (by omega) (by omega) (by rw [hT1]; exact pI_same _ _ _ _) (by rw [(a1 _ _ (by omega)).1]; exact h5) (by rw [hT1, pI_ne (by omega), hn, q_min_r q8, q_min_r (by omega)]) (q_txm_ag h (q_ag_sub a1 (fun b k hb => by omega)) (by rw [hT1]; exact h.2.1))
        refine ⟨T', fun j => ?_, by rw [e2, q_scan_s _ _ _ q], by rw [e3, q_scan_s _ _ _ q], q_ag_trans a1 e4, by rw [e5, hT1]; rfl⟩
        have e1' := e1 j
        rw [m_fx_s]
        generalize m_fx (F_X9_token_168 Z m j) f = lp at *
        unfold F_X9_token_168
        rw [h6, ea, m_b1_s, e_isD, m_b1_s, if_pos q, if_neg z10, h5, io_sub h3, if_pos (show (4 : Int32) ≤ Int32.ofNat (i - st) from (io_le (a := 4) (by omega) (by omega)).mpr q8), m_lt_s, io_one, ← hT1]
        exact e1'
      · obtain ⟨T0, hT0⟩ : ∃ y, y = m_pI T m 17 ((10 * T.1 m 17 + B i) - 48) := ⟨_, rfl⟩
        obtain ⟨T1, hT1⟩ : ∃ y, y = m_pI T0 m 14 (Int32.ofNat (i + 1)) := ⟨_, rfl⟩
        have a0 : q_ag (fun b k => ¬ (b = m ∧ (k = 14 ∨ k = 17))) T T0 := by rw [hT0]; exact q_ag_I (q_ag_refl _ _) (by omega)
        have a1 : q_ag (fun b k => ¬ (b = m ∧ (k = 14 ∨ k = 17))) T T1 := by rw [hT1]; exact q_ag_I a0 (by omega)
        obtain ⟨T', e1, e2, e3, e4, e5⟩ := ih (i + 1) f T1 (by omega) (by omega) (by omega) (by rw [hT1]; exact pI_same _ _ _ _) (by rw [(a1 _ _ (by omega)).1]; exact h5) (by
          rw [hT1, hT0, pI_ne (by omega), pI_same, hn, q_min_l (by omega), q_min_l (by omega), show i + 1 - st = (i - st) + 1 by omega]
          show _ = (10 * q_vl B st (i - st) + B (st + (i - st))) - 48
          rw [show st + (i - st) = i by omega]) (q_txm_ag h (q_ag_sub a1 (fun b k hb => by omega)) (by rw [hT1, hT0]; exact h.2.1))
        refine ⟨T', fun j => ?_, by rw [e2, q_scan_s _ _ _ q], by rw [e3, q_scan_s _ _ _ q], q_ag_trans a1 e4, by rw [e5, hT1, hT0]; rfl⟩
        have e1' := e1 j
        have h60 : T0.1 m 14 = Int32.ofNat i := by rw [hT0, pI_ne (by omega)]; exact h6
        rw [m_fx_s]
        generalize m_fx (F_X9_token_168 Z m j) f = lp at *
        unfold F_X9_token_168
        rw [h6, ea, m_b1_s, e_isD, m_b1_s, if_pos q, if_neg z10, h5, io_sub h3, if_neg (show ¬ (4 : Int32) ≤ Int32.ofNat (i - st) from fun z => q8 ((io_le (a := 4) (by omega) (by omega)).mp z)), m_b1_s, m_lt_s, ← hT0, h60, io_one, m_lt_s, ← hT1]
        exact e1'
    · refine ⟨T, fun j => ?_, by rw [q_scan_n _ _ _ q]; exact h6, by rw [q_scan_n _ _ _ q]; exact hn, q_ag_refl _ _, rfl⟩
      rw [m_fx_s]
      unfold F_X9_token_168
      rw [h6, ea, m_b1_s, e_isD, m_b1_s, if_neg q, if_pos z00]
/-- the class's value of a number -/
theorem g_value {Z : m_Z} {x n st en : Nat} {B : Nat → Int32} (hen : en ≤ n) (hD : ∀ j, st ≤ j → j < en → q_isD (B j) = true) : ∀ (d i f : Nat) (S : m_S), d + i = en → d < f → st ≤ i → S.1 (x + 1) 6 = Int32.ofNat en → S.1 (x + 1) 7 = q_vl B st (i - st) → q_txc Z x n B S → ∃ S', (∀ j, m_fx (F_X3_readValue_24 Z (x + 1) j) f (Int32.ofNat i, S) = j S') ∧ S'.1 (x + 1) 7 = q_vl B st (en - st) ∧ q_ag (fun b k => ¬ (b = x + 1 ∧ k = 7)) S S' ∧ S'.2 = S.2 := by
  intro d
  induction d with
  | zero =>
    intro i f S h1 h2 h3 h6 h7 h
    obtain ⟨f, rfl⟩ : ∃ g, f = g + 1 := ⟨f - 1, by omega⟩
    have n9 := h.1
    have : i = en := by omega
    subst this
    refine ⟨S, fun j => ?_, h7, q_ag_refl _ _, rfl⟩
    rw [m_fx_s]
    unfold F_X3_readValue_24
    simp only []
    rw [if_pos (show S.1 (x + 1) 6 ≤ Int32.ofNat i from by rw [h6]; exact Int32.le_refl _)]
  | succ d ih =>
    intro i f S h1 h2 h3 h6 h7 h
    obtain ⟨f, rfl⟩ : ∃ g, f = g + 1 := ⟨f - 1, by omega⟩
    obtain ⟨n9, o1, r0, o2, l1, ht⟩ := id h
    have hb := ht i (by omega)
    have hd := q_isD_t.mp (hD i h3 (by omega))
    have hc : (B i).toInt8.toInt32 = B i := by
      rcases q_chx (B i) hb.1 with ⟨-, e⟩ | ⟨e, -⟩
      · exact e
      · omega
    obtain ⟨S1, hS1⟩ : ∃ y, y = m_pI S (x + 1) 7 (S.1 (x + 1) 7 * 10 + (B i - 48)) := ⟨_, rfl⟩
    have a1 : q_ag (fun b k => ¬ (b = x + 1 ∧ k = 7)) S S1 := by rw [hS1]; exact q_ag_I (q_ag_refl _ _) (by omega)
    obtain ⟨S', e1, e2, e3, e4⟩ := ih (i + 1) f S1 (by omega) (by omega) (by omega) (by rw [(a1 _ _ (by omega)).1]; exact h6) (by
      rw [hS1, pI_same, h7, show i + 1 - st = (i - st) + 1 by omega]
      show _ = (10 * q_vl B st (i - st) + B (st + (i - st))) - 48
      rw [show st + (i - st) = i by omega, q_vx]) (q_txc_ag h (q_ag_sub a1 (fun b k hb => by omega)) (by rw [hS1]; rfl))
    refine ⟨S', fun j => ?_, e2, q_ag_trans a1 e3, by rw [e4, hS1]; rfl⟩
    have e1' := e1 j
    rw [m_fx_s]
    generalize m_fx (F_X3_readValue_24 Z (x + 1) j) f = lp at *
    unfold F_X3_readValue_24
    simp only []
    rw [if_neg (show ¬ S.1 (x + 1) 6 ≤ Int32.ofNat i from by rw [h6]; exact fun z => absurd ((io_le (by omega) (by omega)).mp z) (by omega)), r0, m_b1_s, m_gd_t o2.1, m_gd_t (q_inn o2 (by omega) (by omega)), io_tn (by omega), hb.2, hc, ← hS1, m_lt_s, m_lt_s, io_one]
    exact e1'
