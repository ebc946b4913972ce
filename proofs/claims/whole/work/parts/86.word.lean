/-! a word of the language, met or not -/
section WORD
variable {Z : m_Z} {x m pd n st : Nat} {B : Nat → Int32} {S0 T0 S T : m_S}
theorem q_so1 (hs : st ≤ n) (q : q_so B n st = 1) : st < n ∧ st < q_en B n st ∧ ∀ j, st ≤ j → j < q_en B n st → 97 ≤ (B j).toInt ∧ (B j).toInt ≤ 122 := by
  have h : ¬ n ≤ st := fun z => by unfold q_so at q; rw [if_pos z] at q; omega
  have h1 : q_kd (B st) = 1 := by
    unfold q_so at q
    rw [if_neg h] at q
    by_cases z : q_kd (B st) = 2 ∧ 4 < q_en B n st - st
    · rw [if_pos z] at q; omega
    · rw [if_neg z] at q; exact q
  obtain ⟨b1, b2, b3, b4, b5⟩ := q_en_b (B := B) hs
  exact ⟨by omega, b3 (by omega), fun j j1 j2 => q_isL_t.mp (b4 (by omega) (q_kd1.mp h1) j j1 j2)⟩
theorem q_len8 {w : Nat} (hw : w < 8) : m_len.getD w 0 ≤ 8 := by
  have : ∀ w, w < 8 → m_len.getD w 0 ≤ 8 := by decide
  exact this w hw
theorem q_at (h : q_P Z x m pd n B S0 T0 st S T) {w : Nat} (hw : w < 8) : ∃ r : Int32, f_X3_at Z S (x + 1) w = some r ∧ f_X9_isWord Z T m w = some r ∧ ((r = 0) ∨ (r = 1 ∧ q_so B n st = 1)) := by
  obtain ⟨hF, ⟨tc, tm, hs, ⟨c1, c2, c3, c4⟩, m1, m2, m3, m4, m5⟩, e1, e2, e3, e4⟩ := id h
  have iN : ∀ a b : Nat, a < 10 → b < 10 → Int32.ofNat a = Int32.ofNat b → a = b := fun a b ha hb e => by have := t_eq.mp e; rw [t_ofNat (by omega), t_ofNat (by omega)] at this; omega
  have so4 : q_so B n st ≤ 4 := by unfold q_so; have := q_kd_b (B st); split <;> (try split) <;> omega
  obtain ⟨n9, o1, r0, o2, l1, ht⟩ := id tc
  unfold f_X3_at f_X9_isWord
  rw [m_gd_t hF.o1, m_gd_t h.M.o, e_wrong0 h.M e1, m_b1_s, if_neg (show ¬ ¬ (0 : Int32) = 0 from fun z => z rfl)]
  by_cases q : q_so B n st = 1
  · obtain ⟨s1, s2, s3⟩ := q_so1 hs q
    obtain ⟨b1, b2, -⟩ := q_en_b (B := B) hs
    rw [if_neg (show ¬ ¬ S.1 (x + 1) 4 = 1 from fun z => z (by rw [c3, q]; rfl)), if_neg (show ¬ ¬ T.1 m 16 = 1 from fun z => z (by rw [m3, q]; rfl)), m_gd_t hw, m_gd_t hw, c2, c1, m2, m1, io_sub b1]
    have l8 := q_len8 hw
    obtain ⟨L, hL⟩ : ∃ L, L = m_len.getD w 0 := ⟨_, rfl⟩
    rw [← hL] at l8 ⊢
    by_cases q2 : q_en B n st - st = L
    · rw [if_pos (by rw [q2]), if_pos (by rw [q2])]
      have key : ∀ (d i f f' : Nat), d + i = L → d < f → d < f' → ∃ r : Bool, (∀ j5 j6, m_fx (F_X3_at_31 Z S (x + 1) w j5 j6) f (Int32.ofNat (st + i)) = if r = true then j5 () else j6 ()) ∧ ∀ j8 j9, m_fx (F_X9_isWord_35 Z T m w j8 j9) f' (Int32.ofNat i) = if r = true then j8 () else j9 () := by
        intro d
        induction d with
        | zero =>
          intro i f f' h1 h2 h3
          obtain ⟨f, rfl⟩ : ∃ g, f = g + 1 := ⟨f - 1, by omega⟩
          obtain ⟨f', rfl⟩ : ∃ g, f' = g + 1 := ⟨f' - 1, by omega⟩
          refine ⟨true, fun j5 j6 => ?_, fun j8 j9 => ?_⟩
          · rw [m_fx_s]
            unfold F_X3_at_31
            rw [if_pos (show S.1 (x + 1) 6 ≤ Int32.ofNat (st + i) from by rw [c2]; exact (io_le (by omega) (by omega)).mpr (by omega)), if_pos rfl]
          · rw [m_fx_s]
            unfold F_X9_isWord_35
            rw [m_gd_t hw, ← hL, if_pos ((io_le (by omega) (by omega)).mpr (by omega)), if_pos rfl]
        | succ d ih =>
          intro i f f' h1 h2 h3
          obtain ⟨f, rfl⟩ : ∃ g, f = g + 1 := ⟨f - 1, by omega⟩
          obtain ⟨f', rfl⟩ : ∃ g, f' = g + 1 := ⟨f' - 1, by omega⟩
          obtain ⟨r, r1, r2⟩ := ih (i + 1) f f' (by omega) (by omega) (by omega)
          have hb := ht (st + i) (by omega)
          have hl := s3 (st + i) (by omega) (by omega)
          have hc : (B (st + i)).toInt8.toInt32 = B (st + i) := by
            rcases q_chx _ hb.1 with ⟨-, e⟩ | ⟨e, -⟩
            · exact e
            · omega
          have ea := e_at tm (st + i) (by omega)
          rw [if_pos (by omega)] at ea
          obtain ⟨y, hy⟩ : ∃ y, y = (m_byt.getD w []).getD i 0 := ⟨_, rfl⟩
          by_cases qy : B (st + i) = y
          · refine ⟨r, fun j5 j6 => ?_, fun j8 j9 => ?_⟩
            · have r1' := r1 j5 j6
              rw [m_fx_s]
              generalize m_fx (F_X3_at_31 Z S (x + 1) w j5 j6) f = lp at *
              unfold F_X3_at_31
              rw [if_neg (show ¬ S.1 (x + 1) 6 ≤ Int32.ofNat (st + i) from by rw [c2]; exact fun z => absurd ((io_le (by omega) (by omega)).mp z) (by omega)), r0, m_b1_s, m_gd_t o2.1, m_gd_t (q_inn o2 (by omega) (by omega)), c1, io_sub (by omega), m_lt_s, show st + i - st = i by omega, ← hL, m_gd_t ⟨hw, io_in (by omega) (by omega)⟩, io_tn (by omega), io_tn (by omega), hb.2, hc, ← hy, if_pos qy, io_one, m_lt_s]
              exact r1'
            · have r2' := r2 j8 j9
              rw [m_fx_s]
              generalize m_fx (F_X9_isWord_35 Z T m w j8 j9) f' = lp at *
              unfold F_X9_isWord_35
              rw [m_gd_t hw, ← hL, if_neg (fun z => absurd ((io_le (by omega) (by omega)).mp z) (by omega)), m1, io_add, ea, m_b1_s, m_gd_t ⟨hw, io_in (by omega) (by omega)⟩, io_tn (by omega), ← hy, if_pos qy, io_one, m_lt_s]
              exact r2'
          · refine ⟨false, fun j5 j6 => ?_, fun j8 j9 => ?_⟩
            · rw [m_fx_s]
              unfold F_X3_at_31
              rw [if_neg (show ¬ S.1 (x + 1) 6 ≤ Int32.ofNat (st + i) from by rw [c2]; exact fun z => absurd ((io_le (by omega) (by omega)).mp z) (by omega)), r0, m_b1_s, m_gd_t o2.1, m_gd_t (q_inn o2 (by omega) (by omega)), c1, io_sub (by omega), m_lt_s, show st + i - st = i by omega, ← hL, m_gd_t ⟨hw, io_in (by omega) (by omega)⟩, io_tn (by omega), io_tn (by omega), hb.2, hc, ← hy, if_neg qy, if_neg (show ¬ false = true by decide)]
            · rw [m_fx_s]
              unfold F_X9_isWord_35
              rw [m_gd_t hw, ← hL, if_neg (fun z => absurd ((io_le (by omega) (by omega)).mp z) (by omega)), m1, io_add, ea, m_b1_s, m_gd_t ⟨hw, io_in (by omega) (by omega)⟩, io_tn (by omega), ← hy, if_neg qy, if_neg (show ¬ false = true by decide)]
      obtain ⟨r, r1, r2⟩ := key L 0 100000 100000 (by omega) (by omega) (by omega)
      refine ⟨if r = true then 1 else 0, ?_, ?_, ?_⟩
      · simp only [m_jp_s]
        refine (r1 _ _).trans ?_
        split <;> rfl
      · simp only [m_jp_s]
        refine (r2 _ _).trans ?_
        split <;> rfl
      · split
        · exact Or.inr ⟨rfl, q⟩
        · exact Or.inl rfl
    · have ne : ¬ Int32.ofNat (q_en B n st - st) = Int32.ofNat L := fun z => q2 (by have := t_eq.mp z; rw [t_ofNat (by omega), t_ofNat (by omega)] at this; omega)
      rw [if_neg ne, if_neg ne]
      exact ⟨0, rfl, rfl, Or.inl rfl⟩
  · rw [if_pos (show ¬ S.1 (x + 1) 4 = 1 from by rw [c3]; exact fun z => q (iN _ 1 (by omega) (by omega) z)), if_pos (show ¬ T.1 m 16 = 1 from by rw [m3]; exact fun z => q (iN _ 1 (by omega) (by omega) z))]
    exact ⟨0, rfl, rfl, Or.inl rfl⟩
/-- in the wrong no word is met -/
theorem e_isWord1 (h : q_wr Z m T) (w : Nat) : f_X9_isWord Z T m w = some 0 := by
  unfold f_X9_isWord
  rw [m_gd_t h.1.o, e_wrong1 h, m_b1_s, if_pos z10]
theorem e_takesWord1 (h : q_wr Z m T) (w : Nat) : f_X9_takesWord Z T m w = some (0, T) := by
  unfold f_X9_takesWord
  rw [m_gd_t h.1.o, e_isWord1 h, m_b1_s, if_pos z00, m_gd_t (Or.inl rfl)]
theorem e_begins1 (h : q_wr Z m T) {i : Nat} {wi : Int32} (e : wi = Int32.ofNat i) (hi : i < 116) (v : Int32) : f_X9_begins Z T m wi v = some (0, T) := by
  unfold f_X9_begins
  rw [m_gd_t h.1.o, h.1.told.1, m_b1_s, m_gd_t h.1.told.2.1, m_gd_t (q_inl e h.1.told.2 hi (by omega))]
  simp only [m_jp_s, e_fails1 h, m_bw_s, e_wrong1 h, m_b1_s]
  split <;> rfl
end WORD
