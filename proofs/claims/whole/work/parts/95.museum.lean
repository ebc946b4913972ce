section MUSEUM
variable {Z : m_Z} {x m pd n st : Nat} {B : Nat → Int32} {S0 T0 S T : m_S}
theorem m_bx_bx {α β γ : Type} (o : Option (Except String α × m_S)) (f : α → m_S → Option (Except String β × m_S)) (k : β → m_S → Option (Except String γ × m_S)) : m_bx (m_bx o f) k = m_bx o (fun a S => m_bx (f a S) k) := by
  match o with
  | some (.ok a, S) => rfl
  | some (.error e, S) => rfl
  | none => rfl
/-- a word taken: the class's takeWord, the reference's takesWord -/
theorem q_word (h : q_P Z x m pd n B S0 T0 st S T) {w : Nat} (hw : w < 8) : (∃ st' S' T', f_X3_takeWord Z S (x + 1) w = some (.ok (), S') ∧ f_X9_takesWord Z T m w = some (1, T') ∧ q_P Z x m pd n B S0 T0 st' S' T' ∧ q_ag (fun b k => ¬ (b = x + 1 ∧ 4 ≤ k ∧ k ≤ 7)) S S' ∧ S'.2 = S.2 ∧ q_ag (fun b k => ¬ (b = m ∧ ((14 ≤ k ∧ k ≤ 17) ∨ k = 20))) T T' ∧ T'.2.2 = T.2.2) ∨ ∃ S' T', f_X3_takeWord Z S (x + 1) w = some (.error "java/lang/IllegalArgumentException", S') ∧ f_X9_takesWord Z T m w = some (0, T) ∧ f_X9_fails Z T m 1 = some ((), T') ∧ q_Er Z x m pd S0 T0 S' T' ∧ q_wr Z m T' := by
  obtain ⟨r, r1, r2, r3⟩ := q_at h hw
  unfold f_X3_takeWord f_X9_takesWord
  rw [m_gd_t h.f.o1, m_gd_t h.M.o, r1, r2, m_b1_s, m_b1_s]
  rcases r3 with rfl | ⟨rfl, -⟩
  · obtain ⟨S', T', g1, e1, hE, hw'⟩ := q_P_fail h (c := 1) z10
    refine Or.inr ⟨S', T', ?_, ?_, e1, hE, hw'⟩
    · rw [if_neg nz0, g1, m_bx_e]
    · rw [if_pos z00, m_gd_t (Or.inl rfl)]
  · obtain ⟨st', S', T', g1, e1, hP, f1, f2, f3, f4⟩ := q_P_next h
    refine Or.inl ⟨st', S', T', ?_, ?_, hP, f1, f2, f3, f4⟩
    · rw [if_pos z10, g1, m_bw_s]
    · rw [if_neg z10, e1, m_bw_s, m_gd_t (Or.inr rfl)]
end MUSEUM
