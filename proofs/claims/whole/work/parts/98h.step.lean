/-! a step of the law: both calls on one picture -/
section STEP
variable {Z : m_Z} {x m N pb ns nk nc q : Nat} {S : m_S}
theorem q_Re_cl {S' T' : m_S} (h : q_Re Z x m N S' T') (hS : q_ag (fun b _ => x ≤ b ∧ b < x + 341) S' T') : q_Re Z x m N T' T' := by
  obtain ⟨pb, ns, nk, nc, h⟩ := h
  exact ⟨pb, ns, nk, nc, q_Rel_cl h hS (q_ag_refl _ _)⟩
theorem q_stepW {α β : Type} {cs : List (String × Int32)} {eq : α → β → Prop} {fc : Option (Except String α × m_S)} {fm : m_S → Option (β × m_S)} (hx : m = x + 341) (h : q_Rel Z x m N pb ns nk nc S S) (J : ∀ T, q_Rel Z x m N pb ns nk nc S T → q_JW Z x m (N + 1) cs eq S T fc (fm T)) (hq : ¬ (x ≤ q ∧ q < x + 355)) (enc : α → Int64) : (∃ a S', fc = some (.ok a, S') ∧ ∃ b T'', fm (m_pJ S' q 0 (enc a)) = some (b, T'') ∧ T''.1 m 0 = 0 ∧ T''.2.1 q 0 = enc a ∧ eq a b ∧ q_Re Z x m (N + 1) T'' T'') ∨ ∃ e S', fc = some (.error e, S') ∧ ∃ b T'', fm S' = some (b, T'') ∧ (e, T''.1 m 0) ∈ cs ∧ q_Re Z x m (N + 1) T'' T'' := by
  obtain ⟨S', T', f1, f2, f3, f4⟩ := J S h
  rcases f4 with ⟨a, b, e1, -, -, -⟩ | ⟨e, b, e1, -, -⟩
  · have aS : q_ag (fun b _ => x + 341 ≤ b ∧ b < x + 355) S (m_pJ S' q 0 (enc a)) := q_ag_J (q_ag_sub f1 (fun b k hb => by omega)) (by omega)
    obtain ⟨S2, T2, g1, g2, g3, g4⟩ := J (m_pJ S' q 0 (enc a)) (q_Rel_cl h (q_ag_refl _ _) aS)
    rcases g4 with ⟨a2, b2, w1, w2, w3, w4⟩ | ⟨e2, b2, w1, -, -⟩
    · rw [e1] at w1
      have w5 := Prod.mk.inj (Option.some.inj w1)
      have w6 : a = a2 := Except.ok.inj w5.1
      rw [← w6] at w4
      rw [← w5.2] at g3
      refine Or.inl ⟨a, S', e1, b2, T2, w2, w3, ?_, w4, q_Re_cl g3 (q_ag_trans (q_ag_J (q_ag_refl _ S') (by omega)) (q_ag_sub g2 (fun b k hb => by omega)))⟩
      rw [(g2 q 0 (by omega)).2.1, pJ_same]
    · rw [e1] at w1
      have w5 := Prod.mk.inj (Option.some.inj w1)
      cases w5.1
  · have aS : q_ag (fun b _ => x + 341 ≤ b ∧ b < x + 355) S S' := q_ag_sub f1 (fun b k hb => by omega)
    obtain ⟨S2, T2, g1, g2, g3, g4⟩ := J S' (q_Rel_cl h (q_ag_refl _ _) aS)
    rcases g4 with ⟨a2, b2, w1, -, -, -⟩ | ⟨e2, b2, w1, w2, w3⟩
    · rw [e1] at w1
      have w5 := Prod.mk.inj (Option.some.inj w1)
      cases w5.1
    · rw [e1] at w1
      have w5 := Prod.mk.inj (Option.some.inj w1)
      have w6 : e = e2 := Except.error.inj w5.1
      rw [← w6] at w3
      rw [← w5.2] at g3
      exact Or.inr ⟨e, S', e1, b2, T2, w2, w3, q_Re_cl g3 (q_ag_sub g2 (fun b k hb => by omega))⟩
theorem q_stepV {α β : Type} {cs : List (String × Int32)} {eq : α → β → Prop} {fc : Option (Except String α × m_S)} {fm : m_S → Option (β × m_S)} (hx : m = x + 341) (h : q_Rel Z x m N pb ns nk nc S S) (J : ∀ T, q_Rel Z x m N pb ns nk nc S T → q_JW Z x m (N + 1) cs eq S T fc (fm T)) : (∃ a S', fc = some (.ok a, S') ∧ ∃ b T'', fm S' = some (b, T'') ∧ T''.1 m 0 = 0 ∧ q_Re Z x m (N + 1) T'' T'') ∨ ∃ e S', fc = some (.error e, S') ∧ ∃ b T'', fm S' = some (b, T'') ∧ (e, T''.1 m 0) ∈ cs ∧ q_Re Z x m (N + 1) T'' T'' := by
  obtain ⟨S', T', f1, f2, f3, f4⟩ := J S h
  have aS : q_ag (fun b _ => x + 341 ≤ b ∧ b < x + 355) S S' := q_ag_sub f1 (fun b k hb => by omega)
  obtain ⟨S2, T2, g1, g2, g3, g4⟩ := J S' (q_Rel_cl h (q_ag_refl _ _) aS)
  rcases f4 with ⟨a, b, e1, -, -, -⟩ | ⟨e, b, e1, -, -⟩
  · rcases g4 with ⟨a2, b2, w1, w2, w3, w4⟩ | ⟨e2, b2, w1, -, -⟩
    · rw [e1] at w1
      have w5 := Prod.mk.inj (Option.some.inj w1)
      rw [← w5.2] at g3
      exact Or.inl ⟨a, S', e1, b2, T2, w2, w3, q_Re_cl g3 (q_ag_sub g2 (fun b k hb => by omega))⟩
    · rw [e1] at w1
      have w5 := Prod.mk.inj (Option.some.inj w1)
      cases w5.1
  · rcases g4 with ⟨a2, b2, w1, -, -, -⟩ | ⟨e2, b2, w1, w2, w3⟩
    · rw [e1] at w1
      have w5 := Prod.mk.inj (Option.some.inj w1)
      cases w5.1
    · rw [e1] at w1
      have w5 := Prod.mk.inj (Option.some.inj w1)
      have w6 : e = e2 := Except.error.inj w5.1
      rw [← w6] at w3
      rw [← w5.2] at g3
      exact Or.inr ⟨e, S', e1, b2, T2, w2, w3, q_Re_cl g3 (q_ag_sub g2 (fun b k hb => by omega))⟩
theorem q_stepR {α β : Type} {cs : List (String × Int32)} {eq : α → β → Prop} {fc : Option (Except String α)} {fm : m_S → Option (β × m_S)} (hx : m = x + 341) (h : q_Rel Z x m N pb ns nk nc S S) (J : ∀ T, q_Rel Z x m N pb ns nk nc S T → q_JR Z x m (N + 1) cs eq S T fc (fm T)) (hq : ¬ (x ≤ q ∧ q < x + 355)) (enc : α → Int64) : (∃ a, fc = some (.ok a) ∧ ∃ b T'', fm (m_pJ S q 0 (enc a)) = some (b, T'') ∧ T''.1 m 0 = 0 ∧ T''.2.1 q 0 = enc a ∧ eq a b ∧ q_Re Z x m (N + 1) T'' T'') ∨ ∃ e, fc = some (.error e) ∧ ∃ b T'', fm S = some (b, T'') ∧ (e, T''.1 m 0) ∈ cs ∧ q_Re Z x m (N + 1) T'' T'' := by
  obtain ⟨T', f2, f3, f4⟩ := J S h
  rcases f4 with ⟨a, b, e1, -, -, -⟩ | ⟨e, b, e1, e2, e3⟩
  · have aS : q_ag (fun b _ => x + 341 ≤ b ∧ b < x + 355) S (m_pJ S q 0 (enc a)) := q_ag_J (q_ag_refl _ _) (by omega)
    obtain ⟨T2, g2, g3, g4⟩ := J (m_pJ S q 0 (enc a)) (q_Rel_cl h (q_ag_refl _ _) aS)
    rcases g4 with ⟨a2, b2, w1, w2, w3, w4⟩ | ⟨e2, b2, w1, -, -⟩
    · rw [e1] at w1
      have w6 : a = a2 := Except.ok.inj (Option.some.inj w1)
      rw [← w6] at w4
      refine Or.inl ⟨a, e1, b2, T2, w2, w3, ?_, w4, q_Re_cl g3 (q_ag_trans (q_ag_J (q_ag_refl _ S) (by omega)) (q_ag_sub g2 (fun b k hb => by omega)))⟩
      rw [(g2 q 0 (by omega)).2.1, pJ_same]
    · rw [e1] at w1
      cases (Option.some.inj w1)
  · exact Or.inr ⟨e, e1, b, T', e2, e3, q_Re_cl f3 (q_ag_sub f2 (fun b k hb => by omega))⟩
end STEP
