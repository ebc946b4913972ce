section NAMES2
variable {Z : m_Z} {x m pd n st ac ar N cnt : Nat} {B : Nat → Int32} {S0 T0 S T : m_S}
theorem q_ri_n {r cnt : Nat} (h : ¬ r < cnt) : q_ri r cnt = -1 := if_neg h
theorem q_ri_s {r cnt : Nat} (h : r < cnt) : q_ri r cnt = Int32.ofNat r := if_pos h
theorem q_nm1 {r : Nat} (h : r < 2147483648) : ¬ Int32.ofNat r = (-1 : Int32) := fun e => by have := t_eq.mp e; rw [t_ofNat h, show (-1 : Int32).toInt = -1 from rfl] at this; omega
/-- the reference's search when the token may be a name -/
theorem e_named_ok (hM : m_ok Z m 9) (o : m_okn Z ar 12 N) (hc : cnt ≤ N) (hN : N ≤ 10) (h1 : T.1 m 16 = 1) (h2 : T.1 m 14 - T.1 m 15 ≤ 8) : f_X9_named Z T m ar (Int32.ofNat cnt) = some (q_ri (q_scan (fun i => decide (¬ T.2.1 ar i = T.2.1 m 20)) cnt 0) cnt, T) := by
  unfold f_X9_named
  rw [m_gd_t hM]
  simp only [m_jp_s]
  rw [if_neg (fun z => z h1), if_pos h2]
  exact e_search o hc hN
theorem e_named_er (hM : m_ok Z m 9) (o : m_okn Z ar 12 N) (hc : cnt ≤ N) (hN : N ≤ 10) (h1 : ¬ T.1 m 16 = 1 ∨ (T.1 m 16 = 1 ∧ ¬ T.1 m 14 - T.1 m 15 ≤ 8)) {T' : m_S} (hf : f_X9_fails Z T m 1 = some ((), T')) : f_X9_named Z T m ar (Int32.ofNat cnt) = some (q_ri (q_scan (fun i => decide (¬ T'.2.1 ar i = T'.2.1 m 20)) cnt 0) cnt, T') := by
  unfold f_X9_named
  rw [m_gd_t hM]
  simp only [m_jp_s]
  rcases h1 with h1 | ⟨h1, h2⟩
  · rw [if_pos h1, hf, m_bw_s]
    exact e_search o hc hN
  · rw [if_neg (fun z => z h1), if_neg h2, hf, m_bw_s]
    exact e_search o hc hN
theorem e_named_w (h : q_wr Z m T) (o : m_okn Z ar 12 N) (hc : cnt ≤ N) (hN : N ≤ 10) : ∃ v, f_X9_named Z T m ar (Int32.ofNat cnt) = some (v, T) := by
  by_cases h1 : T.1 m 16 = 1
  · by_cases h2 : T.1 m 14 - T.1 m 15 ≤ 8
    · exact ⟨_, e_named_ok h.1.o o hc hN h1 h2⟩
    · exact ⟨_, e_named_er h.1.o o hc hN (Or.inr ⟨h1, h2⟩) (e_fails1 h 1)⟩
  · exact ⟨_, e_named_er h.1.o o hc hN (Or.inl h1) (e_fails1 h 1)⟩
/-- a name that must be known -/
theorem q_known (h : q_P Z x m pd n B S0 T0 st S T) (oc : m_okn Z ac 12 N) (o : m_okn Z ar 12 N) (hc : cnt ≤ N) (hN : N ≤ 10) (ht : q_nt ac ar cnt S T) : (∃ i, i < cnt ∧ f_X3_knownName Z S (x + 1) ac (Int32.ofNat cnt) = some (.ok (Int32.ofNat i), S) ∧ f_X9_named Z T m ar (Int32.ofNat cnt) = some (Int32.ofNat i, T)) ∨ ∃ S' T' v T1, f_X3_knownName Z S (x + 1) ac (Int32.ofNat cnt) = some (.error "java/lang/IllegalArgumentException", S') ∧ f_X9_named Z T m ar (Int32.ofNat cnt) = some (v, T1) ∧ q_Er Z x m pd S0 T0 S' T' ∧ q_wr Z m T' ∧ ((v = -1 ∧ f_X9_fails Z T1 m 3 = some ((), T')) ∨ (¬ v = -1 ∧ T1 = T')) := by
  unfold f_X3_knownName
  rw [m_gd_t h.f.o1]
  rcases q_here h with ⟨f, l, h1, h2, h3, h4, h5, h6, h7⟩ | ⟨h1, S', T', h2, h3, h4, h5⟩
  · have en := e_named_ok h.M.o o hc hN h1 (by rw [h3]; exact h2)
    have es := q_nt_scan (m := m) ht h4 h5 rfl h7
    rw [h6, m_bx_s, g_indexOf oc hc hN, m_b1_s, es]
    obtain ⟨r, hr⟩ : ∃ r, r = q_scan (fun i => decide (¬ T.2.1 ar i = T.2.1 m 20)) cnt 0 := ⟨_, rfl⟩
    rw [← hr] at en ⊢
    by_cases q : r < cnt
    · rw [q_ri_s q] at en ⊢
      refine Or.inl ⟨r, q, ?_, en⟩
      rw [if_pos (q_nm1 (by omega))]
    · rw [q_ri_n q] at en ⊢
      obtain ⟨S', T', g1, r1, hE, hw⟩ := q_P_fail h (c := 3) z30
      refine Or.inr ⟨S', T', -1, T, ?_, en, hE, hw, Or.inl ⟨rfl, r1⟩⟩
      rw [if_neg (fun z => z rfl), g1, m_bx_e]
  · have en := e_named_er h.M.o o hc hN h1 h3
    obtain ⟨v, hv⟩ : ∃ v, v = q_ri (q_scan (fun i => decide (¬ T'.2.1 ar i = T'.2.1 m 20)) cnt 0) cnt := ⟨_, rfl⟩
    rw [← hv] at en
    refine Or.inr ⟨S', T', v, T', by rw [h2, m_bx_e], en, h4, h5, ?_⟩
    by_cases q : v = -1
    · exact Or.inl ⟨q, e_fails1 h5 3⟩
    · exact Or.inr ⟨q, rfl⟩
/-- a name that must be new -/
theorem q_newn (h : q_P Z x m pd n B S0 T0 st S T) (oc : m_okn Z ac 12 N) (o : m_okn Z ar 12 N) (har : ar = m + 12 ∨ ar = m + 13) (hc : cnt < N) (hN : N ≤ 10) (ht : q_nt ac ar cnt S T) : (∃ st' S' T' f l, f_X3_takeNewName Z S (x + 1) ac (Int32.ofNat cnt) = some (.ok (Int64.ofNat (q_fo 32 f l)), S') ∧ f_X9_newName Z T m ar (Int32.ofNat cnt) = some (1, T') ∧ q_P Z x m pd n B S0 T0 st' S' T' ∧ q_ag (fun b k => ¬ (b = x + 1 ∧ 4 ≤ k ∧ k ≤ 7)) S S' ∧ S'.2 = S.2 ∧ q_ag (fun b k => ¬ (b = m ∧ ((14 ≤ k ∧ k ≤ 17) ∨ k = 20)) ∧ ¬ (b = ar ∧ k = cnt)) T T' ∧ T'.2.2 = T.2.2 ∧ T'.2.1 ar cnt = Int64.ofNat (q_fo 27 f l) ∧ l ≤ 8 ∧ ∀ k, k < l → 1 ≤ f k ∧ f k ≤ 26) ∨ ∃ S' T', f_X3_takeNewName Z S (x + 1) ac (Int32.ofNat cnt) = some (.error "java/lang/IllegalArgumentException", S') ∧ f_X9_newName Z T m ar (Int32.ofNat cnt) = some (0, T') ∧ q_Er Z x m pd S0 T0 S' T' ∧ q_wr Z m T' := by
  have hm := h.em
  unfold f_X3_takeNewName f_X9_newName
  rw [m_gd_t h.f.o1, m_gd_t h.M.o]
  simp only [m_jp_s]
  rcases q_here h with ⟨f, l, h1, h2, h3, h4, h5, h6, h7⟩ | ⟨h1, S', T', h2, h3, h4, h5⟩
  · have en := e_named_ok h.M.o o (Nat.le_of_lt hc) hN h1 (by rw [h3]; exact h2)
    have es := q_nt_scan (m := m) ht h4 h5 rfl h7
    rw [h6, m_bx_s, g_indexOf oc (Nat.le_of_lt hc) hN, m_b1_s, es, en, m_bw_s]
    obtain ⟨r, hr⟩ : ∃ r, r = q_scan (fun i => decide (¬ T.2.1 ar i = T.2.1 m 20)) cnt 0 := ⟨_, rfl⟩
    rw [← hr]
    by_cases q : r < cnt
    · rw [q_ri_s q]
      obtain ⟨S', T', g1, r1, hE, hw⟩ := q_P_fail h (c := 3) z30
      refine Or.inr ⟨S', T', ?_, ?_, hE, hw⟩
      · rw [if_neg (q_nm1 (by omega)), g1, m_bx_e]
      · rw [if_neg (q_nm1 (by omega)), r1, m_bw_s, e_wrong1 hw, m_b1_s, if_neg z10]
    · rw [q_ri_n q]
      obtain ⟨T1, hT1⟩ : ∃ y, y = m_pJ T ar cnt (T.2.1 m 20) := ⟨_, rfl⟩
      have a1 : q_ag (fun b k => ¬ (b = ar ∧ k = cnt)) T T1 := by rw [hT1]; exact q_ag_J (q_ag_refl _ _) (by omega)
      have h1' : q_P Z x m pd n B S0 T0 st S T1 := h.go (q_ag_refl _ _) h.rs (q_ag_sub a1 (fun b k hb => by omega)) (by rw [hT1]; rfl)
      obtain ⟨st', S', T', g1, r1, hP, f1, f2, f3, f4⟩ := q_P_next h1'
      refine Or.inl ⟨st', S', T', f, l, ?_, ?_, hP, f1, f2, q_ag_trans (q_ag_sub a1 (fun b k hb => by omega)) (q_ag_sub f3 (fun b k hb => by omega)), by rw [f4, hT1]; rfl, ?_, h4, h5⟩
      · rw [if_pos (show (-1 : Int32) = -1 from rfl), g1, m_bw_s]
      · rw [if_pos (show (-1 : Int32) = -1 from rfl), e_wrong0 h.M h.w0, m_b1_s, if_pos z00, m_gd_t o.1, m_gd_t (q_inn o (by omega) (by omega)), io_tn (by omega), ← hT1, m_lt_s, r1, m_bw_s]
      · rw [(f3 _ _ (by omega)).2.1, hT1, pJ_same, h7]
  · have en := e_named_er h.M.o o (Nat.le_of_lt hc) hN h1 h3
    refine Or.inr ⟨S', T', by rw [h2, m_bx_e], ?_, h4, h5⟩
    rw [en, m_bw_s]
    by_cases q : q_ri (q_scan (fun i => decide (¬ T'.2.1 ar i = T'.2.1 m 20)) cnt 0) cnt = -1
    · rw [if_pos q, e_wrong1 h5, m_b1_s, if_neg z10]
    · rw [if_neg q, e_fails1 h5, m_bw_s, e_wrong1 h5, m_b1_s, if_neg z10]
end NAMES2
