/-! the loops of cases and cassettes -/
section LOOPS2
variable {Z : m_Z} {x m pd n st : Nat} {B : Nat → Int32} {S0 T0 S T : m_S}
theorem q_loop_case {Q : m_S → m_S → Prop} {ns nv nk nq : Nat} {kc : Unit → m_S → Option (Except String Unit × m_S)} {jm : m_S → Option (Unit × m_S)} (endk : ∀ st i S T, i ≤ 6 → q_P Z x m pd n B S0 T0 st S T → q_D Z x m pd ns nv nk i (fun _ => 0) nq S T → q_E Z x m pd S0 T0 Q (kc () S) (jm T)) (endw : ∀ T, q_wr Z m T → q_W m T (jm T)) : ∀ (e i fc fm st : Nat) (S T : m_S), e + i = 6 → e < fc → e + 1 < fm → q_P Z x m pd n B S0 T0 st S T → q_D Z x m pd ns nv nk i (fun _ => 0) nq S T → q_E Z x m pd S0 T0 Q (m_fx (F_X3_readInto_132 Z (x + 1) pd (fun S => m_bx (f_X3_refuse Z S (x + 1) 4) kc)) fc (Int32.ofNat i, S)) (m_fx (F_X9_reads_93 Z m jm) fm T) := by
  have wl : ∀ (f : Nat) (T : m_S), q_wr Z m T → q_W m T (m_fx (F_X9_reads_93 Z m jm) (f + 1) T) := fun f T hw => by
    rw [m_fx_s]
    unfold F_X9_reads_93
    rw [e_isWord1 hw, m_b1_s, if_pos z00]
    exact endw T hw
  have kL : ∀ i : Nat, i < 100 → ((6 : Int32) ≤ Int32.ofNat i ↔ 6 ≤ i) := fun i hi => io_le (a := 6) (by omega) (by omega)
  intro e
  induction e with
  | zero =>
    intro i fc fm st S T h1 h2 h3 h hD
    obtain ⟨fc, rfl⟩ : ∃ g, fc = g + 1 := ⟨fc - 1, by omega⟩
    obtain ⟨fm, rfl⟩ : ∃ g, fm = g + 1 + 1 := ⟨fm - 2, by omega⟩
    obtain ⟨r, r1, r2, r3⟩ := q_at h (w := 4) (by omega)
    have hi : i = 6 := by omega
    have wl' := wl fm
    rw [m_fx_s, m_fx_s]
    generalize m_fx (F_X9_reads_93 Z m jm) (fm + 1) = lm at *
    unfold F_X3_readInto_132 F_X9_reads_93
    simp only []
    rw [if_pos ((kL i (by omega)).mpr (by omega)), r2, m_b1_s]
    unfold f_X3_refuse
    rw [m_gd_t h.f.o1, r1, m_b1_s]
    rcases r3 with q | ⟨q, -⟩
    · rw [if_pos q, if_pos q, m_bx_s]
      exact endk st i S T (by omega) h hD
    · obtain ⟨S', T', g1, e1, hE, hw⟩ := q_P_fail h (c := 4) (by decide)
      have nz : ¬ r = 0 := by rw [q]; exact z10
      have ef := e_begins_full (i := 5) (wi := 5) (lim := 6) h.M rfl (by omega) (by rw [hD.1.2.1.2.2.2.2.2.2.2]; rw [hi]; rfl) e1 hw
      rw [if_neg nz, if_neg nz, g1, m_bx_e, m_bx_e]
      unfold f_X9_oneCase
      rw [m_gd_t h.M.o, ef, m_bw_s, if_pos z00, m_bw_s]
      exact q_E_er hE rfl (wl' T' hw)
  | succ e ih =>
    intro i fc fm st S T h1 h2 h3 h hD
    obtain ⟨fc, rfl⟩ : ∃ g, fc = g + 1 := ⟨fc - 1, by omega⟩
    obtain ⟨fm, rfl⟩ : ∃ g, fm = g + 1 + 1 := ⟨fm - 2, by omega⟩
    obtain ⟨r, r1, r2, r3⟩ := q_at h (w := 4) (by omega)
    have wl' := wl fm
    have ih' := ih (i + 1) fc (fm + 1)
    rw [m_fx_s, m_fx_s]
    generalize m_fx (F_X9_reads_93 Z m jm) (fm + 1) = lm at *
    generalize m_fx (F_X3_readInto_132 Z (x + 1) pd (fun S => m_bx (f_X3_refuse Z S (x + 1) 4) kc)) fc = lc at *
    unfold F_X3_readInto_132 F_X9_reads_93
    simp only []
    rw [if_neg (fun z => absurd ((kL i (by omega)).mp z) (by omega)), r1, m_b1_s, r2, m_b1_s]
    rcases r3 with q | ⟨q, -⟩
    · rw [if_pos q, if_pos q]
      unfold f_X3_refuse
      rw [m_gd_t h.f.o1, r1, m_b1_s, if_pos q, m_bx_s]
      exact endk st i S T (by omega) h hD
    · have nz : ¬ r = 0 := by rw [q]; exact z10
      rw [if_neg nz, if_neg nz]
      rcases q_case h hD (by omega) with ⟨S', T', y1, y2, ⟨st', hP'⟩, hD'⟩ | ⟨S', T', y1, y2, hE⟩
      · rw [y1, m_bx_s, y2, m_bw_s, io_one, m_lt_s]
        exact ih' st' S' T' (by omega) (by omega) (by omega) hP' hD'
      · refine q_E_er hE (by rw [y1, m_bx_e]) ?_
        rw [y2, m_bw_s]
        exact wl' T' ⟨hE.1.M, hE.2.2.2.2⟩
theorem q_loop_cass {Q : m_S → m_S → Prop} {ns nv nk nc : Nat} {kc : m_S → Option (Except String Unit × m_S)} {jm : m_S → Option (Unit × m_S)} (h6 : nc ≤ 6) (endk : ∀ st i cnt S T, i ≤ 30 → q_P Z x m pd n B S0 T0 st S T → q_D Z x m pd ns nv nk nc cnt i S T → q_E Z x m pd S0 T0 Q (kc S) (jm T)) (endw : ∀ T, q_wr Z m T → q_W m T (jm T)) : ∀ (e i fc fm st : Nat) (cnt : Nat → Nat) (S T : m_S), e + i = 31 → e < fc → e + 1 < fm → q_P Z x m pd n B S0 T0 st S T → q_D Z x m pd ns nv nk nc cnt i S T → (∀ c, c < nc → cnt c ≤ 5) → q_cu cnt nc = i → q_E Z x m pd S0 T0 Q (m_fx (F_X3_readInto_167 Z (x + 1) pd kc) fc (Int32.ofNat i, S)) (m_fx (F_X9_reads_109 Z m jm) fm T) := by
  have wl : ∀ (f : Nat) (T : m_S), q_wr Z m T → q_W m T (m_fx (F_X9_reads_109 Z m jm) (f + 1) T) := fun f T hw => by
    rw [m_fx_s]
    unfold F_X9_reads_109
    rw [e_isWord1 hw, m_b1_s, if_pos z00]
    exact endw T hw
  have kL : ∀ i : Nat, i < 100 → ((30 : Int32) < Int32.ofNat i ↔ 30 < i) := fun i hi => io_lt (a := 30) (by omega) (by omega)
  intro e
  induction e with
  | zero =>
    intro i fc fm st cnt S T h1 h2 h3 h hD h5 hs
    have := q_cu_le nc h5
    omega
  | succ e ih =>
    intro i fc fm st cnt S T h1 h2 h3 h hD h5 hs
    obtain ⟨fc, rfl⟩ : ∃ g, fc = g + 1 := ⟨fc - 1, by omega⟩
    obtain ⟨fm, rfl⟩ : ∃ g, fm = g + 1 + 1 := ⟨fm - 2, by omega⟩
    obtain ⟨r, r1, r2, r3⟩ := q_at h (w := 5) (by omega)
    have wl' := wl fm
    have ih' := ih (i + 1) fc (fm + 1)
    rw [m_fx_s, m_fx_s]
    generalize m_fx (F_X9_reads_109 Z m jm) (fm + 1) = lm at *
    generalize m_fx (F_X3_readInto_167 Z (x + 1) pd kc) fc = lc at *
    unfold F_X3_readInto_167 F_X9_reads_109
    simp only []
    rw [if_neg (fun z => absurd ((kL i (by omega)).mp z) (by omega)), r1, m_b1_s, r2, m_b1_s]
    rcases r3 with q | ⟨q, -⟩
    · rw [if_pos q, if_pos q]
      exact endk st i cnt S T (by omega) h hD
    · have nz : ¬ r = 0 := by rw [q]; exact z10
      rw [if_neg nz, if_neg nz]
      rcases q_cassette h hD (by omega) with ⟨S', T', y1, y2, ⟨st', hP'⟩, j, hj, hj5, hD'⟩ | ⟨S', T', y1, y2, hE⟩
      · rw [y1, m_bx_s, y2, m_bw_s, io_one, m_lt_s]
        refine ih' st' (q_up cnt j) S' T' (by omega) (by omega) (by omega) hP' hD' (fun c hc => ?_) (by rw [(q_cu_up nc).2 hj, hs])
        by_cases q : c = j
        · rw [q, q_up_s]; omega
        · rw [q_up_n q]; exact h5 c hc
      · refine q_E_er hE (by rw [y1, m_bx_e]) ?_
        rw [y2, m_bw_s]
        exact wl' T' ⟨hE.1.M, hE.2.2.2.2⟩
end LOOPS2
