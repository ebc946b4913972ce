/-! the loops of statements -/
section LOOPS
variable {Z : m_Z} {x m pd n st : Nat} {B : Nat → Int32} {S0 T0 S T : m_S}
theorem q_loop_season {Q : m_S → m_S → Prop} {nv nq : Nat} {cnt : Nat → Nat} {kc : Unit → m_S → Option (Except String Unit × m_S)} {jm : m_S → Option (Unit × m_S)} (endk : ∀ st i S T, i ≤ 12 → q_P Z x m pd n B S0 T0 st S T → q_D Z x m pd i nv 0 0 cnt nq S T → q_E Z x m pd S0 T0 Q (kc () S) (jm T)) (endw : ∀ T, q_wr Z m T → q_W m T (jm T)) : ∀ (e i fc fm st : Nat) (S T : m_S), e + i = 12 → e < fc → e + 1 < fm → q_P Z x m pd n B S0 T0 st S T → q_D Z x m pd i nv 0 0 cnt nq S T → q_E Z x m pd S0 T0 Q (m_fx (F_X3_readInto_30 Z (x + 1) pd (fun S => m_bx (f_X3_refuse Z S (x + 1) 1) kc)) fc (Int32.ofNat i, S)) (m_fx (F_X9_reads_45 Z m jm) fm T) := by
  have wl : ∀ (f : Nat) (T : m_S), q_wr Z m T → q_W m T (m_fx (F_X9_reads_45 Z m jm) (f + 1) T) := fun f T hw => by
    rw [m_fx_s]
    unfold F_X9_reads_45
    rw [e_isWord1 hw, m_b1_s, if_pos z00]
    exact endw T hw
  have kL : ∀ i : Nat, i < 100 → ((12 : Int32) ≤ Int32.ofNat i ↔ 12 ≤ i) := fun i hi => io_le (a := 12) (by omega) (by omega)
  intro e
  induction e with
  | zero =>
    intro i fc fm st S T h1 h2 h3 h hD
    obtain ⟨fc, rfl⟩ : ∃ g, fc = g + 1 := ⟨fc - 1, by omega⟩
    obtain ⟨fm, rfl⟩ : ∃ g, fm = g + 1 + 1 := ⟨fm - 2, by omega⟩
    obtain ⟨r, r1, r2, r3⟩ := q_at h (w := 1) (by omega)
    have hi : i = 12 := by omega
    have wl' := wl fm
    rw [m_fx_s, m_fx_s]
    generalize m_fx (F_X9_reads_45 Z m jm) (fm + 1) = lm at *
    unfold F_X3_readInto_30 F_X9_reads_45
    simp only []
    rw [if_pos ((kL i (by omega)).mpr (by omega)), r2, m_b1_s]
    unfold f_X3_refuse
    rw [m_gd_t h.f.o1, r1, m_b1_s]
    rcases r3 with q | ⟨q, -⟩
    · rw [if_pos q, if_pos q, m_bx_s]
      exact endk st i S T (by omega) h hD
    · obtain ⟨S', T', g1, e1, hE, hw⟩ := q_P_fail h (c := 4) (by decide)
      have nz : ¬ r = 0 := by rw [q]; exact z10
      have ef := e_begins_full (i := 2) (wi := 2) (lim := 12) h.M rfl (by omega) (by rw [hD.1.2.1.2.2.2.1]; rw [hi]; rfl) e1 hw
      rw [if_neg nz, if_neg nz, g1, m_bx_e, m_bx_e]
      unfold f_X9_season
      rw [m_gd_t h.M.o, ef, m_bw_s, if_neg nz0, m_bw_s]
      exact q_E_er hE rfl (wl' T' hw)
  | succ e ih =>
    intro i fc fm st S T h1 h2 h3 h hD
    obtain ⟨fc, rfl⟩ : ∃ g, fc = g + 1 := ⟨fc - 1, by omega⟩
    obtain ⟨fm, rfl⟩ : ∃ g, fm = g + 1 + 1 := ⟨fm - 2, by omega⟩
    obtain ⟨r, r1, r2, r3⟩ := q_at h (w := 1) (by omega)
    have wl' := wl fm
    have ih' := ih (i + 1) fc (fm + 1)
    rw [m_fx_s, m_fx_s]
    generalize m_fx (F_X9_reads_45 Z m jm) (fm + 1) = lm at *
    generalize m_fx (F_X3_readInto_30 Z (x + 1) pd (fun S => m_bx (f_X3_refuse Z S (x + 1) 1) kc)) fc = lc at *
    unfold F_X3_readInto_30 F_X9_reads_45
    simp only []
    rw [if_neg (fun z => absurd ((kL i (by omega)).mp z) (by omega)), r1, m_b1_s, r2, m_b1_s]
    rcases r3 with q | ⟨q, -⟩
    · rw [if_pos q, if_pos q]
      unfold f_X3_refuse
      rw [m_gd_t h.f.o1, r1, m_b1_s, if_pos q, m_bx_s]
      exact endk st i S T (by omega) h hD
    · have nz : ¬ r = 0 := by rw [q]; exact z10
      rw [if_neg nz, if_neg nz]
      rcases q_season h hD (by omega) with ⟨S', T', y1, y2, ⟨st', hP'⟩, hD'⟩ | ⟨S', T', y1, y2, hE⟩
      · rw [y1, m_bx_s, y2, m_bw_s, io_one, m_lt_s]
        exact ih' st' S' T' (by omega) (by omega) (by omega) hP' hD'
      · refine q_E_er hE (by rw [y1, m_bx_e]) ?_
        rw [y2, m_bw_s]
        exact wl' T' ⟨hE.1.M, hE.2.2.2.2⟩
theorem q_loop_visitors {Q : m_S → m_S → Prop} {ns nq : Nat} {cnt : Nat → Nat} {kc : Unit → m_S → Option (Except String Unit × m_S)} {jm : m_S → Option (Unit × m_S)} (endk : ∀ st i S T, i ≤ 6 → q_P Z x m pd n B S0 T0 st S T → q_D Z x m pd ns i 0 0 cnt nq S T → q_E Z x m pd S0 T0 Q (kc () S) (jm T)) (endw : ∀ T, q_wr Z m T → q_W m T (jm T)) : ∀ (e i fc fm st : Nat) (S T : m_S), e + i = 6 → e < fc → e + 1 < fm → q_P Z x m pd n B S0 T0 st S T → q_D Z x m pd ns i 0 0 cnt nq S T → q_E Z x m pd S0 T0 Q (m_fx (F_X3_readInto_64 Z (x + 1) pd (fun S => m_bx (f_X3_refuse Z S (x + 1) 2) kc)) fc (Int32.ofNat i, S)) (m_fx (F_X9_reads_61 Z m jm) fm T) := by
  have wl : ∀ (f : Nat) (T : m_S), q_wr Z m T → q_W m T (m_fx (F_X9_reads_61 Z m jm) (f + 1) T) := fun f T hw => by
    rw [m_fx_s]
    unfold F_X9_reads_61
    rw [e_isWord1 hw, m_b1_s, if_pos z00]
    exact endw T hw
  have kL : ∀ i : Nat, i < 100 → ((6 : Int32) ≤ Int32.ofNat i ↔ 6 ≤ i) := fun i hi => io_le (a := 6) (by omega) (by omega)
  intro e
  induction e with
  | zero =>
    intro i fc fm st S T h1 h2 h3 h hD
    obtain ⟨fc, rfl⟩ : ∃ g, fc = g + 1 := ⟨fc - 1, by omega⟩
    obtain ⟨fm, rfl⟩ : ∃ g, fm = g + 1 + 1 := ⟨fm - 2, by omega⟩
    obtain ⟨r, r1, r2, r3⟩ := q_at h (w := 2) (by omega)
    have hi : i = 6 := by omega
    have wl' := wl fm
    rw [m_fx_s, m_fx_s]
    generalize m_fx (F_X9_reads_61 Z m jm) (fm + 1) = lm at *
    unfold F_X3_readInto_64 F_X9_reads_61
    simp only []
    rw [if_pos ((kL i (by omega)).mpr (by omega)), r2, m_b1_s]
    unfold f_X3_refuse
    rw [m_gd_t h.f.o1, r1, m_b1_s]
    rcases r3 with q | ⟨q, -⟩
    · rw [if_pos q, if_pos q, m_bx_s]
      exact endk st i S T (by omega) h hD
    · obtain ⟨S', T', g1, e1, hE, hw⟩ := q_P_fail h (c := 4) (by decide)
      have nz : ¬ r = 0 := by rw [q]; exact z10
      have ef := e_begins_full (i := 3) (wi := 3) (lim := 6) h.M rfl (by omega) (by rw [hD.2.1]; rw [hi]; rfl) e1 hw
      rw [if_neg nz, if_neg nz, g1, m_bx_e, m_bx_e]
      unfold f_X9_visitors
      rw [m_gd_t h.M.o, ef, m_bw_s, if_neg nz0, m_bw_s]
      exact q_E_er hE rfl (wl' T' hw)
  | succ e ih =>
    intro i fc fm st S T h1 h2 h3 h hD
    obtain ⟨fc, rfl⟩ : ∃ g, fc = g + 1 := ⟨fc - 1, by omega⟩
    obtain ⟨fm, rfl⟩ : ∃ g, fm = g + 1 + 1 := ⟨fm - 2, by omega⟩
    obtain ⟨r, r1, r2, r3⟩ := q_at h (w := 2) (by omega)
    have wl' := wl fm
    have ih' := ih (i + 1) fc (fm + 1)
    rw [m_fx_s, m_fx_s]
    generalize m_fx (F_X9_reads_61 Z m jm) (fm + 1) = lm at *
    generalize m_fx (F_X3_readInto_64 Z (x + 1) pd (fun S => m_bx (f_X3_refuse Z S (x + 1) 2) kc)) fc = lc at *
    unfold F_X3_readInto_64 F_X9_reads_61
    simp only []
    rw [if_neg (fun z => absurd ((kL i (by omega)).mp z) (by omega)), r1, m_b1_s, r2, m_b1_s]
    rcases r3 with q | ⟨q, -⟩
    · rw [if_pos q, if_pos q]
      unfold f_X3_refuse
      rw [m_gd_t h.f.o1, r1, m_b1_s, if_pos q, m_bx_s]
      exact endk st i S T (by omega) h hD
    · have nz : ¬ r = 0 := by rw [q]; exact z10
      rw [if_neg nz, if_neg nz]
      rcases q_visitors h hD (by omega) with ⟨S', T', y1, y2, ⟨st', hP'⟩, hD'⟩ | ⟨S', T', y1, y2, hE⟩
      · rw [y1, m_bx_s, y2, m_bw_s, io_one, m_lt_s]
        exact ih' st' S' T' (by omega) (by omega) (by omega) hP' hD'
      · refine q_E_er hE (by rw [y1, m_bx_e]) ?_
        rw [y2, m_bw_s]
        exact wl' T' ⟨hE.1.M, hE.2.2.2.2⟩
theorem q_loop_kind {Q : m_S → m_S → Prop} {ns nv nq : Nat} {cnt : Nat → Nat} {kc : Unit → m_S → Option (Except String Unit × m_S)} {jm : m_S → Option (Unit × m_S)} (endk : ∀ st i S T, i ≤ 4 → q_P Z x m pd n B S0 T0 st S T → q_D Z x m pd ns nv i 0 cnt nq S T → q_E Z x m pd S0 T0 Q (kc () S) (jm T)) (endw : ∀ T, q_wr Z m T → q_W m T (jm T)) : ∀ (e i fc fm st : Nat) (S T : m_S), e + i = 4 → e < fc → e + 1 < fm → q_P Z x m pd n B S0 T0 st S T → q_D Z x m pd ns nv i 0 cnt nq S T → q_E Z x m pd S0 T0 Q (m_fx (F_X3_readInto_98 Z (x + 1) pd (fun S => m_bx (f_X3_refuse Z S (x + 1) 3) kc)) fc (Int32.ofNat i, S)) (m_fx (F_X9_reads_77 Z m jm) fm T) := by
  have wl : ∀ (f : Nat) (T : m_S), q_wr Z m T → q_W m T (m_fx (F_X9_reads_77 Z m jm) (f + 1) T) := fun f T hw => by
    rw [m_fx_s]
    unfold F_X9_reads_77
    rw [e_isWord1 hw, m_b1_s, if_pos z00]
    exact endw T hw
  have kL : ∀ i : Nat, i < 100 → ((4 : Int32) ≤ Int32.ofNat i ↔ 4 ≤ i) := fun i hi => io_le (a := 4) (by omega) (by omega)
  intro e
  induction e with
  | zero =>
    intro i fc fm st S T h1 h2 h3 h hD
    obtain ⟨fc, rfl⟩ : ∃ g, fc = g + 1 := ⟨fc - 1, by omega⟩
    obtain ⟨fm, rfl⟩ : ∃ g, fm = g + 1 + 1 := ⟨fm - 2, by omega⟩
    obtain ⟨r, r1, r2, r3⟩ := q_at h (w := 3) (by omega)
    have hi : i = 4 := by omega
    have wl' := wl fm
    rw [m_fx_s, m_fx_s]
    generalize m_fx (F_X9_reads_77 Z m jm) (fm + 1) = lm at *
    unfold F_X3_readInto_98 F_X9_reads_77
    simp only []
    rw [if_pos ((kL i (by omega)).mpr (by omega)), r2, m_b1_s]
    unfold f_X3_refuse
    rw [m_gd_t h.f.o1, r1, m_b1_s]
    rcases r3 with q | ⟨q, -⟩
    · rw [if_pos q, if_pos q, m_bx_s]
      exact endk st i S T (by omega) h hD
    · obtain ⟨S', T', g1, e1, hE, hw⟩ := q_P_fail h (c := 4) (by decide)
      have nz : ¬ r = 0 := by rw [q]; exact z10
      have ef := e_begins_full (i := 4) (wi := 4) (lim := 4) h.M rfl (by omega) (by rw [hD.1.2.1.2.2.2.2.2.1]; rw [hi]; rfl) e1 hw
      rw [if_neg nz, if_neg nz, g1, m_bx_e, m_bx_e]
      unfold f_X9_kind
      rw [m_gd_t h.M.o, ef, m_bw_s, if_pos z00, m_bw_s]
      exact q_E_er hE rfl (wl' T' hw)
  | succ e ih =>
    intro i fc fm st S T h1 h2 h3 h hD
    obtain ⟨fc, rfl⟩ : ∃ g, fc = g + 1 := ⟨fc - 1, by omega⟩
    obtain ⟨fm, rfl⟩ : ∃ g, fm = g + 1 + 1 := ⟨fm - 2, by omega⟩
    obtain ⟨r, r1, r2, r3⟩ := q_at h (w := 3) (by omega)
    have wl' := wl fm
    have ih' := ih (i + 1) fc (fm + 1)
    rw [m_fx_s, m_fx_s]
    generalize m_fx (F_X9_reads_77 Z m jm) (fm + 1) = lm at *
    generalize m_fx (F_X3_readInto_98 Z (x + 1) pd (fun S => m_bx (f_X3_refuse Z S (x + 1) 3) kc)) fc = lc at *
    unfold F_X3_readInto_98 F_X9_reads_77
    simp only []
    rw [if_neg (fun z => absurd ((kL i (by omega)).mp z) (by omega)), r1, m_b1_s, r2, m_b1_s]
    rcases r3 with q | ⟨q, -⟩
    · rw [if_pos q, if_pos q]
      unfold f_X3_refuse
      rw [m_gd_t h.f.o1, r1, m_b1_s, if_pos q, m_bx_s]
      exact endk st i S T (by omega) h hD
    · have nz : ¬ r = 0 := by rw [q]; exact z10
      rw [if_neg nz, if_neg nz]
      rcases q_kind h hD (by omega) with ⟨S', T', y1, y2, ⟨st', hP'⟩, hD'⟩ | ⟨S', T', y1, y2, hE⟩
      · rw [y1, m_bx_s, y2, m_bw_s, io_one, m_lt_s]
        exact ih' st' S' T' (by omega) (by omega) (by omega) hP' hD'
      · refine q_E_er hE (by rw [y1, m_bx_e]) ?_
        rw [y2, m_bw_s]
        exact wl' T' ⟨hE.1.M, hE.2.2.2.2⟩
end LOOPS
