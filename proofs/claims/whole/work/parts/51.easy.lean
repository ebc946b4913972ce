/-! CALLS OF BOTH -/
section EASY
variable {Z : m_Z} {x m N pb ns nk nc : Nat} {S T : m_S}
theorem J_errorCode (h : q_Rel Z x m N pb ns nk nc S T) : ∃ v T', f_X8_errorCode Z S x = some v ∧ f_X9_errorCode Z T m = some (v, T') ∧ q_fY m T T' ∧ q_Re Z x m (N + 1) S T' := by
  obtain ⟨T0, e0, z0, f0, h0⟩ := q_zero h
  obtain ⟨n, n9, d1, d2, d3, d4, d5⟩ := h0.rd
  refine ⟨T0.1 m 18, T0, ?_, ?_, f0, ⟨pb, ns, nk, nc, q_Rel_N h0 (Nat.le_succ _)⟩⟩
  · unfold f_X8_errorCode
    rw [m_gd_t h.ox, h.r0, m_b1_s, m_gd_t h.o1, d3]
  · unfold f_X9_errorCode
    rw [m_gd_t h0.M.o, m_lt_s, e0]
theorem J_errorPosition (h : q_Rel Z x m N pb ns nk nc S T) : ∃ v T', f_X8_errorPosition Z S x = some v ∧ f_X9_errorPosition Z T m = some (v, T') ∧ q_fY m T T' ∧ q_Re Z x m (N + 1) S T' := by
  obtain ⟨T0, e0, z0, f0, h0⟩ := q_zero h
  obtain ⟨n, n9, d1, d2, d3, d4, d5⟩ := h0.rd
  refine ⟨T0.1 m 19, T0, ?_, ?_, f0, ⟨pb, ns, nk, nc, q_Rel_N h0 (Nat.le_succ _)⟩⟩
  · unfold f_X8_errorPosition
    rw [m_gd_t h.ox, h.r0, m_b1_s, m_gd_t h.o1, d4]
  · unfold f_X9_errorPosition
    rw [m_gd_t h0.M.o, m_lt_s, e0]
theorem J_setPoint (h : q_Rel Z x m N pb ns nk nc S T) (p : Int32) : q_JR Z x m (N + 1) [("java/lang/IllegalArgumentException", 1)] (fun a b => a = b) S T (f_X8_setPoint Z S x p) (f_X9_setPoint Z T m p) := by
  obtain ⟨T0, e0, z0, f0, h0⟩ := q_zero h
  have hM := h0.M
  rcases q_cdec (n := 365) (by omega) p with ⟨c, hc, rfl⟩ | hp
  · refine q_JR_ok h0 f0 z0 (a := q_set (q_d (T0.1 (m + 1))) (q_s (T0.1 (m + 1))) ns (Int32.ofNat c)) (b := q_set (q_d (T0.1 (m + 1))) (q_s (T0.1 (m + 1))) ns (Int32.ofNat c)) ?_ ?_ rfl
    · unfold f_X8_setPoint
      rw [if_neg (io_nn hc (by omega)), if_pos (show Int32.ofNat c < 365 from (io_lt (b := 365) (by omega) (by omega)).mpr hc), m_gd_t h.ox, h.r1, m_b1_s, m_gd_t h.opb, g_setp h0.s9, m_b1_s]
    · unfold f_X9_setPoint
      rw [m_gd_t hM.o, m_lt_s, e0, e_isInN (hi := 364) (n := 364) rfl (by omega), m_b1_s, e_may hM.o z0 z10, if_pos ⟨Int32.not_lt.mp (io_nn hc (by omega)), (io_lt (by omega) (by omega)).mpr hc⟩, if_neg z10, e_set hM h0.s9.2.1.2.2.2.1 h0.s9.2.2.2.2.1, m_b1_s]
  · refine q_JR_er h0 f0 (s := "java/lang/IllegalArgumentException") (b := 0) (k := 1) ?_ ?_ (by simp)
    · unfold f_X8_setPoint
      by_cases q : p < 0
      · rw [if_pos q]
      · rw [if_neg q, if_neg (show ¬ p < 365 from Int32.not_lt.mpr (hp.resolve_left q))]
    · unfold f_X9_setPoint
      rw [m_gd_t hM.o, m_lt_s, e0, e_isInN (hi := 364) (n := 364) rfl (by omega), m_b1_s, e_may hM.o z0 z10, if_neg (fun z => hp.elim (fun q => absurd z.1 (Int32.not_le.mpr q)) (fun q => absurd z.2 (Int32.not_lt.mpr q))), if_pos z00]
theorem J_visitors (h : q_Rel Z x m N pb ns nk nc S T) (p : Int32) : q_JR Z x m (N + 1) [("java/lang/IllegalArgumentException", 1)] (fun a b => a = b) S T (f_X8_visitors Z S x p) (f_X9_visitors_ Z T m p) := by
  obtain ⟨T0, e0, z0, f0, h0⟩ := q_zero h
  have hM := h0.M
  rcases q_cdec (n := 24) (by omega) p with ⟨c, hc, rfl⟩ | hp
  · refine q_JR_ok h0 f0 z0 (a := T0.1 (m + 1) (30 + c)) (b := T0.1 (m + 1) (30 + c)) ?_ ?_ rfl
    · unfold f_X8_visitors
      rw [if_neg (io_nn hc (by omega)), if_pos (show Int32.ofNat c < 24 from (io_lt (b := 24) (by omega) (by omega)).mpr hc), m_gd_t h.ox, h.r1, m_b1_s, m_gd_t h.opb, g_visitors h0.s9 h0.s9.1.2.2.2.1 hc, m_b1_s]
    · have ei : (30 : Int32) + Int32.ofNat c = Int32.ofNat (30 + c) := io_add 30 c
      unfold f_X9_visitors_
      rw [m_gd_t hM.o, m_lt_s, e0, e_isInN (hi := 23) (n := 23) rfl (by omega), m_b1_s, e_may hM.o z0 z10, if_pos ⟨Int32.not_lt.mp (io_nn hc (by omega)), (io_lt (by omega) (by omega)).mpr hc⟩, if_neg z10, hM.p.1, m_b1_s, m_gd_t hM.p.2.1, m_lt_s, ei, m_gd_t (q_inn hM.p.2 (by omega) (by omega)), io_tn (by omega)]
  · refine q_JR_er h0 f0 (s := "java/lang/IllegalArgumentException") (b := 0) (k := 1) ?_ ?_ (by simp)
    · unfold f_X8_visitors
      by_cases q : p < 0
      · rw [if_pos q]
      · rw [if_neg q, if_neg (show ¬ p < 24 from Int32.not_lt.mpr (hp.resolve_left q))]
    · unfold f_X9_visitors_
      rw [m_gd_t hM.o, m_lt_s, e0, e_isInN (hi := 23) (n := 23) rfl (by omega), m_b1_s, e_may hM.o z0 z10, if_neg (fun z => hp.elim (fun q => absurd z.1 (Int32.not_le.mpr q)) (fun q => absurd z.2 (Int32.not_lt.mpr q))), if_pos z00]
theorem J_content (h : q_Rel Z x m N pb ns nk nc S T) (p q : Int32) : q_JR Z x m (N + 1) [("java/lang/IndexOutOfBoundsException", 1)] (fun a b => a = b) S T (f_X8_content Z S x p q) (f_X9_content Z T m p q) := by
  obtain ⟨T0, e0, z0, f0, h0⟩ := q_zero h
  have hM := h0.M
  have h4 := h0.nk4
  rcases q_cdec (n := nk) (by omega) p with ⟨k, hk, rfl⟩ | hp
  · obtain ⟨k1, k2, k3⟩ := h0.ks.2 k hk
    refine q_JR_ok h0 f0 z0 (a := q_ct (q_x (T0.1 (m + 1)) k) (q_y (T0.1 (m + 1)) k) (q_nn (T0.1 (m + 1)) k) q) (b := q_ct (q_x (T0.1 (m + 1)) k) (q_y (T0.1 (m + 1)) k) (q_nn (T0.1 (m + 1)) k) q) ?_ ?_ rfl
    · unfold f_X8_content
      rw [m_gd_t h.ox, g_kindAt h hk, m_bt_s, m_gd_t k1.1, g_content k1 k2 k3, m_b1_s]
    · unfold f_X9_content
      rw [m_gd_t hM.o, m_lt_s, e0, e_isKind hM h0.n4 (by omega), m_b1_s, e_may hM.o z0 z10, if_pos ⟨Int32.not_lt.mp (io_nn hk (by omega)), (io_lt (by omega) (by omega)).mpr hk⟩, if_neg z10, e_content hM (by omega) k3, m_b1_s]
  · refine q_JR_er h0 f0 (s := "java/lang/IndexOutOfBoundsException") (b := 0) (k := 1) ?_ ?_ (by simp)
    · unfold f_X8_content
      rw [m_gd_t h.ox, g_kindNo h hp, m_bt_e]
    · unfold f_X9_content
      rw [m_gd_t hM.o, m_lt_s, e0, e_isKind hM h0.n4 (by omega), m_b1_s, e_may hM.o z0 z10, if_neg (fun z => hp.elim (fun q => absurd z.1 (Int32.not_le.mpr q)) (fun q => absurd z.2 (Int32.not_lt.mpr q))), if_pos z00]
end EASY
