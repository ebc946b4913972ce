/-! calls that only read -/
theorem q_ne {p : Int32} {n j : Nat} (hp : p < 0 ∨ Int32.ofNat n ≤ p) (hj : j < n) (hn : n < 1000) : ¬ p = Int32.ofNat j := by
  rintro rfl
  rcases hp with q | q
  · exact io_nn hj (by omega) q
  · exact absurd ((io_le (by omega) (by omega)).mp q) (by omega)
section READS
variable {Z : m_Z} {x m N pb ns nk nc : Nat} {S T : m_S}
theorem g_day {Z : m_Z} {S : m_S} {r : Nat} (g : m_ok Z r 4) : f_X4_day Z S r = some (S.1 r 0 / (24 : Int32) - S.1 r 0 / (24 : Int32) / (365 : Int32) * (365 : Int32)) := by
  unfold f_X4_day
  rw [m_gd_t g]
theorem g_hod {Z : m_Z} {S : m_S} {r : Nat} (g : m_ok Z r 4) : f_X4_hourOfDay Z S r = some (S.1 r 0 - S.1 r 0 / (24 : Int32) * (24 : Int32)) := by
  unfold f_X4_hourOfDay
  rw [m_gd_t g]
theorem J_report (h : q_Rel Z x m N pb ns nk nc S T) (p : Int32) : q_JR Z x m (N + 1) [("java/lang/IllegalArgumentException", 1)] (fun a b => a = b) S T (f_X8_report Z S x p) (f_X9_report Z T m p) := by
  obtain ⟨T0, e0, z0, f0, h0⟩ := q_zero h
  have hM := h0.M
  obtain ⟨cnt, t, t9, c5, hg, hser, hst⟩ := h0.sta
  rcases q_cdec (n := 10) (by omega) p with ⟨w, hw, rfl⟩ | hp
  · have hw' : w = 0 ∨ w = 1 ∨ w = 2 ∨ w = 3 ∨ w = 4 ∨ w = 5 ∨ w = 6 ∨ w = 7 ∨ w = 8 ∨ w = 9 := by omega
    rcases hw' with rfl | rfl | rfl | rfl | rfl | rfl | rfl | rfl | rfl | rfl
    · refine q_JR_ok h0 f0 z0 (a := S.1 (x + 138) 0) (b := T0.1 (m + 3) 0) ?_ ?_ (hst.1.1.trans hst.1.2.symm)
      · unfold f_X8_report
        rw [if_pos (rfl : Int32.ofNat 0 = Int32.ofNat 0), m_gd_t h.ox, h.r3, m_b1_s, m_gd_t h.o137, h.r137, m_b1_s, m_gd_t h.o138]
      · unfold f_X9_report
        rw [m_gd_t hM.o, m_lt_s, e0, e_isInN (hi := 9) (n := 9) rfl (by omega), m_b1_s, e_may hM.o z0 z10, if_pos (q_yes hw (by omega)), if_pos z10, if_pos (rfl : Int32.ofNat 0 = Int32.ofNat 0), hM.a.1, m_b1_s, m_gd_t hM.a.2.1, m_gd_t (q_inl (wi := 0) (i := 0) rfl hM.a.2 (by omega) (by omega)), tn0]
    · refine q_JR_ok h0 f0 z0 (a := S.1 (x + 138) 0 / (24 : Int32) - S.1 (x + 138) 0 / (24 : Int32) / (365 : Int32) * (365 : Int32)) (b := T0.1 (m + 3) 0 / (24 : Int32) - T0.1 (m + 3) 0 / (24 : Int32) / (365 : Int32) * (365 : Int32)) ?_ ?_ (by rw [show S.1 (x + 138) 0 = T0.1 (m + 3) 0 from hst.1.1.trans hst.1.2.symm])
      · unfold f_X8_report
        rw [if_neg (show ¬ Int32.ofNat 1 = Int32.ofNat 0 by decide), if_pos (rfl : Int32.ofNat 1 = Int32.ofNat 1), m_gd_t h.ox, h.r3, m_b1_s, m_gd_t h.o137, h.r137, m_b1_s, m_gd_t h.o138, g_day h.o138, m_b1_s]
      · unfold f_X9_report
        rw [m_gd_t hM.o, m_lt_s, e0, e_isInN (hi := 9) (n := 9) rfl (by omega), m_b1_s, e_may hM.o z0 z10, if_pos (q_yes hw (by omega)), if_pos z10, if_neg (show ¬ Int32.ofNat 1 = Int32.ofNat 0 by decide), if_pos (rfl : Int32.ofNat 1 = Int32.ofNat 1), hM.a.1, m_b1_s, m_gd_t hM.a.2.1, m_gd_t (q_inl (wi := 0) (i := 0) rfl hM.a.2 (by omega) (by omega)), tn0]
    · refine q_JR_ok h0 f0 z0 (a := S.1 (x + 138) 0 - S.1 (x + 138) 0 / (24 : Int32) * (24 : Int32)) (b := T0.1 (m + 3) 0 - T0.1 (m + 3) 0 / (24 : Int32) * (24 : Int32)) ?_ ?_ (by rw [show S.1 (x + 138) 0 = T0.1 (m + 3) 0 from hst.1.1.trans hst.1.2.symm])
      · unfold f_X8_report
        rw [if_neg (show ¬ Int32.ofNat 2 = Int32.ofNat 0 by decide), if_neg (show ¬ Int32.ofNat 2 = Int32.ofNat 1 by decide), if_pos (rfl : Int32.ofNat 2 = Int32.ofNat 2), m_gd_t h.ox, h.r3, m_b1_s, m_gd_t h.o137, h.r137, m_b1_s, m_gd_t h.o138, g_hod h.o138, m_b1_s]
      · unfold f_X9_report
        rw [m_gd_t hM.o, m_lt_s, e0, e_isInN (hi := 9) (n := 9) rfl (by omega), m_b1_s, e_may hM.o z0 z10, if_pos (q_yes hw (by omega)), if_pos z10, if_neg (show ¬ Int32.ofNat 2 = Int32.ofNat 0 by decide), if_neg (show ¬ Int32.ofNat 2 = Int32.ofNat 1 by decide), if_pos (rfl : Int32.ofNat 2 = Int32.ofNat 2), hM.a.1, m_b1_s, m_gd_t hM.a.2.1, m_gd_t (q_inl (wi := 0) (i := 0) rfl hM.a.2 (by omega) (by omega)), tn0]
    · refine q_JR_ok h0 f0 z0 (a := S.1 pb 8) (b := T0.1 (m + 1) 5) ?_ ?_ (h.c8.trans h0.n5.symm)
      · unfold f_X8_report
        rw [if_neg (show ¬ Int32.ofNat 3 = Int32.ofNat 0 by decide), if_neg (show ¬ Int32.ofNat 3 = Int32.ofNat 1 by decide), if_neg (show ¬ Int32.ofNat 3 = Int32.ofNat 2 by decide), if_pos (rfl : Int32.ofNat 3 = Int32.ofNat 3), m_gd_t h.ox, h.r1, m_b1_s, m_gd_t h.opb]
      · unfold f_X9_report
        rw [m_gd_t hM.o, m_lt_s, e0, e_isInN (hi := 9) (n := 9) rfl (by omega), m_b1_s, e_may hM.o z0 z10, if_pos (q_yes hw (by omega)), if_pos z10, if_neg (show ¬ Int32.ofNat 3 = Int32.ofNat 0 by decide), if_neg (show ¬ Int32.ofNat 3 = Int32.ofNat 1 by decide), if_neg (show ¬ Int32.ofNat 3 = Int32.ofNat 2 by decide), if_pos (rfl : Int32.ofNat 3 = Int32.ofNat 3), hM.p.1, m_b1_s, m_gd_t hM.p.2.1, m_gd_t (q_inl (wi := 5) (i := 5) rfl hM.p.2 (by omega) (by omega)), tn5]
    · refine q_JR_ok h0 f0 z0 (a := S.1 pb 6) (b := T0.1 (m + 1) 4) ?_ ?_ (h.c6.trans h0.n4.symm)
      · unfold f_X8_report
        rw [if_neg (show ¬ Int32.ofNat 4 = Int32.ofNat 0 by decide), if_neg (show ¬ Int32.ofNat 4 = Int32.ofNat 1 by decide), if_neg (show ¬ Int32.ofNat 4 = Int32.ofNat 2 by decide), if_neg (show ¬ Int32.ofNat 4 = Int32.ofNat 3 by decide), if_pos (rfl : Int32.ofNat 4 = Int32.ofNat 4), m_gd_t h.ox, h.r1, m_b1_s, m_gd_t h.opb]
      · unfold f_X9_report
        rw [m_gd_t hM.o, m_lt_s, e0, e_isInN (hi := 9) (n := 9) rfl (by omega), m_b1_s, e_may hM.o z0 z10, if_pos (q_yes hw (by omega)), if_pos z10, if_neg (show ¬ Int32.ofNat 4 = Int32.ofNat 0 by decide), if_neg (show ¬ Int32.ofNat 4 = Int32.ofNat 1 by decide), if_neg (show ¬ Int32.ofNat 4 = Int32.ofNat 2 by decide), if_neg (show ¬ Int32.ofNat 4 = Int32.ofNat 3 by decide), if_pos (rfl : Int32.ofNat 4 = Int32.ofNat 4), hM.p.1, m_b1_s, m_gd_t hM.p.2.1, m_gd_t (q_inl (wi := 4) (i := 4) rfl hM.p.2 (by omega) (by omega)), tn4]
    · refine q_JR_ok h0 f0 z0 (a := q_sm (fun i => S.1 (x + 137 + 4 + 10 * i) 5) nc) (b := q_sm (fun i => T0.1 (m + 3) (8 + 56 * i)) nc) ?_ ?_ (q_sm_congr (fun i hi => (hst.2.2.2.2.2 i hi).1.2.2.2.2.2.1.trans (hst.2.2.2.2.2 i hi).1.2.2.2.2.2.2.1.symm))
      · unfold f_X8_report
        rw [if_neg (show ¬ Int32.ofNat 5 = Int32.ofNat 0 by decide), if_neg (show ¬ Int32.ofNat 5 = Int32.ofNat 1 by decide), if_neg (show ¬ Int32.ofNat 5 = Int32.ofNat 2 by decide), if_neg (show ¬ Int32.ofNat 5 = Int32.ofNat 3 by decide), if_neg (show ¬ Int32.ofNat 5 = Int32.ofNat 4 by decide), if_pos (rfl : Int32.ofNat 5 = Int32.ofNat 5), m_gd_t h.ox, h.r3, m_b1_s, m_gd_t h.o137, g_call (cnt := cnt) h.st hst.2.2.2.2.1 h.nc6, m_b1_s]
      · unfold f_X9_report
        rw [m_gd_t hM.o, m_lt_s, e0, e_isInN (hi := 9) (n := 9) rfl (by omega), m_b1_s, e_may hM.o z0 z10, if_pos (q_yes hw (by omega)), if_pos z10, if_neg (show ¬ Int32.ofNat 5 = Int32.ofNat 0 by decide), if_neg (show ¬ Int32.ofNat 5 = Int32.ofNat 1 by decide), if_neg (show ¬ Int32.ofNat 5 = Int32.ofNat 2 by decide), if_neg (show ¬ Int32.ofNat 5 = Int32.ofNat 3 by decide), if_neg (show ¬ Int32.ofNat 5 = Int32.ofNat 4 by decide), if_pos (rfl : Int32.ofNat 5 = Int32.ofNat 5), e_call hM h0.n5 h.nc6, m_b1_s]
    · refine q_JR_ok h0 f0 z0 (a := S.1 (x + 137) 1) (b := T0.1 (m + 3) 3) ?_ ?_ (hst.2.2.2.1)
      · unfold f_X8_report
        rw [if_neg (show ¬ Int32.ofNat 6 = Int32.ofNat 0 by decide), if_neg (show ¬ Int32.ofNat 6 = Int32.ofNat 1 by decide), if_neg (show ¬ Int32.ofNat 6 = Int32.ofNat 2 by decide), if_neg (show ¬ Int32.ofNat 6 = Int32.ofNat 3 by decide), if_neg (show ¬ Int32.ofNat 6 = Int32.ofNat 4 by decide), if_neg (show ¬ Int32.ofNat 6 = Int32.ofNat 5 by decide), if_pos (rfl : Int32.ofNat 6 = Int32.ofNat 6), m_gd_t h.ox, h.r3, m_b1_s, m_gd_t h.o137]
      · unfold f_X9_report
        rw [m_gd_t hM.o, m_lt_s, e0, e_isInN (hi := 9) (n := 9) rfl (by omega), m_b1_s, e_may hM.o z0 z10, if_pos (q_yes hw (by omega)), if_pos z10, if_neg (show ¬ Int32.ofNat 6 = Int32.ofNat 0 by decide), if_neg (show ¬ Int32.ofNat 6 = Int32.ofNat 1 by decide), if_neg (show ¬ Int32.ofNat 6 = Int32.ofNat 2 by decide), if_neg (show ¬ Int32.ofNat 6 = Int32.ofNat 3 by decide), if_neg (show ¬ Int32.ofNat 6 = Int32.ofNat 4 by decide), if_neg (show ¬ Int32.ofNat 6 = Int32.ofNat 5 by decide), if_pos (rfl : Int32.ofNat 6 = Int32.ofNat 6), hM.a.1, m_b1_s, m_gd_t hM.a.2.1, m_gd_t (q_inl (wi := 3) (i := 3) rfl hM.a.2 (by omega) (by omega)), tn3]
    · refine q_JR_ok h0 f0 z0 (a := S.1 (x + 138) 1) (b := T0.1 (m + 3) 1) ?_ ?_ (hst.2.1)
      · unfold f_X8_report
        rw [if_neg (show ¬ Int32.ofNat 7 = Int32.ofNat 0 by decide), if_neg (show ¬ Int32.ofNat 7 = Int32.ofNat 1 by decide), if_neg (show ¬ Int32.ofNat 7 = Int32.ofNat 2 by decide), if_neg (show ¬ Int32.ofNat 7 = Int32.ofNat 3 by decide), if_neg (show ¬ Int32.ofNat 7 = Int32.ofNat 4 by decide), if_neg (show ¬ Int32.ofNat 7 = Int32.ofNat 5 by decide), if_neg (show ¬ Int32.ofNat 7 = Int32.ofNat 6 by decide), if_pos (rfl : Int32.ofNat 7 = Int32.ofNat 7), m_gd_t h.ox, h.r3, m_b1_s, m_gd_t h.o137, h.r137, m_b1_s, m_gd_t h.o138]
      · unfold f_X9_report
        rw [m_gd_t hM.o, m_lt_s, e0, e_isInN (hi := 9) (n := 9) rfl (by omega), m_b1_s, e_may hM.o z0 z10, if_pos (q_yes hw (by omega)), if_pos z10, if_neg (show ¬ Int32.ofNat 7 = Int32.ofNat 0 by decide), if_neg (show ¬ Int32.ofNat 7 = Int32.ofNat 1 by decide), if_neg (show ¬ Int32.ofNat 7 = Int32.ofNat 2 by decide), if_neg (show ¬ Int32.ofNat 7 = Int32.ofNat 3 by decide), if_neg (show ¬ Int32.ofNat 7 = Int32.ofNat 4 by decide), if_neg (show ¬ Int32.ofNat 7 = Int32.ofNat 5 by decide), if_neg (show ¬ Int32.ofNat 7 = Int32.ofNat 6 by decide), if_pos (rfl : Int32.ofNat 7 = Int32.ofNat 7), hM.a.1, m_b1_s, m_gd_t hM.a.2.1, m_gd_t (q_inl (wi := 1) (i := 1) rfl hM.a.2 (by omega) (by omega)), tn1]
    · refine q_JR_ok h0 f0 z0 (a := q_rm (T0.1 (m + 1)) ns (S.1 (x + 138) 0) (S.1 (x + 138) 1)) (b := q_rm (T0.1 (m + 1)) ns (T0.1 (m + 3) 0) (T0.1 (m + 3) 1)) ?_ ?_ (by rw [show S.1 (x + 138) 0 = T0.1 (m + 3) 0 from hst.1.1.trans hst.1.2.symm, show S.1 (x + 138) 1 = T0.1 (m + 3) 1 from hst.2.1])
      · unfold f_X8_report
        rw [if_neg (show ¬ Int32.ofNat 8 = Int32.ofNat 0 by decide), if_neg (show ¬ Int32.ofNat 8 = Int32.ofNat 1 by decide), if_neg (show ¬ Int32.ofNat 8 = Int32.ofNat 2 by decide), if_neg (show ¬ Int32.ofNat 8 = Int32.ofNat 3 by decide), if_neg (show ¬ Int32.ofNat 8 = Int32.ofNat 4 by decide), if_neg (show ¬ Int32.ofNat 8 = Int32.ofNat 5 by decide), if_neg (show ¬ Int32.ofNat 8 = Int32.ofNat 6 by decide), if_neg (show ¬ Int32.ofNat 8 = Int32.ofNat 7 by decide), if_pos (rfl : Int32.ofNat 8 = Int32.ofNat 8), m_gd_t h.ox, h.r3, m_b1_s, m_gd_t h.o137, h.r137, m_b1_s, h.r1, m_b1_s, m_gd_t h.o138, g_room h0.s9 h.o138, m_b1_s]
      · unfold f_X9_report
        rw [m_gd_t hM.o, m_lt_s, e0, e_isInN (hi := 9) (n := 9) rfl (by omega), m_b1_s, e_may hM.o z0 z10, if_pos (q_yes hw (by omega)), if_pos z10, if_neg (show ¬ Int32.ofNat 8 = Int32.ofNat 0 by decide), if_neg (show ¬ Int32.ofNat 8 = Int32.ofNat 1 by decide), if_neg (show ¬ Int32.ofNat 8 = Int32.ofNat 2 by decide), if_neg (show ¬ Int32.ofNat 8 = Int32.ofNat 3 by decide), if_neg (show ¬ Int32.ofNat 8 = Int32.ofNat 4 by decide), if_neg (show ¬ Int32.ofNat 8 = Int32.ofNat 5 by decide), if_neg (show ¬ Int32.ofNat 8 = Int32.ofNat 6 by decide), if_neg (show ¬ Int32.ofNat 8 = Int32.ofNat 7 by decide), if_pos (rfl : Int32.ofNat 8 = Int32.ofNat 8), e_room hM h0.s9.2.1.2.2.2.1 h0.s9.2.2.2.2.1, m_b1_s]
    · refine q_JR_ok h0 f0 z0 (a := S.1 (x + 138) 2) (b := T0.1 (m + 3) 2) ?_ ?_ (hst.2.2.1)
      · unfold f_X8_report
        rw [if_neg (show ¬ Int32.ofNat 9 = Int32.ofNat 0 by decide), if_neg (show ¬ Int32.ofNat 9 = Int32.ofNat 1 by decide), if_neg (show ¬ Int32.ofNat 9 = Int32.ofNat 2 by decide), if_neg (show ¬ Int32.ofNat 9 = Int32.ofNat 3 by decide), if_neg (show ¬ Int32.ofNat 9 = Int32.ofNat 4 by decide), if_neg (show ¬ Int32.ofNat 9 = Int32.ofNat 5 by decide), if_neg (show ¬ Int32.ofNat 9 = Int32.ofNat 6 by decide), if_neg (show ¬ Int32.ofNat 9 = Int32.ofNat 7 by decide), if_neg (show ¬ Int32.ofNat 9 = Int32.ofNat 8 by decide), if_pos (rfl : Int32.ofNat 9 = Int32.ofNat 9), m_gd_t h.ox, h.r3, m_b1_s, m_gd_t h.o137, h.r137, m_b1_s, m_gd_t h.o138]
      · unfold f_X9_report
        rw [m_gd_t hM.o, m_lt_s, e0, e_isInN (hi := 9) (n := 9) rfl (by omega), m_b1_s, e_may hM.o z0 z10, if_pos (q_yes hw (by omega)), if_pos z10, if_neg (show ¬ Int32.ofNat 9 = Int32.ofNat 0 by decide), if_neg (show ¬ Int32.ofNat 9 = Int32.ofNat 1 by decide), if_neg (show ¬ Int32.ofNat 9 = Int32.ofNat 2 by decide), if_neg (show ¬ Int32.ofNat 9 = Int32.ofNat 3 by decide), if_neg (show ¬ Int32.ofNat 9 = Int32.ofNat 4 by decide), if_neg (show ¬ Int32.ofNat 9 = Int32.ofNat 5 by decide), if_neg (show ¬ Int32.ofNat 9 = Int32.ofNat 6 by decide), if_neg (show ¬ Int32.ofNat 9 = Int32.ofNat 7 by decide), if_neg (show ¬ Int32.ofNat 9 = Int32.ofNat 8 by decide), hM.a.1, m_b1_s, m_gd_t hM.a.2.1, m_gd_t (q_inl (wi := 2) (i := 2) rfl hM.a.2 (by omega) (by omega)), tn2]
  · refine q_JR_er h0 f0 (s := "java/lang/IllegalArgumentException") (b := 0) (k := 1) ?_ ?_ (by simp)
    · unfold f_X8_report
      rw [if_neg (q_ne hp (j := 0) (by omega) (by omega)), if_neg (q_ne hp (j := 1) (by omega) (by omega)), if_neg (q_ne hp (j := 2) (by omega) (by omega)), if_neg (q_ne hp (j := 3) (by omega) (by omega)), if_neg (q_ne hp (j := 4) (by omega) (by omega)), if_neg (q_ne hp (j := 5) (by omega) (by omega)), if_neg (q_ne hp (j := 6) (by omega) (by omega)), if_neg (q_ne hp (j := 7) (by omega) (by omega)), if_neg (q_ne hp (j := 8) (by omega) (by omega)), if_neg (q_ne hp (j := 9) (by omega) (by omega))]
    · unfold f_X9_report
      rw [m_gd_t hM.o, m_lt_s, e0, e_isInN (hi := 9) (n := 9) rfl (by omega), m_b1_s, e_may hM.o z0 z10, if_neg (q_no hp), if_neg nz0]
theorem J_displayCase (h : q_Rel Z x m N pb ns nk nc S T) (p q : Int32) : q_JR Z x m (N + 1) [("java/lang/IndexOutOfBoundsException", 1), ("java/lang/IllegalArgumentException", 2)] (fun a b => a = b) S T (f_X8_displayCase Z S x p q) (f_X9_displayCase Z T m p q) := by
  obtain ⟨T0, e0, z0, f0, h0⟩ := q_zero h
  have hM := h0.M
  have h6 := h0.nc6
  obtain ⟨cnt, t, t9, c5, hg, hser, hst⟩ := h0.sta
  rcases q_cdec h0.cs p with ⟨c, hc, rfl⟩ | hp
  · have hcs := hst.2.2.2.2.2 c hc
    have hV := (h0.st.2.2.2.2 c (by omega)).2.2.1
    have hL := (h0.st.2.2.2.2 c (by omega)).2.2.2
    have e110 : (110 : Int32) + Int32.ofNat c = Int32.ofNat (110 + c) := io_add 110 c
    rw [show x + 137 + 4 + 10 * c = x + 141 + 10 * c by omega] at hcs hV hL
    rcases q_cdec (n := 11) (by omega) q with ⟨w, hw, rfl⟩ | hq
    · have hw' : w = 0 ∨ w = 1 ∨ w = 2 ∨ w = 3 ∨ w = 4 ∨ w = 5 ∨ w = 6 ∨ w = 7 ∨ w = 8 ∨ w = 9 ∨ w = 10 := by omega
      rcases hw' with rfl | rfl | rfl | rfl | rfl | rfl | rfl | rfl | rfl | rfl | rfl
      · refine q_JR_ok h0 f0 z0 (a := S.1 (x + 141 + 10 * c) 0) (b := T0.1 (m + 1) (110 + c)) ?_ ?_ (hcs.1.1)
        · unfold f_X8_displayCase
          rw [m_gd_t h.ox, g_vitAt h hc, m_bt_s, g_logAt h hc, m_bt_s, if_pos (rfl : Int32.ofNat 0 = Int32.ofNat 0), m_gd_t hV.1]
        · unfold f_X9_displayCase
          rw [m_gd_t hM.o, m_lt_s, e0, e_isCase hM h0.n5 h0.cs, m_b1_s, e_may hM.o z0 z10, if_pos (q_yes hc (by omega)), if_neg z10, e_isInN (hi := 10) (n := 10) rfl (by omega), m_b1_s, e_may hM.o z0 z20, if_pos (q_yes hw (by omega)), if_pos z10, if_pos (rfl : Int32.ofNat 0 = Int32.ofNat 0), hM.p.1, m_b1_s, m_gd_t hM.p.2.1, m_lt_s, e110, m_gd_t (q_inn hM.p.2 (by omega) (by omega)), io_tn (by omega)]
      · refine q_JR_ok h0 f0 z0 (a := S.1 (x + 141 + 10 * c) 1) (b := T0.1 (m + 3) (4 + 56 * c + 0)) ?_ ?_ ((show S.1 (x + 141 + 10 * c) 1 = T0.1 (m + 3) (4 + 56 * c + 0) from hcs.1.2.1.trans (congrArg (T0.1 (m + 3)) (by omega))))
        · unfold f_X8_displayCase
          rw [m_gd_t h.ox, g_vitAt h hc, m_bt_s, g_logAt h hc, m_bt_s, if_neg (show ¬ Int32.ofNat 1 = Int32.ofNat 0 by decide), if_pos (rfl : Int32.ofNat 1 = Int32.ofNat 1), m_gd_t hV.1]
        · unfold f_X9_displayCase
          rw [m_gd_t hM.o, m_lt_s, e0, e_isCase hM h0.n5 h0.cs, m_b1_s, e_may hM.o z0 z10, if_pos (q_yes hc (by omega)), if_neg z10, e_isInN (hi := 10) (n := 10) rfl (by omega), m_b1_s, e_may hM.o z0 z20, if_pos (q_yes hw (by omega)), if_pos z10, if_neg (show ¬ Int32.ofNat 1 = Int32.ofNat 0 by decide), if_pos (rfl : Int32.ofNat 1 = Int32.ofNat 1), e_of (wi := 0) hM (w := 0) rfl (by omega) (by omega), m_b1_s]
      · refine q_JR_ok h0 f0 z0 (a := S.1 (x + 141 + 10 * c) 4) (b := T0.1 (m + 3) (4 + 56 * c + 3)) ?_ ?_ ((show S.1 (x + 141 + 10 * c) 4 = T0.1 (m + 3) (4 + 56 * c + 3) from hcs.1.2.2.2.2.1.trans (congrArg (T0.1 (m + 3)) (by omega))))
        · unfold f_X8_displayCase
          rw [m_gd_t h.ox, g_vitAt h hc, m_bt_s, g_logAt h hc, m_bt_s, if_neg (show ¬ Int32.ofNat 2 = Int32.ofNat 0 by decide), if_neg (show ¬ Int32.ofNat 2 = Int32.ofNat 1 by decide), if_pos (rfl : Int32.ofNat 2 = Int32.ofNat 2), m_gd_t hV.1]
        · unfold f_X9_displayCase
          rw [m_gd_t hM.o, m_lt_s, e0, e_isCase hM h0.n5 h0.cs, m_b1_s, e_may hM.o z0 z10, if_pos (q_yes hc (by omega)), if_neg z10, e_isInN (hi := 10) (n := 10) rfl (by omega), m_b1_s, e_may hM.o z0 z20, if_pos (q_yes hw (by omega)), if_pos z10, if_neg (show ¬ Int32.ofNat 2 = Int32.ofNat 0 by decide), if_neg (show ¬ Int32.ofNat 2 = Int32.ofNat 1 by decide), if_pos (rfl : Int32.ofNat 2 = Int32.ofNat 2), e_of (wi := 3) hM (w := 3) rfl (by omega) (by omega), m_b1_s]
      · refine q_JR_ok h0 f0 z0 (a := ((1000 : Int32) * S.1 (x + 141 + 10 * c) 4) / S.1 (x + 141 + 10 * c) 0) (b := ((1000 : Int32) * T0.1 (m + 3) (7 + 56 * c)) / T0.1 (m + 1) (110 + c)) ?_ ?_ (by rw [hcs.1.1, hcs.1.2.2.2.2.1])
        · unfold f_X8_displayCase
          rw [m_gd_t h.ox, g_vitAt h hc, m_bt_s, g_logAt h hc, m_bt_s, if_neg (show ¬ Int32.ofNat 3 = Int32.ofNat 0 by decide), if_neg (show ¬ Int32.ofNat 3 = Int32.ofNat 1 by decide), if_neg (show ¬ Int32.ofNat 3 = Int32.ofNat 2 by decide), if_pos (rfl : Int32.ofNat 3 = Int32.ofNat 3), m_gd_t hV.1, g_hum hV.1 (by rw [hcs.1.1]; exact hcs.2.1.1.1), m_b1_s]
        · unfold f_X9_displayCase
          rw [m_gd_t hM.o, m_lt_s, e0, e_isCase hM h0.n5 h0.cs, m_b1_s, e_may hM.o z0 z10, if_pos (q_yes hc (by omega)), if_neg z10, e_isInN (hi := 10) (n := 10) rfl (by omega), m_b1_s, e_may hM.o z0 z20, if_pos (q_yes hw (by omega)), if_pos z10, if_neg (show ¬ Int32.ofNat 3 = Int32.ofNat 0 by decide), if_neg (show ¬ Int32.ofNat 3 = Int32.ofNat 1 by decide), if_neg (show ¬ Int32.ofNat 3 = Int32.ofNat 2 by decide), if_pos (rfl : Int32.ofNat 3 = Int32.ofNat 3), e_hum hM (by omega) hcs.2.1.1.1 hcs.2.1.1.2 hcs.2.1.2.2.1.1 hcs.2.1.2.2.1.2, m_b1_s]
      · refine q_JR_ok h0 f0 z0 (a := S.1 (x + 141 + 10 * c) 5) (b := T0.1 (m + 3) (4 + 56 * c + 4)) ?_ ?_ (hcs.1.2.2.2.2.2.1.trans (hcs.1.2.2.2.2.2.2.1.symm.trans (congrArg (T0.1 (m + 3)) (by omega))))
        · unfold f_X8_displayCase
          rw [m_gd_t h.ox, g_vitAt h hc, m_bt_s, g_logAt h hc, m_bt_s, if_neg (show ¬ Int32.ofNat 4 = Int32.ofNat 0 by decide), if_neg (show ¬ Int32.ofNat 4 = Int32.ofNat 1 by decide), if_neg (show ¬ Int32.ofNat 4 = Int32.ofNat 2 by decide), if_neg (show ¬ Int32.ofNat 4 = Int32.ofNat 3 by decide), if_pos (rfl : Int32.ofNat 4 = Int32.ofNat 4), m_gd_t hV.1]
        · unfold f_X9_displayCase
          rw [m_gd_t hM.o, m_lt_s, e0, e_isCase hM h0.n5 h0.cs, m_b1_s, e_may hM.o z0 z10, if_pos (q_yes hc (by omega)), if_neg z10, e_isInN (hi := 10) (n := 10) rfl (by omega), m_b1_s, e_may hM.o z0 z20, if_pos (q_yes hw (by omega)), if_pos z10, if_neg (show ¬ Int32.ofNat 4 = Int32.ofNat 0 by decide), if_neg (show ¬ Int32.ofNat 4 = Int32.ofNat 1 by decide), if_neg (show ¬ Int32.ofNat 4 = Int32.ofNat 2 by decide), if_neg (show ¬ Int32.ofNat 4 = Int32.ofNat 3 by decide), if_pos (rfl : Int32.ofNat 4 = Int32.ofNat 4), e_of (wi := 4) hM (w := 4) rfl (by omega) (by omega), m_b1_s]
      · refine q_JR_ok h0 f0 z0 (a := q_sm (fun i => S.1 (x + 141 + 10 * c + 2 + i) 3) (cnt c)) (b := q_sm (fun i => T0.1 (m + 3) (15 + 56 * c + 4 * i)) (cnt c)) ?_ ?_ ((q_sum9 (Z := Z) hcs.1 hcs.2.1 h0.ks).1)
        · unfold f_X8_displayCase
          rw [m_gd_t h.ox, g_vitAt h hc, m_bt_s, g_logAt h hc, m_bt_s, if_neg (show ¬ Int32.ofNat 5 = Int32.ofNat 0 by decide), if_neg (show ¬ Int32.ofNat 5 = Int32.ofNat 1 by decide), if_neg (show ¬ Int32.ofNat 5 = Int32.ofNat 2 by decide), if_neg (show ¬ Int32.ofNat 5 = Int32.ofNat 3 by decide), if_neg (show ¬ Int32.ofNat 5 = Int32.ofNat 4 by decide), if_pos (rfl : Int32.ofNat 5 = Int32.ofNat 5), m_gd_t hV.1, g_mcas hV hcs.1.2.2.2.2.2.1 hcs.2.1.2.2.2.1, m_b1_s]
        · unfold f_X9_displayCase
          rw [m_gd_t hM.o, m_lt_s, e0, e_isCase hM h0.n5 h0.cs, m_b1_s, e_may hM.o z0 z10, if_pos (q_yes hc (by omega)), if_neg z10, e_isInN (hi := 10) (n := 10) rfl (by omega), m_b1_s, e_may hM.o z0 z20, if_pos (q_yes hw (by omega)), if_pos z10, if_neg (show ¬ Int32.ofNat 5 = Int32.ofNat 0 by decide), if_neg (show ¬ Int32.ofNat 5 = Int32.ofNat 1 by decide), if_neg (show ¬ Int32.ofNat 5 = Int32.ofNat 2 by decide), if_neg (show ¬ Int32.ofNat 5 = Int32.ofNat 3 by decide), if_neg (show ¬ Int32.ofNat 5 = Int32.ofNat 4 by decide), if_pos (rfl : Int32.ofNat 5 = Int32.ofNat 5), e_inCas hM (by omega) hcs.1.2.2.2.2.2.2.1 hcs.2.1.2.2.2.1, m_b1_s]
      · refine q_JR_ok h0 f0 z0 (a := S.1 (x + 141 + 10 * c) 2) (b := T0.1 (m + 3) (4 + 56 * c + 1)) ?_ ?_ ((show S.1 (x + 141 + 10 * c) 2 = T0.1 (m + 3) (4 + 56 * c + 1) from hcs.1.2.2.1.trans (congrArg (T0.1 (m + 3)) (by omega))))
        · unfold f_X8_displayCase
          rw [m_gd_t h.ox, g_vitAt h hc, m_bt_s, g_logAt h hc, m_bt_s, if_neg (show ¬ Int32.ofNat 6 = Int32.ofNat 0 by decide), if_neg (show ¬ Int32.ofNat 6 = Int32.ofNat 1 by decide), if_neg (show ¬ Int32.ofNat 6 = Int32.ofNat 2 by decide), if_neg (show ¬ Int32.ofNat 6 = Int32.ofNat 3 by decide), if_neg (show ¬ Int32.ofNat 6 = Int32.ofNat 4 by decide), if_neg (show ¬ Int32.ofNat 6 = Int32.ofNat 5 by decide), if_pos (rfl : Int32.ofNat 6 = Int32.ofNat 6), m_gd_t hV.1]
        · unfold f_X9_displayCase
          rw [m_gd_t hM.o, m_lt_s, e0, e_isCase hM h0.n5 h0.cs, m_b1_s, e_may hM.o z0 z10, if_pos (q_yes hc (by omega)), if_neg z10, e_isInN (hi := 10) (n := 10) rfl (by omega), m_b1_s, e_may hM.o z0 z20, if_pos (q_yes hw (by omega)), if_pos z10, if_neg (show ¬ Int32.ofNat 6 = Int32.ofNat 0 by decide), if_neg (show ¬ Int32.ofNat 6 = Int32.ofNat 1 by decide), if_neg (show ¬ Int32.ofNat 6 = Int32.ofNat 2 by decide), if_neg (show ¬ Int32.ofNat 6 = Int32.ofNat 3 by decide), if_neg (show ¬ Int32.ofNat 6 = Int32.ofNat 4 by decide), if_neg (show ¬ Int32.ofNat 6 = Int32.ofNat 5 by decide), if_pos (rfl : Int32.ofNat 6 = Int32.ofNat 6), e_of (wi := 1) hM (w := 1) rfl (by omega) (by omega), m_b1_s]
      · refine q_JR_ok h0 f0 z0 (a := S.1 (x + 141 + 10 * c) 3) (b := T0.1 (m + 3) (4 + 56 * c + 2)) ?_ ?_ ((show S.1 (x + 141 + 10 * c) 3 = T0.1 (m + 3) (4 + 56 * c + 2) from hcs.1.2.2.2.1.trans (congrArg (T0.1 (m + 3)) (by omega))))
        · unfold f_X8_displayCase
          rw [m_gd_t h.ox, g_vitAt h hc, m_bt_s, g_logAt h hc, m_bt_s, if_neg (show ¬ Int32.ofNat 7 = Int32.ofNat 0 by decide), if_neg (show ¬ Int32.ofNat 7 = Int32.ofNat 1 by decide), if_neg (show ¬ Int32.ofNat 7 = Int32.ofNat 2 by decide), if_neg (show ¬ Int32.ofNat 7 = Int32.ofNat 3 by decide), if_neg (show ¬ Int32.ofNat 7 = Int32.ofNat 4 by decide), if_neg (show ¬ Int32.ofNat 7 = Int32.ofNat 5 by decide), if_neg (show ¬ Int32.ofNat 7 = Int32.ofNat 6 by decide), if_pos (rfl : Int32.ofNat 7 = Int32.ofNat 7), m_gd_t hV.1]
        · unfold f_X9_displayCase
          rw [m_gd_t hM.o, m_lt_s, e0, e_isCase hM h0.n5 h0.cs, m_b1_s, e_may hM.o z0 z10, if_pos (q_yes hc (by omega)), if_neg z10, e_isInN (hi := 10) (n := 10) rfl (by omega), m_b1_s, e_may hM.o z0 z20, if_pos (q_yes hw (by omega)), if_pos z10, if_neg (show ¬ Int32.ofNat 7 = Int32.ofNat 0 by decide), if_neg (show ¬ Int32.ofNat 7 = Int32.ofNat 1 by decide), if_neg (show ¬ Int32.ofNat 7 = Int32.ofNat 2 by decide), if_neg (show ¬ Int32.ofNat 7 = Int32.ofNat 3 by decide), if_neg (show ¬ Int32.ofNat 7 = Int32.ofNat 4 by decide), if_neg (show ¬ Int32.ofNat 7 = Int32.ofNat 5 by decide), if_neg (show ¬ Int32.ofNat 7 = Int32.ofNat 6 by decide), if_pos (rfl : Int32.ofNat 7 = Int32.ofNat 7), e_of (wi := 2) hM (w := 2) rfl (by omega) (by omega), m_b1_s]
      · refine q_JR_ok h0 f0 z0 (a := S.1 (x + 141 + 10 * c + 8) 4) (b := T0.1 (m + 3) (4 + 56 * c + 5)) ?_ ?_ ((show S.1 (x + 141 + 10 * c + 8) 4 = T0.1 (m + 3) (4 + 56 * c + 5) from hcs.2.2.2.1.trans (congrArg (T0.1 (m + 3)) (by omega))))
        · unfold f_X8_displayCase
          rw [m_gd_t h.ox, g_vitAt h hc, m_bt_s, g_logAt h hc, m_bt_s, if_neg (show ¬ Int32.ofNat 8 = Int32.ofNat 0 by decide), if_neg (show ¬ Int32.ofNat 8 = Int32.ofNat 1 by decide), if_neg (show ¬ Int32.ofNat 8 = Int32.ofNat 2 by decide), if_neg (show ¬ Int32.ofNat 8 = Int32.ofNat 3 by decide), if_neg (show ¬ Int32.ofNat 8 = Int32.ofNat 4 by decide), if_neg (show ¬ Int32.ofNat 8 = Int32.ofNat 5 by decide), if_neg (show ¬ Int32.ofNat 8 = Int32.ofNat 6 by decide), if_neg (show ¬ Int32.ofNat 8 = Int32.ofNat 7 by decide), if_pos (rfl : Int32.ofNat 8 = Int32.ofNat 8), m_gd_t hL.1]
        · unfold f_X9_displayCase
          rw [m_gd_t hM.o, m_lt_s, e0, e_isCase hM h0.n5 h0.cs, m_b1_s, e_may hM.o z0 z10, if_pos (q_yes hc (by omega)), if_neg z10, e_isInN (hi := 10) (n := 10) rfl (by omega), m_b1_s, e_may hM.o z0 z20, if_pos (q_yes hw (by omega)), if_pos z10, if_neg (show ¬ Int32.ofNat 8 = Int32.ofNat 0 by decide), if_neg (show ¬ Int32.ofNat 8 = Int32.ofNat 1 by decide), if_neg (show ¬ Int32.ofNat 8 = Int32.ofNat 2 by decide), if_neg (show ¬ Int32.ofNat 8 = Int32.ofNat 3 by decide), if_neg (show ¬ Int32.ofNat 8 = Int32.ofNat 4 by decide), if_neg (show ¬ Int32.ofNat 8 = Int32.ofNat 5 by decide), if_neg (show ¬ Int32.ofNat 8 = Int32.ofNat 6 by decide), if_neg (show ¬ Int32.ofNat 8 = Int32.ofNat 7 by decide), if_pos (rfl : Int32.ofNat 8 = Int32.ofNat 8), e_of (wi := 5) hM (w := 5) rfl (by omega) (by omega), m_b1_s]
      · refine q_JR_ok h0 f0 z0 (a := S.1 (x + 141 + 10 * c + 8) 5) (b := T0.1 (m + 3) (4 + 56 * c + 6)) ?_ ?_ ((show S.1 (x + 141 + 10 * c + 8) 5 = T0.1 (m + 3) (4 + 56 * c + 6) from hcs.2.2.2.2.1.trans (congrArg (T0.1 (m + 3)) (by omega))))
        · unfold f_X8_displayCase
          rw [m_gd_t h.ox, g_vitAt h hc, m_bt_s, g_logAt h hc, m_bt_s, if_neg (show ¬ Int32.ofNat 9 = Int32.ofNat 0 by decide), if_neg (show ¬ Int32.ofNat 9 = Int32.ofNat 1 by decide), if_neg (show ¬ Int32.ofNat 9 = Int32.ofNat 2 by decide), if_neg (show ¬ Int32.ofNat 9 = Int32.ofNat 3 by decide), if_neg (show ¬ Int32.ofNat 9 = Int32.ofNat 4 by decide), if_neg (show ¬ Int32.ofNat 9 = Int32.ofNat 5 by decide), if_neg (show ¬ Int32.ofNat 9 = Int32.ofNat 6 by decide), if_neg (show ¬ Int32.ofNat 9 = Int32.ofNat 7 by decide), if_neg (show ¬ Int32.ofNat 9 = Int32.ofNat 8 by decide), if_pos (rfl : Int32.ofNat 9 = Int32.ofNat 9), m_gd_t hL.1]
        · unfold f_X9_displayCase
          rw [m_gd_t hM.o, m_lt_s, e0, e_isCase hM h0.n5 h0.cs, m_b1_s, e_may hM.o z0 z10, if_pos (q_yes hc (by omega)), if_neg z10, e_isInN (hi := 10) (n := 10) rfl (by omega), m_b1_s, e_may hM.o z0 z20, if_pos (q_yes hw (by omega)), if_pos z10, if_neg (show ¬ Int32.ofNat 9 = Int32.ofNat 0 by decide), if_neg (show ¬ Int32.ofNat 9 = Int32.ofNat 1 by decide), if_neg (show ¬ Int32.ofNat 9 = Int32.ofNat 2 by decide), if_neg (show ¬ Int32.ofNat 9 = Int32.ofNat 3 by decide), if_neg (show ¬ Int32.ofNat 9 = Int32.ofNat 4 by decide), if_neg (show ¬ Int32.ofNat 9 = Int32.ofNat 5 by decide), if_neg (show ¬ Int32.ofNat 9 = Int32.ofNat 6 by decide), if_neg (show ¬ Int32.ofNat 9 = Int32.ofNat 7 by decide), if_neg (show ¬ Int32.ofNat 9 = Int32.ofNat 8 by decide), if_pos (rfl : Int32.ofNat 9 = Int32.ofNat 9), e_of (wi := 6) hM (w := 6) rfl (by omega) (by omega), m_b1_s]
      · refine q_JR_ok h0 f0 z0 (a := S.1 (x + 141 + 10 * c + 8) 6) (b := T0.1 (m + 3) (4 + 56 * c + 7)) ?_ ?_ ((show S.1 (x + 141 + 10 * c + 8) 6 = T0.1 (m + 3) (4 + 56 * c + 7) from hcs.2.2.2.2.2.1.trans (congrArg (T0.1 (m + 3)) (by omega))))
        · unfold f_X8_displayCase
          rw [m_gd_t h.ox, g_vitAt h hc, m_bt_s, g_logAt h hc, m_bt_s, if_neg (show ¬ Int32.ofNat 10 = Int32.ofNat 0 by decide), if_neg (show ¬ Int32.ofNat 10 = Int32.ofNat 1 by decide), if_neg (show ¬ Int32.ofNat 10 = Int32.ofNat 2 by decide), if_neg (show ¬ Int32.ofNat 10 = Int32.ofNat 3 by decide), if_neg (show ¬ Int32.ofNat 10 = Int32.ofNat 4 by decide), if_neg (show ¬ Int32.ofNat 10 = Int32.ofNat 5 by decide), if_neg (show ¬ Int32.ofNat 10 = Int32.ofNat 6 by decide), if_neg (show ¬ Int32.ofNat 10 = Int32.ofNat 7 by decide), if_neg (show ¬ Int32.ofNat 10 = Int32.ofNat 8 by decide), if_neg (show ¬ Int32.ofNat 10 = Int32.ofNat 9 by decide), if_pos (rfl : Int32.ofNat 10 = Int32.ofNat 10), m_gd_t hL.1]
        · unfold f_X9_displayCase
          rw [m_gd_t hM.o, m_lt_s, e0, e_isCase hM h0.n5 h0.cs, m_b1_s, e_may hM.o z0 z10, if_pos (q_yes hc (by omega)), if_neg z10, e_isInN (hi := 10) (n := 10) rfl (by omega), m_b1_s, e_may hM.o z0 z20, if_pos (q_yes hw (by omega)), if_pos z10, if_neg (show ¬ Int32.ofNat 10 = Int32.ofNat 0 by decide), if_neg (show ¬ Int32.ofNat 10 = Int32.ofNat 1 by decide), if_neg (show ¬ Int32.ofNat 10 = Int32.ofNat 2 by decide), if_neg (show ¬ Int32.ofNat 10 = Int32.ofNat 3 by decide), if_neg (show ¬ Int32.ofNat 10 = Int32.ofNat 4 by decide), if_neg (show ¬ Int32.ofNat 10 = Int32.ofNat 5 by decide), if_neg (show ¬ Int32.ofNat 10 = Int32.ofNat 6 by decide), if_neg (show ¬ Int32.ofNat 10 = Int32.ofNat 7 by decide), if_neg (show ¬ Int32.ofNat 10 = Int32.ofNat 8 by decide), if_neg (show ¬ Int32.ofNat 10 = Int32.ofNat 9 by decide), e_of (wi := 7) hM (w := 7) rfl (by omega) (by omega), m_b1_s]
    · refine q_JR_er h0 f0 (s := "java/lang/IllegalArgumentException") (b := 0) (k := 2) ?_ ?_ (by simp)
      · unfold f_X8_displayCase
        rw [m_gd_t h.ox, g_vitAt h hc, m_bt_s, g_logAt h hc, m_bt_s, if_neg (q_ne hq (j := 0) (by omega) (by omega)), if_neg (q_ne hq (j := 1) (by omega) (by omega)), if_neg (q_ne hq (j := 2) (by omega) (by omega)), if_neg (q_ne hq (j := 3) (by omega) (by omega)), if_neg (q_ne hq (j := 4) (by omega) (by omega)), if_neg (q_ne hq (j := 5) (by omega) (by omega)), if_neg (q_ne hq (j := 6) (by omega) (by omega)), if_neg (q_ne hq (j := 7) (by omega) (by omega)), if_neg (q_ne hq (j := 8) (by omega) (by omega)), if_neg (q_ne hq (j := 9) (by omega) (by omega)), if_neg (q_ne hq (j := 10) (by omega) (by omega))]
      · unfold f_X9_displayCase
        rw [m_gd_t hM.o, m_lt_s, e0, e_isCase hM h0.n5 h0.cs, m_b1_s, e_may hM.o z0 z10, if_pos (q_yes hc (by omega)), if_neg z10, e_isInN (hi := 10) (n := 10) rfl (by omega), m_b1_s, e_may hM.o z0 z20, if_neg (q_no hq), if_neg nz0]
  · refine q_JR_er h0 f0 (s := "java/lang/IndexOutOfBoundsException") (b := 0) (k := 1) ?_ ?_ (by simp)
    · unfold f_X8_displayCase
      rw [m_gd_t h.ox, g_vitNo h hp, m_bt_e]
    · unfold f_X9_displayCase
      rw [m_gd_t hM.o, m_lt_s, e0, e_isCase hM h0.n5 h0.cs, m_b1_s, e_may hM.o z0 z10, if_neg (q_no hp), if_pos z00]
theorem J_balance (h : q_Rel Z x m N pb ns nk nc S T) (p q : Int32) : q_JR Z x m (N + 1) [("java/lang/IndexOutOfBoundsException", 1), ("java/lang/IllegalArgumentException", 2)] (fun a b => a = b) S T (f_X8_balance Z S x p q) (f_X9_balance Z T m p q) := by
  obtain ⟨T0, e0, z0, f0, h0⟩ := q_zero h
  have hM := h0.M
  have h6 := h0.nc6
  obtain ⟨cnt, t, t9, c5, hg, hser, hst⟩ := h0.sta
  rcases q_cdec h0.cs p with ⟨c, hc, rfl⟩ | hp
  · have hcs := hst.2.2.2.2.2 c hc
    have hV := (h0.st.2.2.2.2 c (by omega)).2.2.1
    have hL := (h0.st.2.2.2.2 c (by omega)).2.2.2
    have e110 : (110 : Int32) + Int32.ofNat c = Int32.ofNat (110 + c) := io_add 110 c
    rw [show x + 137 + 4 + 10 * c = x + 141 + 10 * c by omega] at hcs hV hL
    rcases q_cdec (n := 5) (by omega) q with ⟨w, hw, rfl⟩ | hq
    · by_cases hw4 : w = 4
      · subst hw4
        have hs := q_sum9 (Z := Z) hcs.1 hcs.2.1 h0.ks
        refine q_JR_ok h0 f0 z0 (a := (S.1 (x + 141 + 10 * c) 4 + q_sm (fun i => S.1 (x + 141 + 10 * c + 2 + i) 3) (cnt c)).toInt64) (b := (T0.1 (m + 3) (7 + 56 * c)).toInt64 + (q_sm (fun i => T0.1 (m + 3) (15 + 56 * c + 4 * i)) (cnt c)).toInt64) ?_ ?_ ?_
        · unfold f_X8_balance
          rw [m_gd_t h.ox, g_vitAt h hc, m_bt_s, g_logAt h hc, m_bt_s, if_neg (show ¬ Int32.ofNat 4 = Int32.ofNat 0 by decide), if_neg (show ¬ Int32.ofNat 4 = Int32.ofNat 1 by decide), if_neg (show ¬ Int32.ofNat 4 = Int32.ofNat 2 by decide), if_neg (show ¬ Int32.ofNat 4 = Int32.ofNat 3 by decide), if_pos (rfl : Int32.ofNat 4 = Int32.ofNat 4), m_gd_t hV.1, g_moist hV hcs.1.2.2.2.2.2.1 hcs.2.1.2.2.2.1, m_b1_s]
        · unfold f_X9_balance
          rw [m_gd_t hM.o, m_lt_s, e0, e_isCase hM h0.n5 h0.cs, m_b1_s, e_may hM.o z0 z10, if_pos (q_yes hc (by omega)), if_neg z10, e_isInN (hi := 4) (n := 4) rfl (by omega), m_b1_s, e_may hM.o z0 z20, if_pos (q_yes hw (by omega)), if_pos z10, if_neg (show ¬ ¬ Int32.ofNat 4 = (4 : Int32) from fun q => q rfl), e_moist hM (by omega) hcs.1.2.2.2.2.2.2.1 hcs.2.1.2.2.2.1, m_b1_s]
        · have k := hcs.2.1.2.2.1
          rw [hs.1, hcs.1.2.2.2.2.1, l_eq, l_of, t_add (by omega) (by omega), l_add (by rw [l_of, l_of]; omega) (by rw [l_of, l_of]; omega), l_of, l_of]
      · have e5 : (((5 : Int32) * Int32.ofNat c) + (1 : Int32)) + Int32.ofNat w = Int32.ofNat (5 * c + 1 + w) := by
          show Int32.ofNat 5 * Int32.ofNat c + Int32.ofNat 1 + Int32.ofNat w = _
          rw [io_mul, io_add, io_add]
        have hl := hcs.2.2.1
        refine q_JR_ok h0 f0 z0 (a := T0.2.1 (m + 7) (5 * c + 1 + w)) (b := T0.2.1 (m + 7) (5 * c + 1 + w)) ?_ ?_ rfl
        · unfold f_X8_balance
          rw [m_gd_t h.ox, g_vitAt h hc, m_bt_s, g_logAt h hc, m_bt_s]
          have hw' : w = 0 ∨ w = 1 ∨ w = 2 ∨ w = 3 := by omega
          rcases hw' with rfl | rfl | rfl | rfl
          · rw [if_pos (rfl : Int32.ofNat 0 = Int32.ofNat 0), m_gd_t hL.1, hl.1]
          · rw [if_neg (show ¬ Int32.ofNat 1 = Int32.ofNat 0 by decide), if_pos (rfl : Int32.ofNat 1 = Int32.ofNat 1), m_gd_t hL.1, hl.2.1]
          · rw [if_neg (show ¬ Int32.ofNat 2 = Int32.ofNat 0 by decide), if_neg (show ¬ Int32.ofNat 2 = Int32.ofNat 1 by decide), if_pos (rfl : Int32.ofNat 2 = Int32.ofNat 2), m_gd_t hL.1, hl.2.2.1]
          · rw [if_neg (show ¬ Int32.ofNat 3 = Int32.ofNat 0 by decide), if_neg (show ¬ Int32.ofNat 3 = Int32.ofNat 1 by decide), if_neg (show ¬ Int32.ofNat 3 = Int32.ofNat 2 by decide), if_pos (rfl : Int32.ofNat 3 = Int32.ofNat 3), m_gd_t hL.1, hl.2.2.2.1]
        · unfold f_X9_balance
          rw [m_gd_t hM.o, m_lt_s, e0, e_isCase hM h0.n5 h0.cs, m_b1_s, e_may hM.o z0 z10, if_pos (q_yes hc (by omega)), if_neg z10, e_isInN (hi := 4) (n := 4) rfl (by omega), m_b1_s, e_may hM.o z0 z20, if_pos (q_yes hw (by omega)), if_pos z10, if_pos (show ¬ Int32.ofNat w = (4 : Int32) from fun q => by
            have := t_eq.mp q
            rw [t_ofNat (by omega), show (4 : Int32).toInt = 4 from rfl] at this
            omega), hM.b.1, m_b1_s, m_gd_t hM.b.2.1, m_lt_s, e5, m_gd_t (q_inn hM.b.2 (by omega) (by omega)), io_tn (by omega)]
    · refine q_JR_er h0 f0 (s := "java/lang/IllegalArgumentException") (b := 0) (k := 2) ?_ ?_ (by simp)
      · unfold f_X8_balance
        rw [m_gd_t h.ox, g_vitAt h hc, m_bt_s, g_logAt h hc, m_bt_s, if_neg (q_ne hq (j := 0) (by omega) (by omega)), if_neg (q_ne hq (j := 1) (by omega) (by omega)), if_neg (q_ne hq (j := 2) (by omega) (by omega)), if_neg (q_ne hq (j := 3) (by omega) (by omega)), if_neg (q_ne hq (j := 4) (by omega) (by omega))]
      · unfold f_X9_balance
        rw [m_gd_t hM.o, m_lt_s, e0, e_isCase hM h0.n5 h0.cs, m_b1_s, e_may hM.o z0 z10, if_pos (q_yes hc (by omega)), if_neg z10, e_isInN (hi := 4) (n := 4) rfl (by omega), m_b1_s, e_may hM.o z0 z20, if_neg (q_no hq), if_neg nz0]
  · refine q_JR_er h0 f0 (s := "java/lang/IndexOutOfBoundsException") (b := 0) (k := 1) ?_ ?_ (by simp)
    · unfold f_X8_balance
      rw [m_gd_t h.ox, g_vitNo h hp, m_bt_e]
    · unfold f_X9_balance
      rw [m_gd_t hM.o, m_lt_s, e0, e_isCase hM h0.n5 h0.cs, m_b1_s, e_may hM.o z0 z10, if_neg (q_no hp), if_pos z00]
end READS
