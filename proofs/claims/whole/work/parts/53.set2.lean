section SETS2
variable {Z : m_Z} {x m N pb ns nk nc : Nat} {S T : m_S}
theorem q_no {p : Int32} {n : Nat} (hp : p < 0 ∨ Int32.ofNat n ≤ p) : ¬ (0 ≤ p ∧ p < Int32.ofNat n) := fun z => hp.elim (fun q => absurd z.1 (Int32.not_le.mpr q)) (fun q => absurd z.2 (Int32.not_lt.mpr q))
theorem q_yes {c n : Nat} (hc : c < n) (hn : n < 2147483648) : 0 ≤ Int32.ofNat c ∧ Int32.ofNat c < Int32.ofNat n := ⟨Int32.not_lt.mp (io_nn hc hn), (io_lt (by omega) (by omega)).mpr hc⟩
theorem q_Rel.cs (h : q_Rel Z x m N pb ns nk nc S T) : nc < 1000 := by have := h.nc6; omega
theorem J_setLeak (h : q_Rel Z x m N pb ns nk nc S T) (p q : Int32) : q_JW Z x m (N + 1) [("java/lang/IndexOutOfBoundsException", 1), ("java/lang/IllegalArgumentException", 2)] (fun a b => a = b) S T (f_X8_setLeak Z S x p q) (f_X9_setLeak Z T m p q) := by
  obtain ⟨T0, e0, z0, f0, h0⟩ := q_zero h
  have hM := h0.M
  have hm := h0.em
  have h6 := h0.nc6
  obtain ⟨cnt, t, t9, c5, hg, hser, hst⟩ := h0.sta
  have k9 : (1000 : Int32).toInt = 1000 := rfl
  rcases q_cdec h0.cs p with ⟨c, hc, rfl⟩ | hp
  · have hcs := hst.2.2.2.2.2 c hc
    have hV := (h0.st.2.2.2.2 c (by omega)).2.2.1
    rw [show x + 137 + 4 + 10 * c = x + 141 + 10 * c by omega] at hcs hV
    by_cases c1 : 0 ≤ q ∧ q ≤ 1000
    · have c1' := c1
      rw [t_le, t_le, i32_0, k9] at c1'
      refine q_JW_ok (T0 := T0) (S' := m_pI S (x + 141 + 10 * c) 1 q) (T' := m_pI T0 (m + 3) (4 + 56 * c) q) (pb := pb) (ns := ns) (nk := nk) (nc := nc) (a := T0.1 (m + 3) (4 + 56 * c)) (b := T0.1 (m + 3) (4 + 56 * c)) (q_ag_I (q_ag_refl _ S) (by omega)) f0 (q_ag_I (q_ag_refl _ _) (by omega)) ?_ ?_ ?_ ?_ rfl
      · refine q_Rel_main h0 (Nat.le_succ _) (q_ag_I (q_ag_refl _ S) (by omega)) h0.rs (q_ag_I (q_ag_refl _ _) (by omega)) h0.rt ⟨cnt, t, t9, c5, ?_, q_ser_ag2 hser (pI_ne (by omega)) (fun c k hc hk => pI_ne (by have := c5 c hc; omega)) (Nat.le_succ _), ?_⟩
        · rw [pI_ne (by omega)]; exact hg
        · refine q_state_case (c0 := c) (cnt' := cnt) hst h6 hc (q_ag_I (q_ag_refl _ S) (by omega)) (fun k k1 k2 => pI_ne (by omega)) (fun _ _ _ => rfl) (fun _ _ => rfl) ?_
          rw [show x + 137 + 4 + 10 * c = x + 141 + 10 * c by omega]
          obtain ⟨w1, w2⟩ := q_cs_head (a' := (m_pI T0 (m + 3) (4 + 56 * c) q).1 (m + 3)) hcs (q_ag_I (a := x + 141 + 10 * c) (k := 1) (v := q) (q_ag_refl _ S) (by omega)) (fun k k1 k2 => pI_ne (by omega)) (by rw [pI_same, pI_same]) (by rw [pI_ne (by omega), pI_ne (by omega)]; exact hcs.1.2.2.1) (by rw [pI_ne (by omega), pI_ne (by omega)]; exact hcs.1.2.2.2.1) (by rw [pI_ne (by omega), pI_ne (by omega)]; exact hcs.1.2.2.2.2.1) (by rw [pI_same]; exact c1') (by rw [pI_ne (by omega)]; exact hcs.2.1.2.2.1)
          exact ⟨w1, w2, q_log_cp hcs.2.2 (fun _ _ => rfl) (fun k _ => pI_ne (by omega)) (fun k _ => pI_ne (by omega)) (fun k k1 k2 k3 => pI_ne (by omega)) (fun _ _ _ => rfl)⟩
      · rw [pI_ne (by omega)]; exact z0
      · unfold f_X8_setLeak
        rw [m_gd_t h.ox, g_vitAt h hc, m_btw_s, if_neg (Int32.not_lt.mpr c1.1), if_pos c1.2, m_gd_t hV.1, m_lt_s, hcs.1.2.1]
      · unfold f_X9_setLeak
        rw [m_gd_t hM.o, m_lt_s, e0, e_isCase hM h0.n5 h0.cs, m_b1_s, e_may hM.o z0 z10, if_pos (q_yes hc (by omega)), if_neg z10, e_isIn, m_b1_s, e_may hM.o z0 z20, if_pos c1, if_pos z10, e_of (wi := 0) hM (w := 0) rfl (by omega) (by omega), m_b1_s, e_lays (wi := 0) hM (w := 0) rfl (by omega) (by omega), m_bw_s]
        rfl
    · refine q_JW_er h0 f0 (s := "java/lang/IllegalArgumentException") (b := 0) (k := 2) ?_ ?_ (by simp)
      · unfold f_X8_setLeak
        rw [m_gd_t h.ox, g_vitAt h hc, m_btw_s]
        by_cases q1 : q < 0
        · rw [if_pos q1]
        · rw [if_neg q1, if_neg (fun z => c1 ⟨Int32.not_lt.mp q1, z⟩)]
      · unfold f_X9_setLeak
        rw [m_gd_t hM.o, m_lt_s, e0, e_isCase hM h0.n5 h0.cs, m_b1_s, e_may hM.o z0 z10, if_pos (q_yes hc (by omega)), if_neg z10, e_isIn, m_b1_s, e_may hM.o z0 z20, if_neg c1, if_neg nz0]
  · refine q_JW_er h0 f0 (s := "java/lang/IndexOutOfBoundsException") (b := 0) (k := 1) ?_ ?_ (by simp)
    · unfold f_X8_setLeak
      rw [m_gd_t h.ox, g_vitNo h hp, m_btw_e]
    · unfold f_X9_setLeak
      rw [m_gd_t hM.o, m_lt_s, e0, e_isCase hM h0.n5 h0.cs, m_b1_s, e_may hM.o z0 z10, if_neg (q_no hp), if_pos z00]
theorem J_setSafe (h : q_Rel Z x m N pb ns nk nc S T) (p lo hi : Int32) : q_JW Z x m (N + 1) [("java/lang/IndexOutOfBoundsException", 1), ("java/lang/IllegalArgumentException", 2)] (fun _ _ => True) S T (f_X8_setSafe Z S x p lo hi) (f_X9_setSafe Z T m p lo hi) := by
  obtain ⟨T0, e0, z0, f0, h0⟩ := q_zero h
  have hM := h0.M
  have hm := h0.em
  have h6 := h0.nc6
  obtain ⟨cnt, t, t9, c5, hg, hser, hst⟩ := h0.sta
  rcases q_cdec h0.cs p with ⟨c, hc, rfl⟩ | hp
  · have hcs := hst.2.2.2.2.2 c hc
    have hV := (h0.st.2.2.2.2 c (by omega)).2.2.1
    rw [show x + 137 + 4 + 10 * c = x + 141 + 10 * c by omega] at hcs hV
    by_cases c1 : 0 ≤ lo ∧ lo ≤ 1000
    · by_cases c2 : lo ≤ hi ∧ hi ≤ 1000
      · have c3 : 0 ≤ hi ∧ hi ≤ 1000 := ⟨Int32.le_trans c1.1 c2.1, c2.2⟩
        refine q_JW_ok (T0 := T0) (S' := m_pI (m_pI S (x + 141 + 10 * c) 2 lo) (x + 141 + 10 * c) 3 hi) (T' := m_pI (m_pI T0 (m + 3) (4 + 56 * c + 1) lo) (m + 3) (4 + 56 * c + 2) hi) (pb := pb) (ns := ns) (nk := nk) (nc := nc) (a := ()) (b := ()) (q_ag_I (q_ag_I (q_ag_refl _ S) (by omega)) (by omega)) f0 (q_ag_I (q_ag_I (q_ag_refl _ _) (by omega)) (by omega)) ?_ ?_ ?_ ?_ trivial
        · refine q_Rel_main h0 (Nat.le_succ _) (q_ag_I (q_ag_I (q_ag_refl _ S) (by omega)) (by omega)) h0.rs (q_ag_I (q_ag_I (q_ag_refl _ _) (by omega)) (by omega)) h0.rt ⟨cnt, t, t9, c5, ?_, q_ser_ag2 hser ?_ (fun c k hc hk => ?_) (Nat.le_succ _), ?_⟩
          · rw [pI_ne (by omega), pI_ne (by omega)]; exact hg
          · rw [pI_ne (by omega), pI_ne (by omega)]
          · have := c5 c hc
            rw [pI_ne (by omega), pI_ne (by omega)]
          · refine q_state_case (c0 := c) (cnt' := cnt) hst h6 hc (q_ag_I (q_ag_I (q_ag_refl _ S) (by omega)) (by omega)) (fun k k1 k2 => (pI_ne (by omega)).trans (pI_ne (by omega))) (fun _ _ _ => rfl) (fun _ _ => rfl) ?_
            rw [show x + 137 + 4 + 10 * c = x + 141 + 10 * c by omega]
            obtain ⟨w1, w2⟩ := q_cs_head (S' := m_pI (m_pI S (x + 141 + 10 * c) 2 lo) (x + 141 + 10 * c) 3 hi) (a' := (m_pI (m_pI T0 (m + 3) (4 + 56 * c + 1) lo) (m + 3) (4 + 56 * c + 2) hi).1 (m + 3)) hcs (q_ag_I (q_ag_I (q_ag_refl _ S) (by omega)) (by omega)) (fun k k1 k2 => (pI_ne (by omega)).trans (pI_ne (by omega)))
              (by rw [pI_ne (by omega), pI_ne (by omega), pI_ne (by omega), pI_ne (by omega)]; exact hcs.1.2.1)
              (by rw [pI_ne (by omega), pI_same, pI_ne (by omega), show 5 + 56 * c = 4 + 56 * c + 1 by omega, pI_same])
              (by rw [pI_same, show 6 + 56 * c = 4 + 56 * c + 2 by omega, pI_same])
              (by rw [pI_ne (by omega), pI_ne (by omega), pI_ne (by omega), pI_ne (by omega)]; exact hcs.1.2.2.2.2.1)
              (by rw [pI_ne (by omega), pI_ne (by omega)]; exact hcs.2.1.2.1) (by rw [pI_ne (by omega), pI_ne (by omega)]; exact hcs.2.1.2.2.1)
            exact ⟨w1, w2, q_log_cp hcs.2.2 (fun _ _ => rfl) (fun k _ => (pI_ne (by omega)).trans (pI_ne (by omega))) (fun k _ => (pI_ne (by omega)).trans (pI_ne (by omega))) (fun k k1 k2 k3 => (pI_ne (by omega)).trans (pI_ne (by omega))) (fun _ _ _ => rfl)⟩
        · rw [pI_ne (by omega), pI_ne (by omega)]; exact z0
        · unfold f_X8_setSafe
          rw [m_gd_t h.ox, g_vitAt h hc, m_btw_s, g_reqHum, if_pos c1, m_btw_s, g_reqHum, if_pos c3, m_btw_s, if_pos c2.1, m_gd_t hV.1, m_lt_s, m_lt_s]
        · unfold f_X9_setSafe
          rw [m_gd_t hM.o, m_lt_s, e0, e_isCase hM h0.n5 h0.cs, m_b1_s, e_may hM.o z0 z10, if_pos (q_yes hc (by omega)), if_neg z10, e_isIn, m_b1_s, if_pos c1]
          simp only [m_jp_s]
          rw [if_neg z10, e_isIn, m_b1_s, if_pos c2, if_neg z10, e_may1 hM.o z10 z0, m_bw_s, if_pos z10, e_lays (wi := 1) hM (w := 1) rfl (by omega) (by omega), m_bw_s, e_lays (wi := 2) (S := m_pI T0 (m + 3) (4 + 56 * c + 1) lo) hM (w := 2) rfl (by omega) (by omega), m_bw_s]
      · refine q_JW_er h0 f0 (s := "java/lang/IllegalArgumentException") (b := ()) (k := 2) ?_ ?_ (by simp)
        · unfold f_X8_setSafe
          rw [m_gd_t h.ox, g_vitAt h hc, m_btw_s, g_reqHum, if_pos c1, m_btw_s, g_reqHum]
          by_cases c3 : 0 ≤ hi ∧ hi ≤ 1000
          · rw [if_pos c3, m_btw_s, if_neg (fun z => c2 ⟨z, c3.2⟩)]
          · rw [if_neg c3, m_btw_e]
        · unfold f_X9_setSafe
          rw [m_gd_t hM.o, m_lt_s, e0, e_isCase hM h0.n5 h0.cs, m_b1_s, e_may hM.o z0 z10, if_pos (q_yes hc (by omega)), if_neg z10, e_isIn, m_b1_s, if_pos c1]
          simp only [m_jp_s]
          rw [if_neg z10, e_isIn, m_b1_s, if_neg c2, if_pos z00, e_may0 hM.o z0 z20, m_bw_s, if_neg nz0]
    · refine q_JW_er h0 f0 (s := "java/lang/IllegalArgumentException") (b := ()) (k := 2) ?_ ?_ (by simp)
      · unfold f_X8_setSafe
        rw [m_gd_t h.ox, g_vitAt h hc, m_btw_s, g_reqHum, if_neg c1, m_btw_e]
      · unfold f_X9_setSafe
        rw [m_gd_t hM.o, m_lt_s, e0, e_isCase hM h0.n5 h0.cs, m_b1_s, e_may hM.o z0 z10, if_pos (q_yes hc (by omega)), if_neg z10, e_isIn, m_b1_s, if_neg c1]
        simp only [m_jp_s]
        rw [if_pos trivial, e_may0 hM.o z0 z20, m_bw_s, if_neg nz0]
  · refine q_JW_er h0 f0 (s := "java/lang/IndexOutOfBoundsException") (b := ()) (k := 1) ?_ ?_ (by simp)
    · unfold f_X8_setSafe
      rw [m_gd_t h.ox, g_vitNo h hp, m_btw_e]
    · unfold f_X9_setSafe
      rw [m_gd_t hM.o, m_lt_s, e0, e_isCase hM h0.n5 h0.cs, m_b1_s, e_may hM.o z0 z10, if_neg (q_no hp), if_pos z00]
theorem J_truncate (h : q_Rel Z x m N pb ns nk nc S T) (p : Int32) : q_JW Z x m (N + 1) [("java/lang/IndexOutOfBoundsException", 1)] (fun a b => a = b) S T (f_X8_truncate Z S x p) (f_X9_truncate Z T m p) := by
  obtain ⟨T0, e0, z0, f0, h0⟩ := q_zero h
  have hM := h0.M
  have hm := h0.em
  obtain ⟨n, n9, d1, d2, d3, d4, d5⟩ := h0.rd
  rcases q_cdec (n := n + 1) (by omega) p with ⟨c, hc, rfl⟩ | hp
  · refine q_JW_ok (T0 := T0) (S' := m_pI S (x + 1) 1 (Int32.ofNat c)) (T' := m_pI T0 m 12 (Int32.ofNat c)) (pb := pb) (ns := ns) (nk := nk) (nc := nc) (a := Int32.ofNat c) (b := Int32.ofNat c) (q_ag_I (q_ag_refl _ S) (by omega)) f0 (q_ag_I (q_ag_refl _ _) (by omega)) ?_ ?_ ?_ ?_ rfl
    · have h9 := q_Rel_N h0 (Nat.le_succ N)
      obtain ⟨a1, a2, a3, a4, a5, a6, -⟩ := h9
      have hT1 : ∀ b, b ≠ m → (m_pI T0 m 12 (Int32.ofNat c)).1 b = T0.1 b := fun b hb => funext fun k => pI_ne (by omega)
      have hpb := h0.pbr
      refine ⟨a1, a2, ?_, ?_, ?_, fun s hs => ?_, c, by omega, pI_same _ _ _ _, pI_same _ _ _ _, ?_, ?_, fun j hj => ?_⟩
      · rw [hT1 _ (by omega)]; exact q_set9_ag a3 (q_ag_I (q_ag_refl _ S) (by omega)) (fun _ _ => rfl)
      · rw [hT1 _ (by omega)]; exact q_Ks_ag a4 (q_ag_I (q_ag_refl _ S) (by omega))
      · rw [hT1 _ (by omega), hT1 _ (by omega)]; exact q_sta_ag a5 h0.nc6 (q_ag_I (q_ag_refl _ S) (by omega)) (fun _ _ => rfl) (fun _ _ => rfl) (Nat.le_refl _)
      · obtain ⟨s1, s3⟩ := a6 s hs
        unfold q_slot
        rw [hT1 _ (by omega), hT1 _ (by omega), hT1 _ (by omega), pI_ne (by omega)]
        exact ⟨s1, fun q => q_sta_ag (s3 q) h0.nc6 (q_ag_I (q_ag_refl _ S) (by omega)) (fun _ _ => rfl) (fun _ _ => rfl) (Nat.le_refl _)⟩
      · rw [pI_ne (by omega), pI_ne (by omega)]; exact d3
      · rw [pI_ne (by omega), pI_ne (by omega)]; exact d4
      · rw [pI_ne (by omega), pI_ne (by omega)]; exact d5 j (by omega)
    · rw [pI_ne (by omega)]; exact z0
    · unfold f_X8_truncate
      rw [if_neg (io_nn hc (by omega)), m_gd_t h.ox, h.r0, m_b1_s, m_gd_t h.o1, d1, if_pos ((io_le (by omega) (by omega)).mpr (by omega)), m_lt_s]
    · unfold f_X9_truncate
      rw [m_gd_t hM.o, m_lt_s, e0, e_isInN d2 (by omega), m_b1_s, e_may hM.o z0 z10, if_pos (q_yes hc (by omega)), if_pos z10, m_lt_s]
  · refine q_JW_er h0 f0 (s := "java/lang/IndexOutOfBoundsException") (b := 0) (k := 1) ?_ ?_ (by simp)
    · unfold f_X8_truncate
      by_cases q : p < 0
      · rw [if_pos q]
      · rw [if_neg q, m_gd_t h.ox, h.r0, m_b1_s, m_gd_t h.o1, d1, if_neg (fun z => ?_)]
        have q2 := hp.resolve_left q
        rw [t_le, t_ofNat (by omega)] at q2 z
        omega
    · unfold f_X9_truncate
      rw [m_gd_t hM.o, m_lt_s, e0, e_isInN d2 (by omega), m_b1_s, e_may hM.o z0 z10, if_neg (q_no hp), if_neg nz0]
end SETS2
