section OPEN
variable {Z : m_Z} {x m N pb ns nk nc : Nat} {S S' T : m_S}
theorem g_logAt2 (h : q_Rel Z x m N pb ns nk nc S T) (hr : q_RS S'.2.2 x 0 341) (h1 : S'.2.2 x 1 = some pb) (h8 : S'.1 pb 8 = Int32.ofNat nc) {c : Nat} (hc : c < nc) : f_X8_logbookAt Z S' x (Int32.ofNat c) = some (.ok (x + 141 + 10 * c + 8)) := by
  have h6 := h.nc6
  have st : q_St Z S'.2.2 (x + 137) := q_St_of h.zl hr (Or.inl rfl)
  have r3 : S'.2.2 x 3 = some (x + 137) := hr.g (a := 0) (by decide +kernel)
  unfold f_X8_logbookAt
  rw [if_neg (io_nn hc (by omega)), m_gd_t h.ox, h1, m_b1_s, m_gd_t h.opb, h8, if_pos ((io_lt (by omega) (by omega)).mpr hc), r3, m_b1_s, m_gd_t st.1, st.2.2.2.1.1, m_b1_s, m_gd_t st.2.2.2.1.2.1, m_gd_t (q_inn st.2.2.2.1.2 (by omega) (by omega)), io_tn (by omega), (st.2.2.2.2 c (by omega)).2.1, m_b1_s]
theorem g_vitAt2 (h : q_Rel Z x m N pb ns nk nc S T) (hr : q_RS S'.2.2 x 0 341) (h1 : S'.2.2 x 1 = some pb) (h8 : S'.1 pb 8 = Int32.ofNat nc) {c : Nat} (hc : c < nc) : f_X8_vitrineAt Z S' x (Int32.ofNat c) = some (.ok (x + 141 + 10 * c)) := by
  have h6 := h.nc6
  have st : q_St Z S'.2.2 (x + 137) := q_St_of h.zl hr (Or.inl rfl)
  have r3 : S'.2.2 x 3 = some (x + 137) := hr.g (a := 0) (by decide +kernel)
  unfold f_X8_vitrineAt
  rw [if_neg (io_nn hc (by omega)), m_gd_t h.ox, h1, m_b1_s, m_gd_t h.opb, h8, if_pos ((io_lt (by omega) (by omega)).mpr hc), r3, m_b1_s, m_gd_t st.1, st.2.2.1.1, m_b1_s, m_gd_t st.2.2.1.2.1, m_gd_t (q_inn st.2.2.1.2 (by omega) (by omega)), io_tn (by omega), (st.2.2.2.2 c (by omega)).1, m_b1_s]
theorem J_open (h : q_Rel Z x m N pb ns nk nc S T) (p : Int32) : q_JW Z x m (N + 1) [("java/lang/IndexOutOfBoundsException", 1)] (fun a b => a = b) S T (f_X8_open Z S x p) (f_X9_open Z T m p) := by
  obtain ⟨T0, e0, z0, f0, h0⟩ := q_zero h
  have hM := h0.M
  have hm := h0.em
  have h6 := h0.nc6
  have hpb := h0.pbr
  obtain ⟨cnt, t, t9, c5, hg, hser, hst⟩ := h0.sta
  have y0 : S.1 (x + 138) 0 = T0.1 (m + 3) 0 := hst.1.1.trans hst.1.2.symm
  have y1 : S.1 (x + 138) 1 = T0.1 (m + 3) 1 := hst.2.1
  rcases q_cdec h0.cs p with ⟨c, hc, rfl⟩ | hp
  · have hcs := hst.2.2.2.2.2 c hc
    have hV := (h0.st.2.2.2.2 c (by omega)).2.2.1
    have hL := (h0.st.2.2.2.2 c (by omega)).2.2.2
    rw [show x + 137 + 4 + 10 * c = x + 141 + 10 * c by omega] at hcs hV hL
    have e110 : (110 : Int32) + Int32.ofNat c = Int32.ofNat (110 + c) := io_add 110 c
    have rt := q_rm_t (T0.1 (m + 1)) ns (T0.1 (m + 3) 0) (T0.1 (m + 3) 1)
    have gr := g_room (r := x + 138) h0.s9 h0.o138
    have er := e_room hM h0.s9.2.1.2.2.2.1 h0.s9.2.2.2.2.1
    rw [y0, y1] at gr
    generalize q_rm (T0.1 (m + 1)) ns (T0.1 (m + 3) 0) (T0.1 (m + 3) 1) = rm at *
    obtain ⟨v0, v1⟩ := hcs.2.1.1
    have hprod : 0 ≤ (T0.1 (m + 1) (110 + c)).toInt * rm.toInt ∧ (T0.1 (m + 1) (110 + c)).toInt * rm.toInt ≤ 9999000 := ⟨Int.mul_nonneg (by omega) rt.1, by
      have := Int.mul_le_mul v1 rt.2 rt.1 (by omega : (0:Int) ≤ 9999); omega⟩
    have nt : (T0.1 (m + 1) (110 + c) * rm / (1000 : Int32)).toInt = (T0.1 (m + 1) (110 + c)).toInt * rm.toInt / 1000 := by
      rw [t_div (by decide), t_mul (by omega) (by omega), k1000, d_pos hprod.1]
    obtain ⟨na, hna⟩ : ∃ q, q = T0.1 (m + 1) (110 + c) * rm / (1000 : Int32) := ⟨_, rfl⟩
    rw [← hna] at nt
    have nb : 0 ≤ na.toInt ∧ na.toInt < 20000 := by omega
    have e4 : S.1 (x + 141 + 10 * c) 4 = T0.1 (m + 3) (7 + 56 * c) := hcs.1.2.2.2.2.1
    obtain ⟨more, hmore⟩ : ∃ q, q = na - T0.1 (m + 3) (7 + 56 * c) := ⟨_, rfl⟩
    have hback : T0.1 (m + 3) (7 + 56 * c) + more = na := by rw [hmore, Int32.add_comm, Int32.sub_add_cancel]
    obtain ⟨S1, hS1⟩ : ∃ q, q = m_pJ (m_pI S (x + 141 + 10 * c) 4 na) (x + 141 + 10 * c + 8) 1 (S.2.1 (x + 141 + 10 * c + 8) 1 + more.toInt64) := ⟨_, rfl⟩
    obtain ⟨T1, hT1⟩ : ∃ q, q = m_pJ (m_pI T0 (m + 3) (4 + 56 * c + 3) na) (m + 7) (5 * c + 2) (T0.2.1 (m + 7) (5 * c + 2) + more.toInt64) := ⟨_, rfl⟩
    have aS : q_ag (fun b k => ¬ (b = x + 141 + 10 * c ∧ k = 4) ∧ ¬ (b = x + 141 + 10 * c + 8 ∧ k = 1)) S S1 := by
      rw [hS1]; exact q_ag_J (q_ag_I (q_ag_refl _ S) (by omega)) (by omega)
    have aT : q_ag (fun b k => ¬ (b = m + 3 ∧ k = 7 + 56 * c) ∧ ¬ (b = m + 7 ∧ k = 5 * c + 2)) T0 T1 := by
      rw [hT1]; exact q_ag_J (q_ag_I (q_ag_refl _ T0) (by omega)) (by omega)
    have sub : ∀ {P Q : Nat → Nat → Prop} {U U' : m_S}, q_ag Q U U' → (∀ b k, P b k → Q b k) → q_ag P U U' := fun h hP b k hb => h b k (hP b k hb)
    refine q_JW_ok (T0 := T0) (S' := S1) (T' := T1) (pb := pb) (ns := ns) (nk := nk) (nc := nc) (a := more) (b := more) (sub aS (fun b k hb => by omega)) f0 (sub aT (fun b k hb => by omega)) ?_ ?_ ?_ ?_ rfl
    · have a7 : T1.1 (m + 3) (7 + 56 * c) = na := by rw [hT1, show 7 + 56 * c = 4 + 56 * c + 3 by omega]; exact pI_same _ _ _ _
      have a2 : ∀ k, k ≠ 7 + 56 * c → T1.1 (m + 3) k = T0.1 (m + 3) k := fun k hk => (aT (m + 3) k (by omega)).1
      have s4 : S1.1 (x + 141 + 10 * c) 4 = na := by rw [hS1]; exact pI_same _ _ _ _
      refine q_Rel_main h0 (Nat.le_succ _) (sub aS (fun b k hb => by omega)) (by rw [hS1]; exact h0.rs) (sub aT (fun b k hb => by omega)) (by rw [hT1]; exact h0.rt) ⟨cnt, t, t9, c5, ?_, q_ser_ag2 hser (a2 _ (by omega)) (fun c' k hc' hk => a2 _ (by have := c5 c' hc'; omega)) (Nat.le_succ _), ?_⟩
      · rw [a2 _ (by omega)]; exact hg
      · refine q_state_case (c0 := c) (cnt' := cnt) hst h6 hc (sub aS (fun b k hb => by omega)) (fun k k1 k2 => a2 k (by omega)) (fun k k1 k2 => (aT (m + 7) k (by omega)).2.1) (fun _ _ => rfl) ?_
        rw [show x + 137 + 4 + 10 * c = x + 141 + 10 * c by omega]
        obtain ⟨w1, w2⟩ := q_cs_head (S' := S1) (a' := T1.1 (m + 3)) hcs (sub aS (fun b k hb => by omega)) (fun k k1 k2 => a2 k (by omega))
          (by rw [a2 _ (by omega), (aS _ _ (by omega)).1]; exact hcs.1.2.1)
          (by rw [a2 _ (by omega), (aS _ _ (by omega)).1]; exact hcs.1.2.2.1)
          (by rw [a2 _ (by omega), (aS _ _ (by omega)).1]; exact hcs.1.2.2.2.1)
          (by rw [a7, s4])
          (by rw [a2 _ (by omega)]; exact hcs.2.1.2.1) (by rw [a7]; exact nb)
        obtain ⟨⟨l0, l1, l2, l3, l7⟩, l4, l5, l6, lr⟩ := hcs.2.2
        refine ⟨w1, w2, ⟨?_, ?_, ?_, ?_, ?_⟩, ?_, ?_, ?_, fun j j1 j2 => ?_⟩
        · rw [(aS _ _ (by omega)).2.1, (aT _ _ (by omega)).2.1]; exact l0
        · rw [hS1, hT1, pJ_same, pJ_same, l1]
        · rw [(aS _ _ (by omega)).2.1, (aT _ _ (by omega)).2.1]; exact l2
        · rw [(aS _ _ (by omega)).2.1, (aT _ _ (by omega)).2.1]; exact l3
        · rw [(aS _ _ (by omega)).2.1, (aT _ _ (by omega)).2.1]; exact l7
        · rw [(aS _ _ (by omega)).1, a2 _ (by omega)]; exact l4
        · rw [(aS _ _ (by omega)).1, a2 _ (by omega)]; exact l5
        · rw [(aS _ _ (by omega)).1, a2 _ (by omega)]; exact l6
        · rw [(aS _ _ (by omega)).1, a2 _ (by omega)]; exact lr j j1 j2
    · rw [(aT _ _ (by omega)).1]; exact z0
    · unfold f_X8_open
      rw [m_gd_t h.ox, g_vitAt h hc, m_btw_s, m_gd_t hV.1, h.r3, m_b1_s, m_gd_t h.o137, h.r137, m_b1_s, h.r1, m_b1_s, m_gd_t h.o138, gr, m_b1_s]
      unfold f_X7_fillAir f_X7_airAt
      rw [m_gd_t hV.1, m_gd_t hV.1, hcs.1.1, ← hna, m_b1_s, m_lt_s, m_bw_s, pI_same, e4, ← hmore, m_lt_s, g_logAt2 (S' := m_pI S (x + 141 + 10 * c) 4 na) h h.rs h.r1 (by rw [pI_ne (by omega)]; exact h.c8) hc, m_btw_s, m_gd_t hL.1, m_lt_s, hS1]
      rfl
    · unfold f_X9_open
      rw [m_gd_t hM.o, m_lt_s, e0, e_isCase hM h0.n5 h0.cs, m_b1_s, e_may hM.o z0 z10, if_pos (q_yes hc (by omega)), if_pos z10, hM.p.1, m_b1_s, m_gd_t hM.p.2.1, m_lt_s, e110, m_gd_t (q_inn hM.p.2 (by omega) (by omega)), er, m_b1_s, e_of (wi := 3) hM (w := 3) rfl (by omega) (by omega), m_b1_s, io_tn (by omega), ← hna, show 4 + 56 * c + 3 = 7 + 56 * c by omega, ← hmore, m_lt_s, m_b1_s, hback, e_lays (wi := 3) hM (w := 3) rfl (by omega) (by omega), m_bw_s, e_counts (wi := 2) (S := m_pI T0 (m + 3) (4 + 56 * c + 3) na) hM (w := 2) rfl (by omega) (by omega), m_bw_s, hT1]
      rfl
  · refine q_JW_er h0 f0 (s := "java/lang/IndexOutOfBoundsException") (b := 0) (k := 1) ?_ ?_ (by simp)
    · unfold f_X8_open
      rw [m_gd_t h.ox, g_vitNo h hp, m_btw_e]
    · unfold f_X9_open
      rw [m_gd_t hM.o, m_lt_s, e0, e_isCase hM h0.n5 h0.cs, m_b1_s, e_may hM.o z0 z10, if_neg (q_no hp), if_neg nz0]
end OPEN
