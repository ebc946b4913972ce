theorem q_fS_ag {lo hi : Nat} {S S' : m_S} {P : Nat → Nat → Prop} (h : q_fS lo hi S S') (hP : ∀ b k, P b k → ¬ (lo ≤ b ∧ b < hi)) : q_ag P S S' := fun b k hb => ⟨(h.1 b k (hP b k hb)).1, (h.1 b k (hP b k hb)).2, by rw [h.2]⟩
theorem q_fH_ag {m : Nat} {T T' : m_S} {P : Nat → Nat → Prop} (h : q_fH m T T') (hP : ∀ b k, P b k → b ≠ m + 3 ∧ b ≠ m + 7 ∧ ¬ (b = m ∧ k = 25)) : q_ag P T T' := fun b k hb => ⟨h.1 b k (hP b k hb).1 (hP b k hb).2.2, h.2.1 b k (hP b k hb).2.1, by rw [h.2.2]⟩
theorem q_nat {p : Int32} {n : Nat} (hn : n < 2147483648) (h : 1 ≤ p ∧ p ≤ Int32.ofNat n) : ∃ H, p = Int32.ofNat H ∧ 1 ≤ H ∧ H ≤ n := by
  obtain ⟨h1, h2⟩ := h
  rw [t_le, i32_1] at h1
  rw [t_le, t_ofNat hn] at h2
  refine ⟨p.toInt.toNat, ?_, by omega, by omega⟩
  rw [t_eq, t_ofNat (by omega)]; omega
theorem q_nat0 {p : Int32} {n : Nat} (hn : n < 2147483648) (h : 0 ≤ p ∧ p ≤ Int32.ofNat n) : ∃ H, p = Int32.ofNat H ∧ H ≤ n := by
  obtain ⟨h1, h2⟩ := h
  rw [t_le, i32_0] at h1
  rw [t_le, t_ofNat hn] at h2
  refine ⟨p.toInt.toNat, ?_, by omega⟩
  rw [t_eq, t_ofNat (by omega)]; omega
section ADV
variable {Z : m_Z} {x m N pb ns nk nc : Nat} {S T : m_S}
theorem J_advance (h : q_Rel Z x m N pb ns nk nc S T) (p : Int32) : q_JW Z x m (N + 1) [("java/lang/IllegalArgumentException", 1), ("java/lang/IllegalStateException", 2)] (fun a b => a = b) S T (f_X8_advance Z S x p) (f_X9_advance Z T m p) := by
  obtain ⟨T0, e0, z0, f0, h0⟩ := q_zero h
  have hM := h0.M
  have hm := h0.em
  have hpb := h0.pbr
  obtain ⟨cnt, t, t9, c5, hg, hser, hst⟩ := h0.sta
  have y0 : S.1 (x + 138) 0 = Int32.ofNat t := hst.1.1
  have y0' : T0.1 (m + 3) 0 = Int32.ofNat t := hst.1.2
  have k9 : (99999 : Int32).toInt = 99999 := rfl
  by_cases c1 : 1 ≤ p ∧ p ≤ 2000
  · obtain ⟨H, rfl, H1, H2⟩ := q_nat (n := 2000) (by omega) c1
    have cc : Int32.ofNat H ≤ (99999 : Int32) - Int32.ofNat t ↔ t + H ≤ 99999 := by
      rw [t_le, t_sub (by rw [k9, t_ofNat (by omega)]; omega) (by rw [k9, t_ofNat (by omega)]; omega), k9, t_ofNat (by omega), t_ofNat (by omega)]; omega
    have cd : (99999 : Int32) < Int32.ofNat t + Int32.ofNat H ↔ ¬ t + H ≤ 99999 := by
      rw [io_add, t_lt, k9, t_ofNat (by omega)]; omega
    by_cases c2 : t + H ≤ 99999
    · obtain ⟨S', T', u, w1, w2, w3, w4, w5, w6, w7, w8, w9⟩ := q_adv_loop (Z := Z) (kb := pb + 6) (pb := pb) (ns := ns) (nk := nk) (nc := nc) (m := m) (sb := x + 137) (x := x) (t := t) (H := H) (cnt := cnt) rfl hm rfl hpb (by omega) c2 H 0 100000 100000 (by omega) (by omega) (by omega) S T0 0 hM h0.st h0.r3 h0.r1 h0.s9 h0.ks hst
      refine q_JW_ok (T0 := T0) (S' := S') (T' := T') (pb := pb) (ns := ns) (nk := nk) (nc := nc) (a := u) (b := u) (q_fS_ag w4 (fun b k hb => by omega)) f0 (q_fH_ag w5 (fun b k hb => by omega)) ?_ ?_ ?_ ?_ rfl
      · have pT : T'.1 (m + 1) = T0.1 (m + 1) := funext fun k => w5.1 _ _ (by omega) (by omega)
        rw [pT] at w3
        refine q_Rel_main h0 (Nat.le_succ _) (q_fS_ag w4 (fun b k hb => by omega)) (by rw [w4.2]; exact h0.rs) (q_fH_ag w5 (fun b k hb => by omega)) (by rw [w5.2.2]; exact h0.rt) ⟨cnt, t + H, c2, c5, ?_, q_ser_ag2 hser w8.2 (fun c k hc hk => w8.1 c k (by have := h0.nc6; omega) (by have := c5 c hc; omega)) (Nat.le_succ _), w3⟩
        rcases w9 with q | q
        · rw [q]; exact hg
        · rw [q, i32_0]; omega
      · rw [w5.1 _ _ (by omega) (by omega)]; exact z0
      · unfold f_X8_advance
        rw [m_gd_t h.ox, g_reqHours, if_pos c1, m_btw_s, h.r3, m_b1_s, m_gd_t h.o137, h.r137, m_b1_s, m_gd_t h.o138, if_pos (show Int32.ofNat H ≤ (99999 : Int32) - S.1 (x + 138) 0 from by rw [y0]; exact cc.mpr c2), m_jp_s]
        exact w6 _
      · unfold f_X9_advance
        rw [m_gd_t hM.o, m_lt_s, e0, e_isIn, m_b1_s, e_may hM.o z0 z10, if_pos c1, if_neg z10, hM.a.1, m_b1_s, m_gd_t hM.a.2.1, m_gd_t (q_inl (wi := 0) (i := 0) rfl hM.a.2 (by omega) (by omega)), m_jp_if, e_mayN hM.o z0 z20, if_neg (show ¬ (99999 : Int32) < T0.1 (m + 3) (0 : Int32).toNatClampNeg + Int32.ofNat H from fun q => (cd.mp (by rw [tn0, y0'] at q; exact q)) c2), if_neg z10, hM.p.1, m_b1_s, m_gd_t hM.p.2.1, m_gd_t (q_inl (wi := 5) (i := 5) rfl hM.p.2 (by omega) (by omega)), tn5, h0.n5]
        unfold f_X9_hours
        rw [m_jp_s]
        have w7' := w7 (fun (v1 : Int32) (S2 : m_S) => some (v1, S2))
        rw [show (0 : Int32) = Int32.ofNat 0 from rfl] at *
        rw [w7', m_bw_s]
    · refine q_JW_er h0 f0 (s := "java/lang/IllegalStateException") (b := 0) (k := 2) ?_ ?_ (by simp)
      · unfold f_X8_advance
        rw [m_gd_t h.ox, g_reqHours, if_pos c1, m_btw_s, h.r3, m_b1_s, m_gd_t h.o137, h.r137, m_b1_s, m_gd_t h.o138, if_neg (show ¬ Int32.ofNat H ≤ (99999 : Int32) - S.1 (x + 138) 0 from by rw [y0]; exact fun q => c2 (cc.mp q))]
      · unfold f_X9_advance
        rw [m_gd_t hM.o, m_lt_s, e0, e_isIn, m_b1_s, e_may hM.o z0 z10, if_pos c1, if_neg z10, hM.a.1, m_b1_s, m_gd_t hM.a.2.1, m_gd_t (q_inl (wi := 0) (i := 0) rfl hM.a.2 (by omega) (by omega)), m_jp_if, e_mayN hM.o z0 z20, if_pos (show (99999 : Int32) < T0.1 (m + 3) (0 : Int32).toNatClampNeg + Int32.ofNat H from by rw [tn0, y0']; exact cd.mpr c2), if_pos z00]
  · refine q_JW_er h0 f0 (s := "java/lang/IllegalArgumentException") (b := 0) (k := 1) ?_ ?_ (by simp)
    · unfold f_X8_advance
      rw [m_gd_t h.ox, g_reqHours, if_neg c1, m_btw_e]
    · unfold f_X9_advance
      rw [m_gd_t hM.o, m_lt_s, e0, e_isIn, m_b1_s, e_may hM.o z0 z10, if_neg c1, if_pos z00]
end ADV
