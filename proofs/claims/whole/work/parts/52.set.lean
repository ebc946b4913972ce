/-! calls that change the main state a little -/
theorem q_state_case {kb nk nc sb t c0 : Nat} {cnt cnt' : Nat → Nat} {S S' : m_S} {p a a' : Nat → Int32} {b b' : Nat → Int64} (h : q_state kb nk nc cnt S sb p a b t) (nc6 : nc ≤ 6) (hc0 : c0 < nc) (hS : q_ag (fun y _ => sb ≤ y ∧ y < sb + 64 ∧ ¬ (sb + 4 + 10 * c0 ≤ y ∧ y < sb + 14 + 10 * c0)) S S') (ha : ∀ k, k < 340 → ¬ (4 + 56 * c0 ≤ k ∧ k < 60 + 56 * c0) → a' k = a k) (hb : ∀ k, k < 30 → ¬ (5 * c0 ≤ k ∧ k < 5 * c0 + 5) → b' k = b k) (hcnt : ∀ c, c ≠ c0 → cnt' c = cnt c) (hc : q_cs kb nk (cnt' c0) S' (sb + 4 + 10 * c0) p a' b' c0 t) : q_state kb nk nc cnt' S' sb p a' b' t := by
  obtain ⟨⟨y0, y0'⟩, y1, y2, y3, y4, y5⟩ := h
  refine ⟨⟨?_, ?_⟩, ?_, ?_, ?_, ?_, fun c hcn => ?_⟩
  · rw [(hS _ _ ⟨by omega, by omega, by omega⟩).1]; exact y0
  · rw [ha _ (by omega) (by omega)]; exact y0'
  · rw [(hS _ _ ⟨by omega, by omega, by omega⟩).1, ha _ (by omega) (by omega)]; exact y1
  · rw [(hS _ _ ⟨by omega, by omega, by omega⟩).1, ha _ (by omega) (by omega)]; exact y2
  · rw [(hS _ _ ⟨by omega, by omega, by omega⟩).1, ha _ (by omega) (by omega)]; exact y3
  · rw [(hS _ _ ⟨by omega, by omega, by omega⟩).1]; exact y4
  · by_cases q : c = c0
    · subst q; exact hc
    · rw [hcnt c q]
      exact q_cs_ag (y5 c hcn) (fun y k hy => hS y k ⟨by omega, by omega, by omega⟩) (fun k k1 k2 => ha k (by omega) (by omega)) (fun k k1 k2 => hb k (by omega) (by omega))
theorem q_state_room {kb nk nc sb t : Nat} {cnt : Nat → Nat} {S S' : m_S} {p a a' : Nat → Int32} {b b' : Nat → Int64} (h : q_state kb nk nc cnt S sb p a b t) (nc6 : nc ≤ 6) (hS : q_ag (fun y k => (sb + 4 ≤ y ∧ y < sb + 64) ∨ (y = sb ∧ k = 2) ∨ (y = sb + 1 ∧ k = 0)) S S') (ha : ∀ k, 4 ≤ k ∨ k = 0 → k < 340 → a' k = a k) (hb : ∀ k, k < 30 → b' k = b k) (e1 : S'.1 (sb + 1) 1 = a' 1) (e2 : S'.1 (sb + 1) 2 = a' 2) (e3 : S'.1 sb 1 = a' 3) : q_state kb nk nc cnt S' sb p a' b' t := by
  obtain ⟨⟨y0, y0'⟩, y1, y2, y3, y4, y5⟩ := h
  refine ⟨⟨?_, ?_⟩, e1, e2, e3, ?_, fun c hcn => ?_⟩
  · rw [(hS _ _ (by omega)).1]; exact y0
  · rw [ha _ (by omega) (by omega)]; exact y0'
  · rw [(hS _ _ (by omega)).1]; exact y4
  · exact q_cs_ag (y5 c hcn) (fun y k hy => hS y k (by omega)) (fun k k1 k2 => ha k (by omega) (by omega)) (fun k k1 k2 => hb k (by omega))
/-- a vitrine's own numbers are new -/
theorem q_cs_head {kb nk n v c t : Nat} {S S' : m_S} {p a a' : Nat → Int32} {b : Nat → Int64} (h : q_cs kb nk n S v p a b c t) (hS : q_ag (fun y k => v ≤ y ∧ y < v + 8 ∧ ¬ (y = v ∧ 1 ≤ k ∧ k ≤ 4)) S S') (ha : ∀ k, 8 + 56 * c ≤ k → k < 36 + 56 * c → a' k = a k) (e1 : S'.1 v 1 = a' (4 + 56 * c)) (e2 : S'.1 v 2 = a' (5 + 56 * c)) (e3 : S'.1 v 3 = a' (6 + 56 * c)) (e4 : S'.1 v 4 = a' (7 + 56 * c)) (w1 : 0 ≤ (a' (4 + 56 * c)).toInt ∧ (a' (4 + 56 * c)).toInt ≤ 1000) (w4 : 0 ≤ (a' (7 + 56 * c)).toInt ∧ (a' (7 + 56 * c)).toInt < 20000) : q_vit kb nk n S' v p a' c ∧ q_wv p a' n c := by
  obtain ⟨⟨v0, v1, v2, v3, v4, v5, v6, v7⟩, ⟨u0, u1, u2, n6, u3⟩, -⟩ := h
  have kn0 : ∀ k, k < n → q_kn a' (12 + 56 * c + 4 * k) = q_kn a (12 + 56 * c + 4 * k) := fun k hk => by unfold q_kn; rw [ha _ (by omega) (by omega)]
  refine ⟨⟨?_, e1, e2, e3, e4, ?_, ?_, fun k hk => ⟨?_, ⟨?_, ?_, ?_⟩, ?_, ?_⟩⟩, u0, w1, w4, n6, fun k hk => ⟨⟨?_, ?_⟩, ?_, ?_⟩⟩
  · rw [(hS _ _ ⟨by omega, by omega, by omega⟩).1]; exact v0
  · rw [(hS _ _ ⟨by omega, by omega, by omega⟩).1]; exact v5
  · rw [ha _ (by omega) (by omega)]; exact v6
  · rw [(hS _ _ ⟨by omega, by omega, by omega⟩).1, ha _ (by omega) (by omega)]; exact (v7 k hk).1
  · rw [kn0 k hk]; exact (v7 k hk).2.1.1
  · rw [kn0 k hk, ha _ (by omega) (by omega)]; exact (v7 k hk).2.1.2.1
  · rw [kn0 k hk, (hS _ _ ⟨by omega, by omega, by omega⟩).2.2]; exact (v7 k hk).2.1.2.2
  · rw [(hS _ _ ⟨by omega, by omega, by omega⟩).1, ha _ (by omega) (by omega)]; exact (v7 k hk).2.2.1
  · rw [(hS _ _ ⟨by omega, by omega, by omega⟩).1, ha _ (by omega) (by omega)]; exact (v7 k hk).2.2.2
  · rw [ha _ (by omega) (by omega)]; exact (u3 k hk).1.1
  · rw [ha _ (by omega) (by omega)]; exact (u3 k hk).1.2
  · rw [ha _ (by omega) (by omega)]; exact (u3 k hk).2.1
  · rw [kn0 k hk, ha _ (by omega) (by omega), ha _ (by omega) (by omega)]; exact (u3 k hk).2.2
theorem q_ser_ag2 {a a' : Nat → Int32} {nc N N' : Nat} {cnt : Nat → Nat} (h : q_ser a nc cnt N) (h3 : a' 3 = a 3) (ha : ∀ c k, c < nc → k < cnt c → a' (12 + 56 * c + 4 * k) = a (12 + 56 * c + 4 * k)) (hN : N ≤ N') : q_ser a' nc cnt N' := by
  obtain ⟨q, q1, q2, q3, q4⟩ := h
  refine ⟨q, by omega, by rw [h3]; exact q2, fun c k hc hk => ?_, fun c k c' k' hc hk hc' hk' e => ?_⟩
  · rw [ha c k hc hk]; exact q3 c k hc hk
  · rw [ha c k hc hk, ha c' k' hc' hk'] at e
    exact q4 c k c' k' hc hk hc' hk' e
section SETS
variable {Z : m_Z} {x m N pb ns nk nc : Nat} {S T : m_S}
theorem J_announce (h : q_Rel Z x m N pb ns nk nc S T) (p : Int32) : q_JW Z x m (N + 1) [("java/lang/IllegalArgumentException", 1), ("java/lang/IllegalStateException", 2)] (fun a b => a = b) S T (f_X8_announce Z S x p) (f_X9_announce Z T m p) := by
  obtain ⟨T0, e0, z0, f0, h0⟩ := q_zero h
  have hM := h0.M
  have hm := h0.em
  obtain ⟨cnt, t, t9, c5, hg, hser, hst⟩ := h0.sta
  have y2 : S.1 (x + 138) 2 = T0.1 (m + 3) 2 := hst.2.2.1
  have k5 : (5000 : Int32).toInt = 5000 := rfl
  have k9 : (999 : Int32).toInt = 999 := rfl
  by_cases c1 : 1 ≤ p ∧ p ≤ 999
  · have c1' := c1
    rw [t_le, t_le, i32_1, k9] at c1'
    have cc : (p ≤ (5000 : Int32) - T0.1 (m + 3) 2) ↔ ¬ (5000 : Int32) < T0.1 (m + 3) 2 + p := by
      rw [t_le, t_lt, t_sub (by omega) (by omega), t_add (by omega) (by omega), k5]; omega
    by_cases c2 : (5000 : Int32) < T0.1 (m + 3) 2 + p
    · refine q_JW_er h0 f0 (s := "java/lang/IllegalStateException") (b := 0) (k := 2) ?_ ?_ (by simp)
      · unfold f_X8_announce
        rw [if_neg (Int32.not_lt.mpr c1.1), if_pos c1.2, m_gd_t h.ox, h.r3, m_b1_s, m_gd_t h.o137, h.r137, m_b1_s, m_gd_t h.o138, if_neg (show ¬ p ≤ (5000 : Int32) - S.1 (x + 138) 2 from by rw [y2]; exact fun q => cc.mp q c2)]
      · unfold f_X9_announce
        rw [m_gd_t hM.o, m_lt_s, e0, e_isIn, m_b1_s, e_may hM.o z0 z10, if_pos c1, if_neg z10, hM.a.1, m_b1_s, m_gd_t hM.a.2.1, m_gd_t (q_inl (wi := 2) (i := 2) rfl hM.a.2 (by omega) (by omega)), m_jp_if, e_mayN hM.o z0 z20, if_pos (show (5000 : Int32) < T0.1 (m + 3) (2 : Int32).toNatClampNeg + p from c2), if_neg nz0]
    · have e3 : (T0.1 (m + 3) 2 + p).toInt = (T0.1 (m + 3) 2).toInt + p.toInt := t_add (by omega) (by omega)
      rw [t_lt, k5, e3] at c2
      refine q_JW_ok (T0 := T0) (S' := m_pI S (x + 138) 2 (T0.1 (m + 3) 2 + p)) (T' := m_pI T0 (m + 3) 2 (T0.1 (m + 3) 2 + p)) (pb := pb) (ns := ns) (nk := nk) (nc := nc) (a := T0.1 (m + 3) 2 + p) (b := T0.1 (m + 3) 2 + p) (q_ag_I (q_ag_refl _ S) (by omega)) f0 (q_ag_I (q_ag_refl _ _) (by omega)) ?_ ?_ ?_ ?_ rfl
      · refine q_Rel_main h0 (Nat.le_succ _) (q_ag_I (q_ag_refl _ S) (by omega)) h0.rs (q_ag_I (q_ag_refl _ _) (by omega)) h0.rt ⟨cnt, t, t9, c5, ?_, q_ser_ag2 hser (pI_ne (by omega)) (fun c k hc hk => pI_ne (by omega)) (Nat.le_succ _), ?_⟩
        · rw [pI_same, e3]; omega
        · refine q_state_room hst h0.nc6 (q_ag_I (q_ag_refl _ S) (by omega)) (fun k k1 k2 => pI_ne (by omega)) (fun _ _ => rfl) ?_ ?_ ?_
          · rw [pI_ne (by omega), pI_ne (by omega)]; exact hst.2.1
          · rw [pI_same]; exact (pI_same _ _ _ _).symm
          · rw [pI_ne (by omega), pI_ne (by omega)]; exact hst.2.2.2.1
      · rw [pI_ne (by omega)]; exact z0
      · have c3 : ¬ (5000 : Int32) < T0.1 (m + 3) 2 + p := by rw [t_lt, k5, e3]; exact c2
        unfold f_X8_announce
        rw [if_neg (Int32.not_lt.mpr c1.1), if_pos c1.2, m_gd_t h.ox, h.r3, m_b1_s, m_gd_t h.o137, h.r137, m_b1_s, m_gd_t h.o138, if_pos (show p ≤ (5000 : Int32) - S.1 (x + 138) 2 from by rw [y2]; exact cc.mpr c3), y2, m_lt_s]
        show m_b1 (S.2.2 x 3) _ = _
        rw [h.r3, m_b1_s, m_gd_t h.o137]
        show m_b1 (S.2.2 (x + 137) 0) _ = _
        rw [h.r137, m_b1_s, m_gd_t h.o138, pI_same]
      · have c3 : ¬ (5000 : Int32) < T0.1 (m + 3) 2 + p := by rw [t_lt, k5, e3]; exact c2
        unfold f_X9_announce
        rw [m_gd_t hM.o, m_lt_s, e0, e_isIn, m_b1_s, e_may hM.o z0 z10, if_pos c1, if_neg z10, hM.a.1, m_b1_s, m_gd_t hM.a.2.1, m_gd_t (q_inl (wi := 2) (i := 2) rfl hM.a.2 (by omega) (by omega)), m_jp_if, e_mayN hM.o z0 z20, if_neg (show ¬ (5000 : Int32) < T0.1 (m + 3) (2 : Int32).toNatClampNeg + p from c3), if_pos z10, hM.a.1, m_b1_s, m_gd_t hM.a.2.1, m_gd_t (q_inl (wi := 2) (i := 2) rfl hM.a.2 (by omega) (by omega)), m_gd_t (q_inl (wi := 2) (i := 2) rfl hM.a.2 (by omega) (by omega)), m_lt_s]
        show m_b1 (T0.2.2 m 3) _ = _
        rw [hM.a.1, m_b1_s, m_gd_t hM.a.2.1, m_gd_t (q_inl (wi := 2) (i := 2) rfl hM.a.2 (by omega) (by omega)), tn2, pI_same]
  · refine q_JW_er h0 f0 (s := "java/lang/IllegalArgumentException") (b := 0) (k := 1) ?_ ?_ (by simp)
    · unfold f_X8_announce
      by_cases q : p < 1
      · rw [if_pos q]
      · rw [if_neg q, if_neg (fun z => c1 ⟨Int32.not_lt.mp q, z⟩)]
    · unfold f_X9_announce
      rw [m_gd_t hM.o, m_lt_s, e0, e_isIn, m_b1_s, e_may hM.o z0 z10, if_neg c1, if_pos z00]
end SETS
