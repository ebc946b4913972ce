section MUSEUM2
variable {Z : m_Z} {x m pd n st : Nat} {B : Nat → Int32} {S0 T0 S T : m_S}
theorem q_museum {Q : m_S → m_S → Prop} (h : q_P Z x m pd n B S0 T0 st S T) (o5 : m_ok Z pd 5) {kc : Unit → m_S → Option (Except String Unit × m_S)} {jm : m_S → Option (Unit × m_S)} (ok : ∀ st' S' T', q_P Z x m pd n B S0 T0 st' S' T' → S'.1 pd 0 = T'.1 (m + 2) 0 → S'.1 pd 1 = T'.1 (m + 2) 1 → q_ag (fun b k => ¬ (b = x + 1 ∧ 4 ≤ k ∧ k ≤ 7) ∧ ¬ (b = pd ∧ k < 2)) S S' → S'.2 = S.2 → q_ag (fun b k => ¬ (b = m ∧ ((14 ≤ k ∧ k ≤ 17) ∨ k = 20)) ∧ ¬ (b = m + 2 ∧ k < 2)) T T' → T'.2.2 = T.2.2 → q_E Z x m pd S0 T0 Q (kc () S') (jm T')) (wr : ∀ T', q_wr Z m T' → q_W m T' (jm T')) : q_E Z x m pd S0 T0 Q (m_bx (f_X3_readMuseum Z S (x + 1) pd) kc) (m_bw (f_X9_takesWord Z T m 0) (fun v4 S3 => m_jp (fun (S6 : m_S) => m_b1 (S6.2.2 m 2) (fun b7 => m_bw (f_X9_figure Z S6 m (0 : Int32) (999 : Int32)) (fun v11 S10 => m_gd (m_ok Z b7 11) (m_gd (m_in (0 : Int32) (Z.2.2 b7)) (m_lt (m_pI S10 b7 (0 : Int32).toNatClampNeg v11) (fun S14 => m_b1 (S14.2.2 m 2) (fun b16 => m_bw (f_X9_figure Z S14 m (0 : Int32) (99 : Int32)) (fun v20 S19 => m_gd (m_ok Z b16 11) (m_gd (m_in (1 : Int32) (Z.2.2 b16)) (m_lt (m_pI S19 b16 (1 : Int32).toNatClampNeg v20) (fun S23 => m_bw (f_X9_ends Z S23 m) (fun _u S26 => jm S26)))))))))))) (fun j5 => (if ¬ v4 = 0 then j5 S3 else m_bw (f_X9_fails Z S3 m (1 : Int32)) (fun _u S97 => j5 S97))))) := by
  have hm := h.em
  have hpd := h.pdr
  have ok2 : m_ok Z (m + 2) 11 := h.M.told.2.1
  have i0 : m_in (0 : Int32) (Z.2.2 (m + 2)) := q_inl (wi := 0) (i := 0) rfl h.M.told.2 (by omega) (by omega)
  have i1 : m_in (1 : Int32) (Z.2.2 (m + 2)) := q_inl (wi := 1) (i := 1) rfl h.M.told.2 (by omega) (by omega)
  have t0 : (0 : Int32).toNatClampNeg = 0 := rfl
  have t1 : (1 : Int32).toNatClampNeg = 1 := rfl
  -- the tails in the wrong
  have w2 : ∀ (v : Int32) (T' : m_S), q_wr Z m T' → q_W m T' (m_gd (m_ok Z (m + 2) 11) (m_gd (m_in (1 : Int32) (Z.2.2 (m + 2))) (m_lt (m_pI T' (m + 2) (1 : Int32).toNatClampNeg v) (fun S23 => m_bw (f_X9_ends Z S23 m) (fun _u S26 => jm S26))))) := fun v T' hw => by
    rw [m_gd_t ok2, m_gd_t i1]
    refine q_W_set (Or.inl rfl) ?_
    have hw1 := q_wr_I (b := m + 2) (k := (1 : Int32).toNatClampNeg) (v := v) hw (Or.inl rfl)
    exact q_W_ends hw1 (wr _ hw1)
  have w1 : ∀ (v : Int32) (T' : m_S), q_wr Z m T' → q_W m T' (m_gd (m_ok Z (m + 2) 11) (m_gd (m_in (0 : Int32) (Z.2.2 (m + 2))) (m_lt (m_pI T' (m + 2) (0 : Int32).toNatClampNeg v) (fun S14 => m_b1 (S14.2.2 m 2) (fun b16 => m_bw (f_X9_figure Z S14 m (0 : Int32) (99 : Int32)) (fun v20 S19 => m_gd (m_ok Z b16 11) (m_gd (m_in (1 : Int32) (Z.2.2 b16)) (m_lt (m_pI S19 b16 (1 : Int32).toNatClampNeg v20) (fun S23 => m_bw (f_X9_ends Z S23 m) (fun _u S26 => jm S26)))))))))) := fun v T' hw => by
    rw [m_gd_t ok2, m_gd_t i0]
    refine q_W_set (Or.inl rfl) ?_
    have hw1 := q_wr_I (b := m + 2) (k := (0 : Int32).toNatClampNeg) (v := v) hw (Or.inl rfl)
    generalize m_pI T' (m + 2) (0 : Int32).toNatClampNeg v = T9 at hw1 ⊢
    rw [hw1.1.told.1, m_b1_s]
    exact q_W_fig hw1 _ _ (w2 _ _ hw1)
  unfold f_X3_readMuseum
  rw [m_gd_t h.f.o1, m_bx_bx]
  rcases q_word h (w := 0) (by omega) with ⟨st1, S1, T1, y1, y2, hP1, f1, f2, f3, f4⟩ | ⟨S', T', y1, y2, y3, hE, hw⟩
  · rw [y1, m_bx_s, y2, m_bw_s, m_jp_s, if_pos z10, m_bx_bx]
    simp only []
    rw [hP1.M.told.1, m_b1_s]
    refine q_E_num hP1 0 999 (fun v st2 S2 T2 v1 v2 hP2 a1 a2 a3 a4 => ?_) (fun v T' hw => w1 v T' hw)
    obtain ⟨S3, hS3⟩ : ∃ y, y = m_pI S2 pd 0 v := ⟨_, rfl⟩
    obtain ⟨T3, hT3⟩ : ∃ y, y = m_pI T2 (m + 2) 0 v := ⟨_, rfl⟩
    have bS3 : q_ag (fun b k => ¬ (b = pd ∧ k < 2)) S2 S3 := by rw [hS3]; exact q_ag_I (q_ag_refl _ _) (by omega)
    have bT3 : q_ag (fun b k => ¬ (b = m + 2 ∧ k < 2)) T2 T3 := by rw [hT3]; exact q_ag_I (q_ag_refl _ _) (by omega)
    have hP3 : q_P Z x m pd n B S0 T0 st2 S3 T3 := hP2.go (q_ag_sub bS3 (fun b k hb => by omega)) (by rw [hS3]; exact hP2.rs) (q_ag_sub bT3 (fun b k hb => by omega)) (by rw [hT3]; rfl)
    rw [m_gd_t o5, ← hS3, m_lt_s, m_bx_bx, m_gd_t ok2, m_gd_t i0, t0, ← hT3, m_lt_s, hP3.M.told.1, m_b1_s]
    refine q_E_num hP3 0 99 (fun u st4 S4 T4 u1 u2 hP4 c1 c2 c3 c4 => ?_) (fun v T' hw => w2 v T' hw)
    obtain ⟨S5, hS5⟩ : ∃ y, y = m_pI S4 pd 1 u := ⟨_, rfl⟩
    obtain ⟨T5, hT5⟩ : ∃ y, y = m_pI T4 (m + 2) 1 u := ⟨_, rfl⟩
    have bS5 : q_ag (fun b k => ¬ (b = pd ∧ k < 2)) S4 S5 := by rw [hS5]; exact q_ag_I (q_ag_refl _ _) (by omega)
    have bT5 : q_ag (fun b k => ¬ (b = m + 2 ∧ k < 2)) T4 T5 := by rw [hT5]; exact q_ag_I (q_ag_refl _ _) (by omega)
    have hP5 : q_P Z x m pd n B S0 T0 st4 S5 T5 := hP4.go (q_ag_sub bS5 (fun b k hb => by omega)) (by rw [hS5]; exact hP4.rs) (q_ag_sub bT5 (fun b k hb => by omega)) (by rw [hT5]; rfl)
    rw [← hS5, m_lt_s, m_bx_bx, m_gd_t ok2, m_gd_t i1, t1, ← hT5, m_lt_s]
    refine q_E_semi hP5 (fun st6 S6 T6 hP6 d1 d2 d3 d4 => ?_) (fun T' hw => wr T' hw)
    rw [m_bx_s]
    refine ok st6 S6 T6 hP6 ?_ ?_ (q_ag_trans (q_ag_sub f1 (fun b k hb => by omega)) (q_ag_trans (q_ag_sub a1 (fun b k hb => by omega)) (q_ag_trans (q_ag_sub bS3 (fun b k hb => by omega)) (q_ag_trans (q_ag_sub c1 (fun b k hb => by omega)) (q_ag_trans (q_ag_sub bS5 (fun b k hb => by omega)) (q_ag_sub d1 (fun b k hb => by omega))))))) ?_ (q_ag_trans (q_ag_sub f3 (fun b k hb => by omega)) (q_ag_trans (q_ag_sub a3 (fun b k hb => by omega)) (q_ag_trans (q_ag_sub bT3 (fun b k hb => by omega)) (q_ag_trans (q_ag_sub c3 (fun b k hb => by omega)) (q_ag_trans (q_ag_sub bT5 (fun b k hb => by omega)) (q_ag_sub d3 (fun b k hb => by omega))))))) ?_
    · rw [(d1 _ _ (by omega)).1, (d3 _ _ (by omega)).1, hS5, hT5, pI_ne (by omega), pI_ne (by omega), (c1 _ _ (by omega)).1, (c3 _ _ (by omega)).1, hS3, hT3, pI_same, pI_same]
    · rw [(d1 _ _ (by omega)).1, (d3 _ _ (by omega)).1, hS5, hT5, pI_same, pI_same]
    · rw [d2, hS5]; show S4.2 = _; rw [c2, hS3]; show S2.2 = _; rw [a2, f2]
    · rw [d4, hT5]; show T4.2.2 = _; rw [c4, hT3]; show T2.2.2 = _; rw [a4, f4]
  · refine q_E_er hE (by rw [y1, m_bx_e]) ?_
    rw [y2, m_bw_s, m_jp_s, if_neg nz0, y3, m_bw_s]
    simp only []
    rw [hw.1.told.1, m_b1_s]
    exact q_W_fig hw _ _ (w1 _ _ hw)
end MUSEUM2
