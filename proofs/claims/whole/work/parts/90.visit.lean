section VISIT
variable {Z : m_Z} {x m pd n st : Nat} {B : Nat → Int32} {S0 T0 S T : m_S}
theorem g_visits {lo hi : Nat} {v : Int32} (h24 : hi < 24) (o5 : m_ok Z pd 5) (od : m_okn Z (pd + 3) 11 24) : ∀ (d i f : Nat) (S : m_S), d + i = hi + 1 → d < f → S.2.2 pd 5 = some (pd + 3) → ∃ S', (∀ j2, m_fx (F_X5_addVisitors_3 Z pd (Int32.ofNat hi) v j2) f (Int32.ofNat i, S) = j2 S') ∧ (∀ k, S'.1 (pd + 3) k = if i ≤ k ∧ k ≤ hi then S.1 (pd + 3) k + v else S.1 (pd + 3) k) ∧ q_ag (fun b _ => ¬ b = pd + 3) S S' ∧ S'.2 = S.2 := by
  intro d
  induction d with
  | zero =>
    intro i f S h1 h2 hr
    obtain ⟨f, rfl⟩ : ∃ g, f = g + 1 := ⟨f - 1, by omega⟩
    refine ⟨S, fun j => ?_, fun k => by rw [if_neg (by omega)], q_ag_refl _ _, rfl⟩
    rw [m_fx_s]
    unfold F_X5_addVisitors_3
    simp only []
    rw [if_pos ((io_lt (by omega) (by omega)).mpr (by omega))]
  | succ d ih =>
    intro i f S h1 h2 hr
    obtain ⟨f, rfl⟩ : ∃ g, f = g + 1 := ⟨f - 1, by omega⟩
    obtain ⟨S1, hS1⟩ : ∃ y, y = m_pI S (pd + 3) i (S.1 (pd + 3) i + v) := ⟨_, rfl⟩
    obtain ⟨S', e1, e2, e3, e4⟩ := ih (i + 1) f S1 (by omega) (by omega) (by rw [hS1]; exact hr)
    refine ⟨S', fun j => ?_, fun k => ?_, q_ag_trans (by rw [hS1]; exact q_ag_I (q_ag_refl _ _) (by omega)) e3, by rw [e4, hS1]; rfl⟩
    · have e1' := e1 j
      rw [m_fx_s]
      generalize m_fx (F_X5_addVisitors_3 Z pd (Int32.ofNat hi) v j) f = lp at *
      unfold F_X5_addVisitors_3
      simp only []
      rw [if_neg (fun z => absurd ((io_lt (by omega) (by omega)).mp z) (by omega)), m_gd_t o5, hr, m_b1_s, m_gd_t od.1, od.2, if_neg (fun z => absurd ((io_le (by omega) (by omega)).mp z) (by omega)), m_gd_t (io_in (by omega) (by omega)), m_gd_t (io_in (by omega) (by omega)), io_tn (by omega), ← hS1, m_lt_s, io_one, m_lt_s]
      exact e1'
    · rw [e2 k, hS1]
      by_cases q : k = i
      · subst q; rw [if_neg (by omega), if_pos (by omega), pI_same]
      · rw [pI_ne (by omega)]
        by_cases q2 : i ≤ k ∧ k ≤ hi
        · rw [if_pos (by omega), if_pos q2]
        · rw [if_neg (by omega), if_neg q2]
theorem e_visits {hi : Nat} {v : Int32} (h24 : hi < 24) : ∀ (d i f : Nat) (T : m_S), d + i = hi + 1 → d < f → q_M Z T.2.2 m → T.1 m 18 = 0 → ∃ T', (∀ j, m_fx (F_X9_visitors_39 Z m (Int32.ofNat hi) v j) f (Int32.ofNat i, T) = j T') ∧ (∀ k, T'.1 (m + 2) k = if 30 + i ≤ k ∧ k ≤ 30 + hi then T.1 (m + 2) k + v else T.1 (m + 2) k) ∧ q_ag (fun b _ => ¬ b = m + 2) T T' ∧ T'.2 = T.2 := by
  intro d
  induction d with
  | zero =>
    intro i f T h1 h2 hM h0
    obtain ⟨f, rfl⟩ : ∃ g, f = g + 1 := ⟨f - 1, by omega⟩
    refine ⟨T, fun j => ?_, fun k => by rw [if_neg (by omega)], q_ag_refl _ _, rfl⟩
    rw [m_fx_s]
    unfold F_X9_visitors_39
    simp only []
    rw [if_pos ((io_lt (by omega) (by omega)).mpr (by omega))]
  | succ d ih =>
    intro i f T h1 h2 hM h0
    obtain ⟨f, rfl⟩ : ∃ g, f = g + 1 := ⟨f - 1, by omega⟩
    obtain ⟨T1, hT1⟩ : ∃ y, y = m_pI T (m + 2) (30 + i) (T.1 (m + 2) (30 + i) + v) := ⟨_, rfl⟩
    obtain ⟨T', e1, e2, e3, e4⟩ := ih (i + 1) f T1 (by omega) (by omega) (by rw [hT1]; exact hM) (by rw [hT1, pI_ne (by omega)]; exact h0)
    refine ⟨T', fun j => ?_, fun k => ?_, q_ag_trans (by rw [hT1]; exact q_ag_I (q_ag_refl _ _) (by omega)) e3, by rw [e4, hT1]; rfl⟩
    · have e1' := e1 j
      have e30 : (30 : Int32) + Int32.ofNat i = Int32.ofNat (30 + i) := io_add 30 i
      rw [m_fx_s]
      generalize m_fx (F_X9_visitors_39 Z m (Int32.ofNat hi) v j) f = lp at *
      unfold F_X9_visitors_39
      simp only []
      rw [if_neg (fun z => absurd ((io_lt (by omega) (by omega)).mp z) (by omega)), e_wrong0 hM h0, m_b1_s, if_neg nz0, hM.told.1, m_b1_s, e30, m_lt_s, m_gd_t hM.told.2.1, m_gd_t (q_inn hM.told.2 (by omega) (by omega)), m_gd_t (q_inn hM.told.2 (by omega) (by omega)), io_tn (by omega), ← hT1, m_lt_s, io_one, m_lt_s]
      exact e1'
    · rw [e2 k, hT1]
      by_cases q : k = 30 + i
      · subst q; rw [if_neg (by omega), if_pos (by omega), pI_same]
      · rw [pI_ne (by omega)]
        by_cases q2 : 30 + i ≤ k ∧ k ≤ 30 + hi
        · rw [if_pos (by omega), if_pos q2]
        · rw [if_neg (by omega), if_neg q2]
/-- in the wrong nothing is added -/
theorem e_visits1 {a v w : Int32} (h : q_wr Z m T) (f : Nat) (j : m_S → Option (Unit × m_S)) : m_fx (F_X9_visitors_39 Z m a v j) (f + 1) (w, T) = j T := by
  rw [m_fx_s]
  unfold F_X9_visitors_39
  simp only []
  by_cases q : a < w
  · rw [if_pos q]
  · rw [if_neg q, e_wrong1 h, m_b1_s, if_pos z10]
theorem q_visitors {ns nv nq : Nat} {cnt : Nat → Nat} (h : q_P Z x m pd n B S0 T0 st S T) (hD : q_D Z x m pd ns nv 0 0 cnt nq S T) (hn : nv < 6) : q_E Z x m pd S0 T0 (fun S' T' => (∃ st', q_P Z x m pd n B S0 T0 st' S' T') ∧ q_D Z x m pd ns (nv + 1) 0 0 cnt nq S' T') (f_X3_readVisitors Z S (x + 1) pd) (f_X9_visitors Z T m) := by
  have hm := h.em
  have hpd := h.pdr
  obtain ⟨⟨⟨o5, ⟨rd1, od1⟩, ⟨rd2, od2⟩, rd3, od3⟩, ⟨w0, w1, w2, w3, w4, w5, w6, w7⟩, hds, hv, hws, hk4, hc6⟩, hnv, hK, ⟨hq1, hq2, hq3⟩, hnt, hcs, hz, hser⟩ := hD
  obtain ⟨st1, S1, T1, g1, r1, hP1, f1, f2, f3, f4⟩ := q_P_next h
  have eb := e_begins_ok (i := 3) (wi := 3) (lim := 6) h.M h.w0 rfl (by omega) (by rw [hnv]; exact fun z => by have := t_eq.mp z; rw [t_ofNat (by omega), show (6 : Int32).toInt = 6 from rfl] at this; omega) r1 hP1.M hP1.w0
  have k0 : (0 : Int32).toInt = 0 := rfl
  have k23 : (23 : Int32).toInt = 23 := rfl
  have t3 : (3 : Int32).toNatClampNeg = 3 := rfl
  -- the tail of the reference in the wrong
  have tail : ∀ (a v w : Int32) (T' : m_S), q_wr Z m T' → q_W m T' (m_jp (fun (S15 : m_S) => m_b1 (S15.2.2 m 2) (fun b16 => m_gd (m_ok Z b16 11) (m_gd (m_in (3 : Int32) (Z.2.2 b16)) (m_gd (m_in (3 : Int32) (Z.2.2 b16)) (m_lt (m_pI S15 b16 (3 : Int32).toNatClampNeg ((S15.1 b16 (3 : Int32).toNatClampNeg) + (1 : Int32))) (fun S21 => m_bw (f_X9_ends Z S21 m) (fun _u S24 => some ((), S24)))))))) (fun j25 => m_fx (F_X9_visitors_39 Z m a v j25) 100000 (w, T'))) := fun a v w T' hw => by
    rw [m_jp_s, e_visits1 hw 99999, hw.1.told.1, m_b1_s, m_gd_t hw.1.told.2.1, m_gd_t (q_inl (wi := 3) (i := 3) rfl hw.1.told.2 (by omega) (by omega)), m_gd_t (q_inl (wi := 3) (i := 3) rfl hw.1.told.2 (by omega) (by omega))]
    refine q_W_set (Or.inl rfl) ?_
    exact q_W_ends (q_wr_I hw (Or.inl rfl)) q_W_done
  unfold f_X3_readVisitors f_X9_visitors
  rw [m_gd_t h.f.o1, m_gd_t h.M.o, g1, m_bw_s, eb, m_bw_s, if_pos (show ¬ (1 : Int32) = 0 from z10)]
  refine q_E_num hP1 0 23 (fun v st2 S2 T2 v1 v2 hP2 a1 a2 a3 a4 => ?_) (fun v T' hw => q_W_fig hw _ _ (q_W_fig hw _ _ (tail _ _ _ _ hw)))
  refine q_E_num hP2 v 23 (fun u st3 S3 T3 u1 u2 hP3 c1 c2 c3 c4 => ?_) (fun u T' hw => q_W_fig hw _ _ (tail _ _ _ _ hw))
  refine q_E_num hP3 0 999 (fun w st4 S4 T4 ww1 ww2 hP4 d1 d2 d3 d4 => ?_) (fun w T' hw => tail _ _ _ _ hw)
  rw [k0] at v1
  rw [k23] at v2 u2
  obtain ⟨lo, rfl, lo1⟩ : ∃ lo : Nat, v = Int32.ofNat lo ∧ lo ≤ 23 := ⟨v.toInt.toNat, t_eq.mpr (by rw [t_ofNat (by omega)]; omega), by omega⟩
  obtain ⟨hi, rfl, hi1⟩ : ∃ hi : Nat, u = Int32.ofNat hi ∧ hi ≤ 23 := ⟨u.toInt.toNat, t_eq.mpr (by rw [t_ofNat (by omega)]; omega), by omega⟩
  rw [t_ofNat (by omega), t_ofNat (by omega)] at u1
  obtain ⟨T5, y1, y2, y3, y4⟩ := e_visits (Z := Z) (m := m) (v := w) (show hi < 24 by omega) (hi + 1 - lo) lo 100000 T4 (by omega) (by omega) hP4.M hP4.w0
  have p3 : ∀ b k, b ≠ m → T4.1 b k = T.1 b k := fun b k hb => by rw [(d3 _ _ (by omega)).1, (c3 _ _ (by omega)).1, (a3 _ _ (by omega)).1, (f3 _ _ (by omega)).1]
  have pS : ∀ b k, b ≠ x + 1 → S4.1 b k = S.1 b k := fun b k hb => by rw [(d1 _ _ (by omega)).1, (c1 _ _ (by omega)).1, (a1 _ _ (by omega)).1, (f1 _ _ (by omega)).1]
  have t53 : T5.1 (m + 2) 3 = Int32.ofNat nv := by rw [y2 3, if_neg (by omega), p3 _ _ (by omega)]; exact hnv
  obtain ⟨T6, hT6⟩ : ∃ y, y = m_pI T5 (m + 2) 3 (Int32.ofNat (nv + 1)) := ⟨_, rfl⟩
  have b6 : q_ag (fun b _ => ¬ b = m + 2) T4 T6 := by rw [hT6]; exact q_ag_I y3 (by omega)
  have r6 : T6.2.2 = T4.2.2 := by rw [hT6]; show T5.2.2 = _; rw [y4]
  have hP6 : q_P Z x m pd n B S0 T0 st4 S4 T6 := hP4.go (q_ag_refl _ _) hP4.rs (q_ag_sub b6 (fun b k hb => by omega)) r6
  have hM5 : q_M Z T5.2.2 m := by rw [y4]; exact hP4.M
  rw [m_jp_s, y1, hM5.told.1, m_b1_s, m_gd_t hM5.told.2.1, m_gd_t (q_inl (wi := 3) (i := 3) rfl hM5.told.2 (by omega) (by omega)), m_gd_t (q_inl (wi := 3) (i := 3) rfl hM5.told.2 (by omega) (by omega)), t3, t53, io_one, ← hT6, m_lt_s]
  refine q_E_semi hP6 (fun st7 S7 T7 hP7 e1 e2 e3 e4 => ?_) (fun T' hw => q_W_done)
  have cj : S7.2 = S.2 := e2.trans (d2.trans (c2.trans (a2.trans f2)))
  obtain ⟨S8, z1, z2, z3, z4⟩ := g_visits (Z := Z) (lo := lo) (v := w) (show hi < 24 by omega) o5 od3 (hi + 1 - lo) lo 100000 S7 (by omega) (by omega) (by rw [cj]; exact rd3)
  have r8 : S8.2 = S.2 := z4.trans cj
  have ga : f_X5_addVisitors Z S7 pd (Int32.ofNat lo) (Int32.ofNat hi) w = some ((), S8) := by
    unfold f_X5_addVisitors
    rw [m_jp_s]
    exact z1 _
  rw [m_gd_t o5, ga, m_bw_s]
  have hP8 : q_P Z x m pd n B S0 T0 st7 S8 T7 := hP7.go (q_ag_sub z3 (fun b k hb => by omega)) (by rw [r8]; exact h.rs) (q_ag_refl _ _) rfl
  have s8 : ∀ b k, b ≠ x + 1 → b ≠ pd + 3 → S8.1 b k = S.1 b k := fun b k h1 h2 => by rw [(z3 _ _ h2).1, (e1 _ _ (by omega)).1]; exact pS b k h1
  have tt : ∀ b k, b ≠ m → b ≠ m + 2 → T7.1 b k = T.1 b k := fun b k h1 h2 => by rw [(e3 _ _ (by omega)).1, (b6 _ _ h2).1]; exact p3 b k h1
  have tt2 : ∀ k, k ≠ 3 → (k < 30 ∨ 54 ≤ k) → T7.1 (m + 2) k = T.1 (m + 2) k := fun k h1 h2 => by rw [(e3 _ _ (by omega)).1, hT6, pI_ne (by omega), y2 k, if_neg (by omega)]; exact p3 _ _ (by omega)
  refine Or.inl ⟨S8, T7, rfl, rfl, ⟨st7, hP8⟩, ⟨⟨o5, ⟨by rw [r8]; exact rd1, od1⟩, ⟨by rw [r8]; exact rd2, od2⟩, by rw [r8]; exact rd3, od3⟩, ⟨?_, ?_, ?_, ?_, ?_, ?_, ?_, ?_⟩, fun i hi2 => ?_, fun i hi2 => ?_, ?_, by omega, by omega⟩, ?_, ⟨by omega, fun k hk => absurd hk (by omega)⟩, ⟨?_, ?_, fun k hk => ?_⟩, ⟨fun i hi => absurd hi (by omega), fun i hi => absurd hi (by omega)⟩, fun c hc => absurd hc (by omega), fun c k h1 h2 h3 h4 => ?_, ?_⟩
  · rw [s8 _ _ (by omega) (by omega), tt2 _ (by omega) (by omega)]; exact w0
  · rw [s8 _ _ (by omega) (by omega), tt2 _ (by omega) (by omega)]; exact w1
  · rw [s8 _ _ (by omega) (by omega)]; exact w2
  · rw [tt2 _ (by omega) (by omega)]; exact w3
  · rw [s8 _ _ (by omega) (by omega)]; exact w4
  · rw [tt2 _ (by omega) (by omega)]; exact w5
  · rw [s8 _ _ (by omega) (by omega)]; exact w6
  · rw [tt2 _ (by omega) (by omega)]; exact w7
  · have := hds i hi2
    have n12 := hws.1
    unfold q_d q_s at this ⊢
    rw [s8 _ _ (by omega) (by omega), s8 _ _ (by omega) (by omega), tt2 _ (by omega) (by omega), tt2 _ (by omega) (by omega)]; exact this
  · have e7 : T7.1 (m + 2) (30 + i) = if 30 + lo ≤ 30 + i ∧ 30 + i ≤ 30 + hi then T.1 (m + 2) (30 + i) + w else T.1 (m + 2) (30 + i) := by
      rw [(e3 _ _ (by omega)).1, hT6, pI_ne (by omega), y2 (30 + i), p3 _ _ (by omega)]
    have e8 : S8.1 (pd + 3) i = if lo ≤ i ∧ i ≤ hi then S.1 (pd + 3) i + w else S.1 (pd + 3) i := by
      rw [z2 i, (e1 _ _ (by omega)).1, pS _ _ (by omega)]
    rw [e7, e8, hv i hi2]
    by_cases q : lo ≤ i ∧ i ≤ hi
    · rw [if_pos q, if_pos (by omega)]
    · rw [if_neg q, if_neg (by omega)]
  · exact q_ws_congr (fun i hi => by
      have n12 := hws.1
      unfold q_d q_s
      exact ⟨tt2 _ (by omega) (by omega), tt2 _ (by omega) (by omega)⟩) hws
  · rw [(e3 _ _ (by omega)).1, hT6, pI_same]
  · rw [s8 _ _ (by omega) (by omega)]; exact hq1
  · rw [tt _ _ (by omega) (by omega)]; exact hq2
  · rw [tt _ _ (by omega) (by omega)]; exact hq3 k hk
  · rw [tt _ _ (by omega) (by omega)]; exact hz c k h1 h2 h3 h4
  · rw [show T7.1 (m + 6) = T.1 (m + 6) from funext fun k => tt _ _ (by omega) (by omega)]; exact hser
end VISIT
