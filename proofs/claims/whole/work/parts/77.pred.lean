/-! predictions -/
theorem q_Rel_pr {Z : m_Z} {x m N N' pb ns nk nc : Nat} {S T S' T' : m_S} (h : q_Rel Z x m N pb ns nk nc S T) (hN : N ≤ N') (hS : q_ag (fun b _ => x ≤ b ∧ b < x + 341 ∧ ¬ (x + 203 ≤ b ∧ b < x + 213)) S S') (hSr : q_RS S'.2.2 x 0 341) (hT : q_ag (fun b k => m ≤ b ∧ b < m + 14 ∧ ¬ b = m + 3 ∧ ¬ b = m + 7 ∧ ¬ b = m + 4 ∧ ¬ b = m + 8 ∧ (b = m → k = 12 ∨ k = 18 ∨ k = 19)) T T') (hTr : q_RS T'.2.2 x 341 355) (ha : ∀ j, j < 340 → T'.1 (m + 3) j = T.1 (m + 3) j) (hb : ∀ j, j < 30 → T'.2.1 (m + 7) j = T.2.1 (m + 7) j) : q_Rel Z x m N' pb ns nk nc S' T' :=
  q_Rel_main h hN (q_ag_sub hS (fun b k hb => by omega)) hSr hT hTr (q_sta_ag h.sta h.nc6 (q_ag_sub hS (fun b k hb => by omega)) ha hb hN)
/-- set aside, hours, brought back -/
theorem q_pr_T {m : Nat} {T T1 T2 T3 : m_S} (h1 : q_rows m (m + 3) (m + 7) (m + 4) (m + 8) T T1) (h2 : q_ag (fun b k => b ≠ m + 3 ∧ b ≠ m + 7 ∧ ¬ (b = m ∧ k = 25)) T1 T2) (h2r : T2.2.2 = T1.2.2) (h3 : q_rows m (m + 4) (m + 8) (m + 3) (m + 7) T2 T3) : (∀ j, j < 340 → T3.1 (m + 3) j = T.1 (m + 3) j) ∧ (∀ j, j < 30 → T3.2.1 (m + 7) j = T.2.1 (m + 7) j) ∧ q_ag (fun b k => ¬ b = m + 3 ∧ ¬ b = m + 7 ∧ ¬ b = m + 4 ∧ ¬ b = m + 8 ∧ ¬ (b = m ∧ k = 25)) T T3 ∧ T3.2.2 = T.2.2 := by
  refine ⟨fun j hj => ?_, fun j hj => ?_, ?_, ?_⟩
  · rw [h3.1 j hj, (h2 _ _ (by omega)).1]; exact h1.1 j hj
  · rw [h3.2.1 j hj, (h2 _ _ (by omega)).2.1]; exact h1.2.1 j hj
  · exact q_ag_trans (q_ag_sub h1.2.2.1 (fun b k hb => by omega)) (q_ag_trans (q_ag_sub h2 (fun b k hb => by omega)) (q_ag_sub h3.2.2.1 (fun b k hb => by omega)))
  · rw [h3.2.2.2, h2r, h1.2.2.2]
theorem q_fH_cut {m : Nat} {T T' : m_S} (h : q_fH m T T') : q_ag (fun b k => b ≠ m + 3 ∧ b ≠ m + 7 ∧ ¬ (b = m ∧ k = 25)) T T' := q_fH_ag h (fun b k hb => hb)
theorem q_fH_trans {m : Nat} {T T' T'' : m_S} (h : q_fH m T T') (h' : q_fH m T' T'') : q_fH m T T'' := ⟨fun b k q1 q2 => (h'.1 b k q1 q2).trans (h.1 b k q1 q2), fun b k q => (h'.2.1 b k q).trans (h.2.1 b k q), h'.2.2.trans h.2.2⟩
theorem q_fH_refl (m : Nat) (T : m_S) : q_fH m T T := ⟨fun _ _ _ _ => rfl, fun _ _ _ => rfl, rfl⟩
/-- the room alone -/
def q_rmq (r m tt : Nat) (S T : m_S) : Prop := (S.1 r 0 = Int32.ofNat tt ∧ T.1 (m + 3) 0 = Int32.ofNat tt) ∧ S.1 r 1 = T.1 (m + 3) 1 ∧ S.1 r 2 = T.1 (m + 3) 2
theorem j_room1 {Z : m_Z} {pb ns nk nc r m tt : Nat} {S T : m_S} (hM : q_M Z T.2.2 m) (hs : q_set9 Z pb ns nk nc S (T.1 (m + 1))) (g : m_ok Z r 4) (hap : r < pb ∨ pb + 4 ≤ r) (hr : q_rmq r m tt S T) (t9 : tt < 2000000) : ∃ room S' T', f_X4_passHour Z S r pb = some (room, S') ∧ f_X9_hour Z T m 0 (-1) = some (0, T') ∧ q_rmq r m (tt + 1) S' T' ∧ (∀ b k, b ≠ r → S'.1 b k = S.1 b k) ∧ S'.2 = S.2 ∧ q_fH m T T' ∧ T'.1 m 25 = room := by
  obtain ⟨⟨r0, r0'⟩, r1, r2⟩ := hr
  have g1 := g_roomhour (r := r) hs g r0 (by omega) hap
  obtain ⟨j38, hj, g2⟩ := e_hourhead (fr := 0) (to := -1) hM hs.2.1.2.2.2.1 hs.2.2.2.2.1 r0' (by omega)
  rw [r1, r2] at g1
  generalize q_rm (T.1 (m + 1)) ns (Int32.ofNat tt) (q_ex (T.1 (m + 1)) tt (T.1 (m + 3) 1) (T.1 (m + 3) 2)) = room at *
  generalize q_ex (T.1 (m + 1)) tt (T.1 (m + 3) 1) (T.1 (m + 3) 2) = ex at *
  obtain ⟨T1, hT1⟩ : ∃ q, q = m_pI (m_pI (m_pI T (m + 3) 1 ex) (m + 3) 2 0) m 25 room := ⟨_, rfl⟩
  rw [← hT1] at g2
  have hM1 : q_M Z T1.2.2 m := by rw [hT1]; exact hM
  have t0 : T1.1 (m + 3) 0 = Int32.ofNat tt := by rw [hT1, pI_ne (by omega), pI_ne (by omega), pI_ne (by omega)]; exact r0'
  refine ⟨room, _, m_pI T1 (m + 3) 0 (Int32.ofNat (tt + 1)), g1, ?_, ⟨⟨pI_same _ _ _ _, pI_same _ _ _ _⟩, ?_, ?_⟩, fun b k hb => ?_, rfl, ⟨fun b k q1 q2 => ?_, fun b k q => ?_, ?_⟩, ?_⟩
  · rw [g2, m_fx_s]
    unfold F_X9_hour_80
    simp only []
    rw [if_pos (by decide), hj 0 T1 hM1, t0, io_one]
  · rw [pI_ne (by omega), pI_ne (by omega), pI_same, pI_ne (by omega), hT1, pI_ne (by omega), pI_ne (by omega), pI_same]
  · rw [pI_ne (by omega), pI_same, pI_ne (by omega), hT1, pI_ne (by omega), pI_same]
  · rw [pI_ne (by omega), pI_ne (by omega), pI_ne (by omega)]
  · rw [pI_ne (by omega), hT1, pI_ne q2, pI_ne (by omega), pI_ne (by omega)]
  · show T1.2.1 b k = _; rw [hT1]; rfl
  · show T1.2.2 = _; rw [hT1]; rfl
  · rw [pI_ne (by omega), hT1, pI_same]
theorem q_room_loop {Z : m_Z} {pb ns nk nc x m t H : Nat} (g : m_ok Z (x + 203) 4) (hap : pb + 4 ≤ x + 203) (hH : H ≤ 2000) (t9 : t ≤ 99999) : ∀ (d i fc fm : Nat), d + i = H → d < fc → d < fm → ∀ (S T : m_S) (w u : Int32), q_M Z T.2.2 m → q_set9 Z pb ns nk nc S (T.1 (m + 1)) → q_rmq (x + 203) m (t + i) S T → S.2.2 x 6 = some (x + 203) → S.2.2 x 1 = some pb →
    ∃ S' T' w', (∀ b k, b ≠ x + 203 → S'.1 b k = S.1 b k) ∧ S'.2 = S.2 ∧ q_fH m T T' ∧ (w = T.1 m 25 → w' = T'.1 m 25) ∧ (i < H → w' = T'.1 m 25) ∧ (∀ j16, m_fx (F_X8_roomIn_27 Z x (Int32.ofNat H) j16) fc (w, Int32.ofNat i, S) = j16 w' S') ∧ ∀ j3, m_fx (F_X9_hours_6 Z m (Int32.ofNat H) 0 (-1) j3) fm (u, Int32.ofNat i, T) = j3 u T' := by
  intro d
  induction d with
  | zero =>
    intro i fc fm h1 h2 h3 S T w u hM hs hr r6 r1
    obtain ⟨f, rfl⟩ : ∃ f, fc = f + 1 := ⟨fc - 1, by omega⟩
    obtain ⟨f', rfl⟩ : ∃ f', fm = f' + 1 := ⟨fm - 1, by omega⟩
    have hi : i = H := by omega
    subst hi
    refine ⟨S, T, w, fun _ _ _ => rfl, rfl, q_fH_refl _ _, id, fun q => absurd q (Nat.lt_irrefl _), fun j16 => ?_, fun j3 => ?_⟩
    · rw [m_fx_s]
      unfold F_X8_roomIn_27
      simp only []
      rw [if_pos (Int32.le_refl _)]
    · rw [m_fx_s]
      unfold F_X9_hours_6
      simp only []
      rw [if_pos (Int32.le_refl _)]
  | succ d ih =>
    intro i fc fm h1 h2 h3 S T w u hM hs hr r6 r1
    obtain ⟨f, rfl⟩ : ∃ f, fc = f + 1 := ⟨fc - 1, by omega⟩
    obtain ⟨f', rfl⟩ : ∃ f', fm = f' + 1 := ⟨fm - 1, by omega⟩
    obtain ⟨room, S1, T1, e1, e2, e3, e4, e5, e6, e7⟩ := j_room1 hM hs g (Or.inr hap) hr (by omega)
    have pT : T1.1 (m + 1) = T.1 (m + 1) := funext fun k => e6.1 _ _ (by omega) (by omega)
    obtain ⟨S', T', w', z1, z2, z3, z4, z5, z6, z7⟩ := ih (i + 1) f f' (by omega) (by omega) (by omega) S1 T1 room u (by rw [e6.2.2]; exact hM) (by rw [pT]; exact q_set9_ag hs (fun b k hb => ⟨e4 b k (by omega), by rw [e5], by rw [e5]⟩) (fun _ _ => rfl)) e3 (by rw [e5]; exact r6) (by rw [e5]; exact r1)
    have c1 : ¬ Int32.ofNat H ≤ Int32.ofNat i := fun q => absurd ((io_le (by omega) (by omega)).mp q) (by omega)
    refine ⟨S', T', w', fun b k hb => (z1 b k hb).trans (e4 b k hb), z2.trans e5, q_fH_trans e6 z3, fun _ => z4 e7.symm, fun _ => z4 e7.symm, fun j16 => ?_, fun j3 => ?_⟩
    · rw [m_fx_s]
      generalize hlp : m_fx (F_X8_roomIn_27 Z x (Int32.ofNat H) j16) f = lp
      unfold F_X8_roomIn_27
      simp only []
      rw [if_neg c1, r6, m_b1_s, r1, m_b1_s, m_gd_t g, e1, m_bw_s, m_lt_s, io_one, ← hlp]
      exact z6 j16
    · rw [m_fx_s]
      generalize hlp : m_fx (F_X9_hours_6 Z m (Int32.ofNat H) 0 (-1) j3) f' = lp
      unfold F_X9_hours_6
      simp only []
      rw [if_neg c1, m_gd_t hM.o, e2, m_bw_s, m_lt_s, m_lt_s, io_one, Int32.add_zero, ← hlp]
      exact z7 j3
/-- a case and its room, tried -/
def q_tri (Z : m_Z) (pb ns nk nc n c x m tt : Nat) (S T : m_S) : Prop := q_M Z T.2.2 m ∧ q_V Z S.2.2 (x + 204) ∧ q_set9 Z pb ns nk nc S (T.1 (m + 1)) ∧ q_Ks Z (pb + 6) nk S (T.1 (m + 1)) ∧ q_rmq (x + 203) m tt S T ∧ q_vit (pb + 6) nk n S (x + 204) (T.1 (m + 1)) (T.1 (m + 3)) c ∧ q_wv (T.1 (m + 1)) (T.1 (m + 3)) n c
theorem j_trial2 {Z : m_Z} {pb ns nk nc n c x m tt : Nat} {S T : m_S} (hpb : pb = x + 5 ∨ pb = x + 71) (g : m_ok Z (x + 203) 4) (hc : c < 6) (t9 : tt < 2000000) (h : q_tri Z pb ns nk nc n c x m tt S T) : ∃ room fl u S1 S2 T', f_X4_passHour Z S (x + 203) pb = some (room, S1) ∧ f_X7_passHour Z S1 (x + 204) room = some (fl, S2) ∧ f_X7_isUnsafe Z S2 (x + 204) = some u ∧ f_X9_hour Z T m (Int32.ofNat c) (Int32.ofNat c) = some (u, T') ∧ (u = 0 ∨ u = 1) ∧ q_tri Z pb ns nk nc n c x m (tt + 1) S2 T' ∧ (∀ b k, ¬ (x + 203 ≤ b ∧ b < x + 212) → S2.1 b k = S.1 b k) ∧ S1.2 = S.2 ∧ S2.2 = S.2 ∧ q_fH m T T' := by
  obtain ⟨hM, hV, hs, hK, ⟨⟨r0, r0'⟩, r1, r2⟩, hv, hw⟩ := h
  have g1 := g_roomhour (r := x + 203) hs g r0 (by omega) (by omega)
  rw [r1, r2] at g1
  obtain ⟨S1, hS1⟩ : ∃ q, q = m_pI (m_pI (m_pI S (x + 203) 1 (q_ex (T.1 (m + 1)) tt (T.1 (m + 3) 1) (T.1 (m + 3) 2))) (x + 203) 2 0) (x + 203) 0 (Int32.ofNat (tt + 1)) := ⟨_, rfl⟩
  rw [← hS1] at g1
  have f1 : ∀ b k, b ≠ x + 203 → S1.1 b k = S.1 b k := fun b k hb => by rw [hS1, pI_ne (by omega), pI_ne (by omega), pI_ne (by omega)]
  have x1 : S1.2 = S.2 := by rw [hS1]; rfl
  have c0 : S1.1 (x + 203) 0 = Int32.ofNat (tt + 1) := by rw [hS1, pI_same]
  have c1 : S1.1 (x + 203) 1 = q_ex (T.1 (m + 1)) tt (T.1 (m + 3) 1) (T.1 (m + 3) 2) := by rw [hS1, pI_ne (by omega), pI_ne (by omega), pI_same]
  have c2 : S1.1 (x + 203) 2 = 0 := by rw [hS1, pI_ne (by omega), pI_same]
  have n6 := hw.2.2.2.1
  obtain ⟨fl, u, S2, T', e1, e2, e3, e4, e5, e6, e7, e8, e9, e10, e11⟩ := j_trial1 (S := S1) (v := x + 204) (kb := pb + 6) hM (by rw [x1]; exact hV) hc (fun b b1 b2 => by omega) (q_vit_cp hv (fun k _ => f1 _ _ (by omega)) (fun i hi => ⟨fun k _ _ => f1 _ _ (by omega), by rw [x1]⟩) (fun _ _ _ => rfl)) hw (q_Ks_ag hK (fun b k hb => ⟨f1 b k (by omega), by rw [x1], by rw [x1]⟩)) hs.2.1.2.2.2.1 hs.2.2.2.2.1 r0' t9 rfl
  have f2 : ∀ b k, ¬ (x + 203 ≤ b ∧ b < x + 212) → S2.1 b k = S.1 b k := fun b k hb => by rw [e7.1 b k (by omega) (by omega), f1 b k (by omega)]
  have x2 : S2.2 = S.2 := e7.2.trans x1
  have pT : T'.1 (m + 1) = T.1 (m + 1) := funext fun k => e11.1 _ _ (by omega) (by omega)
  refine ⟨_, fl, u, S1, S2, T', g1, e1, e2, e3, e4, ⟨by rw [e11.2.2]; exact hM, by rw [x2]; exact hV, ?_, ?_, ⟨⟨?_, e8⟩, ?_, ?_⟩, by rw [pT]; exact e5, by rw [pT]; exact e6⟩, f2, x1, x2, e11⟩
  · rw [pT]; exact q_set9_ag hs (fun b k hb => ⟨f2 b k (by omega), by rw [x2], by rw [x2]⟩) (fun _ _ => rfl)
  · rw [pT]; exact q_Ks_ag hK (fun b k hb => ⟨f2 b k (by omega), by rw [x2], by rw [x2]⟩)
  · rw [e7.1 _ _ (by omega) (by omega)]; exact c0
  · rw [e7.1 _ _ (by omega) (by omega), c1, e9]
  · rw [e7.1 _ _ (by omega) (by omega), c2, e10]
theorem q_hin_loop {Z : m_Z} {pb ns nk nc n c x m t H : Nat} (hpb : pb = x + 5 ∨ pb = x + 71) (g : m_ok Z (x + 203) 4) (gv : m_ok Z (x + 204) 7) (hc : c < 6) (hH : H ≤ 2000) (t9 : t ≤ 99999) : ∀ (d i fc fm : Nat), d + i = H → d < fc → d < fm → ∀ (S T : m_S) (u : Int32), q_tri Z pb ns nk nc n c x m (t + i) S T → S.2.2 x 7 = some (x + 204) → S.2.2 x 6 = some (x + 203) → S.2.2 x 1 = some pb →
    ∃ S' T' u', q_tri Z pb ns nk nc n c x m (t + H) S' T' ∧ (∀ b k, ¬ (x + 203 ≤ b ∧ b < x + 212) → S'.1 b k = S.1 b k) ∧ S'.2 = S.2 ∧ q_fH m T T' ∧ (∀ j28, m_fx (F_X8_humidityIn_40 Z x (Int32.ofNat H) j28) fc (Int32.ofNat i, S) = j28 S') ∧ ∀ j3, m_fx (F_X9_hours_6 Z m (Int32.ofNat H) (Int32.ofNat c) (Int32.ofNat c) j3) fm (u, Int32.ofNat i, T) = j3 u' T' := by
  intro d
  induction d with
  | zero =>
    intro i fc fm h1 h2 h3 S T u h r7 r6 r1
    obtain ⟨f, rfl⟩ : ∃ f, fc = f + 1 := ⟨fc - 1, by omega⟩
    obtain ⟨f', rfl⟩ : ∃ f', fm = f' + 1 := ⟨fm - 1, by omega⟩
    have hi : i = H := by omega
    subst hi
    refine ⟨S, T, u, h, fun _ _ _ => rfl, rfl, q_fH_refl _ _, fun j28 => ?_, fun j3 => ?_⟩
    · rw [m_fx_s]
      unfold F_X8_humidityIn_40
      simp only []
      rw [if_pos (Int32.le_refl _)]
    · rw [m_fx_s]
      unfold F_X9_hours_6
      simp only []
      rw [if_pos (Int32.le_refl _)]
  | succ d ih =>
    intro i fc fm h1 h2 h3 S T u h r7 r6 r1
    obtain ⟨f, rfl⟩ : ∃ f, fc = f + 1 := ⟨fc - 1, by omega⟩
    obtain ⟨f', rfl⟩ : ∃ f', fm = f' + 1 := ⟨fm - 1, by omega⟩
    obtain ⟨room, fl, u1, S1, S2, T1, e1, e2, -, e3, -, e4, e5, x1, x2, e6⟩ := j_trial2 hpb g hc (by omega) h
    obtain ⟨S', T', u', z1, z2, z3, z4, z5, z6⟩ := ih (i + 1) f f' (by omega) (by omega) (by omega) S2 T1 (u + u1) e4 (by rw [x2]; exact r7) (by rw [x2]; exact r6) (by rw [x2]; exact r1)
    have c1 : ¬ Int32.ofNat H ≤ Int32.ofNat i := fun q => absurd ((io_le (by omega) (by omega)).mp q) (by omega)
    refine ⟨S', T', u', z1, fun b k hb => (z2 b k hb).trans (e5 b k hb), z3.trans x2, q_fH_trans e6 z4, fun j28 => ?_, fun j3 => ?_⟩
    · rw [m_fx_s]
      generalize hlp : m_fx (F_X8_humidityIn_40 Z x (Int32.ofNat H) j28) f = lp
      unfold F_X8_humidityIn_40
      simp only []
      rw [if_neg c1, r7, m_b1_s, r6, m_b1_s, r1, m_b1_s, m_gd_t g, e1, m_bw_s, m_gd_t gv, e2, m_bw_s, m_lt_s, io_one, ← hlp]
      exact z5 j28
    · rw [m_fx_s]
      generalize hlp : m_fx (F_X9_hours_6 Z m (Int32.ofNat H) (Int32.ofNat c) (Int32.ofNat c) j3) f' = lp
      unfold F_X9_hours_6
      simp only []
      rw [if_neg c1, m_gd_t h.1.o, e3, m_bw_s, m_lt_s, m_lt_s, io_one, ← hlp]
      exact z6 j3
theorem q_uin_loop {Z : m_Z} {pb ns nk nc n c x m t : Nat} {j17 : Int32 → m_S → Option (Int32 × m_S)} {j21 : m_S → Option (Except String Int32 × m_S)} {j24 : Int32 → m_S → Option (Except String Int32 × m_S)} (hpb : pb = x + 5 ∨ pb = x + 71) (g : m_ok Z (x + 203) 4) (gv : m_ok Z (x + 204) 7) (hc : c < 6) (t9 : t ≤ 99999) : ∀ (d i fc fm : Nat), d + i = 2001 → d < fc → d < fm → ∀ (S T : m_S), 1 ≤ i → q_tri Z pb ns nk nc n c x m (t + i - 1) S T → S.2.2 x 7 = some (x + 204) → S.2.2 x 6 = some (x + 203) → S.2.2 x 1 = some pb →
    ∃ S' T' w, (∀ b k, ¬ (x + 203 ≤ b ∧ b < x + 212) → S'.1 b k = S.1 b k) ∧ S'.2 = S.2 ∧ q_fH m T T' ∧ m_fx (F_X9_unsafeIn_26 Z m (Int32.ofNat c) j17) fm (Int32.ofNat i, T) = j17 (Int32.ofNat w) T' ∧ w ≤ 2001 ∧ m_fx (F_X8_unsafeIn_28 Z x j21 j24) fc (Int32.ofNat i, S) = (if w ≤ 2000 then j24 (Int32.ofNat w) S' else j21 S') := by
  have k2 : ∀ i, i < 10000 → ((2000 : Int32) < Int32.ofNat i ↔ 2000 < i) := fun i hi => io_lt (a := 2000) (by omega) (by omega)
  intro d
  induction d with
  | zero =>
    intro i fc fm h1 h2 h3 S T hi1 h r7 r6 r1
    obtain ⟨f, rfl⟩ : ∃ f, fc = f + 1 := ⟨fc - 1, by omega⟩
    obtain ⟨f', rfl⟩ : ∃ f', fm = f' + 1 := ⟨fm - 1, by omega⟩
    have hi : i = 2001 := by omega
    subst hi
    refine ⟨S, T, 2001, fun _ _ _ => rfl, rfl, q_fH_refl _ _, ?_, by omega, ?_⟩
    · rw [m_fx_s]
      unfold F_X9_unsafeIn_26
      simp only []
      rw [if_pos ((k2 2001 (by omega)).mpr (by omega))]
    · rw [m_fx_s]
      unfold F_X8_unsafeIn_28
      simp only []
      rw [if_pos ((k2 2001 (by omega)).mpr (by omega)), if_neg (by omega)]
  | succ d ih =>
    intro i fc fm h1 h2 h3 S T hi1 h r7 r6 r1
    obtain ⟨f, rfl⟩ : ∃ f, fc = f + 1 := ⟨fc - 1, by omega⟩
    obtain ⟨f', rfl⟩ : ∃ f', fm = f' + 1 := ⟨fm - 1, by omega⟩
    obtain ⟨room, fl, u1, S1, S2, T1, e1, e2, eu, e3, u01, e4, e5, x1, x2, e6⟩ := j_trial2 hpb g hc (by omega) h
    have r7' : S2.2.2 x 7 = some (x + 204) := by rw [x2]; exact r7
    rcases u01 with q | q
    · subst q
      obtain ⟨S', T', w, z1, z2, z3, z4, z5, z6⟩ := ih (i + 1) f f' (by omega) (by omega) (by omega) S2 T1 (by omega) (by rw [show t + (i + 1) - 1 = t + i - 1 + 1 by omega]; exact e4) r7' (by rw [x2]; exact r6) (by rw [x2]; exact r1)
      refine ⟨S', T', w, fun b k hb => (z1 b k hb).trans (e5 b k hb), z2.trans x2, q_fH_trans e6 z3, ?_, z5, ?_⟩
      · rw [m_fx_s]
        generalize m_fx (F_X9_unsafeIn_26 Z m (Int32.ofNat c) j17) f' = lp at *
        unfold F_X9_unsafeIn_26
        simp only []
        rw [if_neg (fun q => absurd ((k2 i (by omega)).mp q) (by omega)), e3, m_bw_s, if_neg nz0, m_lt_s, io_one]
        exact z4
      · rw [m_fx_s]
        generalize m_fx (F_X8_unsafeIn_28 Z x j21 j24) f = lp at *
        unfold F_X8_unsafeIn_28
        simp only []
        rw [if_neg (fun q => absurd ((k2 i (by omega)).mp q) (by omega)), r7, m_b1_s, r6, m_b1_s, r1, m_b1_s, m_gd_t g, e1, m_bw_s, m_gd_t gv, e2, m_bw_s, r7', m_b1_s, m_gd_t gv, eu, m_b1_s, if_pos z00, m_lt_s, io_one]
        exact z6
    · subst q
      refine ⟨S2, T1, i, e5, x2, e6, ?_, by omega, ?_⟩
      · rw [m_fx_s]
        unfold F_X9_unsafeIn_26
        simp only []
        rw [if_neg (fun q => absurd ((k2 i (by omega)).mp q) (by omega)), e3, m_bw_s, if_pos z10]
      · rw [m_fx_s]
        unfold F_X8_unsafeIn_28
        simp only []
        rw [if_neg (fun q => absurd ((k2 i (by omega)).mp q) (by omega)), r7, m_b1_s, r6, m_b1_s, r1, m_b1_s, m_gd_t g, e1, m_bw_s, m_gd_t gv, e2, m_bw_s, r7', m_b1_s, m_gd_t gv, eu, m_b1_s, if_neg z10, if_pos (by omega)]
