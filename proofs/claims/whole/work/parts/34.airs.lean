theorem q_hour_loop {Z : m_Z} {kb nk n c m v : Nat} {Sc Sm : m_S} (hM : q_M Z Sm.2.2 m) (hV : q_V Z Sc.2.2 v) (hc : c < 6) (hap : ∀ b, kb ≤ b → b < kb + 12 → b < v ∨ v + 8 ≤ b) : ∀ (d j fc fm : Nat), d + j = n → d < fc → d < fm → ∀ S T : m_S, q_in Z kb nk n c m v Sc Sm S T → ∃ S' T', q_in Z kb nk n c m v Sc Sm S' T' ∧ (∀ jc, m_fx (F_X7_passHour_45 Z v jc) fc (Int32.ofNat j, S) = jc S') ∧ ∀ jm, m_fx (F_X9_airs_63 Z m (Int32.ofNat c) jm) fm (Int32.ofNat j, T) = jm T' := by
  intro d
  induction d with
  | zero =>
    intro j fc fm h1 h2 h3 S T hi
    obtain ⟨f, rfl⟩ : ∃ f, fc = f + 1 := ⟨fc - 1, by omega⟩
    obtain ⟨f', rfl⟩ : ∃ f', fm = f' + 1 := ⟨fm - 1, by omega⟩
    have hj : j = n := by omega
    subst hj
    obtain ⟨hv, hw, hK, fV, fA, hJ⟩ := id hi
    have n6 := hw.2.2.2.1
    have hMT : q_M Z T.2.2 m := by rw [fA.2]; exact hM
    have hle : Int32.ofNat j ≤ Int32.ofNat j := (io_le (by omega) (by omega)).mpr (Nat.le_refl _)
    refine ⟨S, T, hi, fun jc => ?_, fun jm => ?_⟩
    · rw [m_fx_s]
      unfold F_X7_passHour_45
      simp only []
      rw [hv.2.2.2.2.2.1, if_pos hle]
    · rw [m_fx_s]
      unfold F_X9_airs_63
      simp only []
      rw [e_of (wi := 4) hMT (w := 4) rfl hc (by omega), m_b1_s, show 4 + 56 * c + 4 = 8 + 56 * c by omega, hv.2.2.2.2.2.2.1, if_pos hle]
  | succ d ih =>
    intro j fc fm h1 h2 h3 S T hi
    obtain ⟨f, rfl⟩ : ∃ f, fc = f + 1 := ⟨fc - 1, by omega⟩
    obtain ⟨f', rfl⟩ : ∃ f', fm = f' + 1 := ⟨fm - 1, by omega⟩
    obtain ⟨S1, T1, hi1, e1, e2⟩ := q_hour_step hM hV hc (show j < n by omega) hap hi
    obtain ⟨S', T', hi2, e3, e4⟩ := ih (j + 1) f f' (by omega) (by omega) (by omega) S1 T1 hi1
    refine ⟨S', T', hi2, fun jc => ?_, fun jm => ?_⟩
    · rw [m_fx_s, e1]; exact e3 jc
    · rw [m_fx_s, e2]; exact e4 jm
theorem q_flow_eq {V room A leak : Int32} (v0 : 100 ≤ V.toInt) (v1 : V.toInt ≤ 9999) (r0 : 0 ≤ room.toInt) (r1 : room.toInt ≤ 1000) (a0 : 0 ≤ A.toInt) (a1 : A.toInt < 20000) (k0 : 0 ≤ leak.toInt) (k1 : leak.toInt ≤ 1000) : ∃ f : Int32, (((V * room) - ((1000 : Int32) * A)).toInt64 * leak.toInt64) / (1000000 : Int64) = f.toInt64 ∧ (((V.toInt64 * room.toInt64) - ((1000 : Int64) * A.toInt64)) * leak.toInt64) / (1000000 : Int64) = f.toInt64 ∧ 0 ≤ (A + f).toInt ∧ (A + f).toInt < 20000 := by
  have h := q_flow_t v0 v1 r0 r1 a0 a1 k0 k1 (f := ((V.toInt * room.toInt - 1000 * A.toInt) * leak.toInt).tdiv 1000000) rfl
  obtain ⟨⟨b0, b1⟩, ⟨b2, b3⟩, b4, b5, b6, b7⟩ := h
  have kk : (1000 : Int64).toInt = 1000 := rfl
  have km : (1000000 : Int64).toInt = 1000000 := rfl
  have eVr : (V * room).toInt = V.toInt * room.toInt := t_mul (by omega) (by omega)
  have eA : ((1000 : Int32) * A).toInt = 1000 * A.toInt := by rw [t_mul (by rw [k1000]; omega) (by rw [k1000]; omega), k1000]
  have eL : ((V * room) - ((1000 : Int32) * A)).toInt = V.toInt * room.toInt - 1000 * A.toInt := by rw [t_sub (by rw [eVr, eA]; omega) (by rw [eVr, eA]; omega), eVr, eA]
  have e1 : ((((V * room) - ((1000 : Int32) * A)).toInt64 * leak.toInt64) / (1000000 : Int64)).toInt = ((V.toInt * room.toInt - 1000 * A.toInt) * leak.toInt).tdiv 1000000 := by
    rw [l_div (by rw [km]; decide), l_mul (by rw [l_of, l_of, eL]; omega) (by rw [l_of, l_of, eL]; omega), l_of, l_of, eL, km]
  have eVl : (V.toInt64 * room.toInt64).toInt = V.toInt * room.toInt := by rw [l_mul (by rw [l_of, l_of]; omega) (by rw [l_of, l_of]; omega), l_of, l_of]
  have eAl : ((1000 : Int64) * A.toInt64).toInt = 1000 * A.toInt := by rw [l_mul (by rw [kk, l_of]; omega) (by rw [kk, l_of]; omega), kk, l_of]
  have eLl : ((V.toInt64 * room.toInt64) - ((1000 : Int64) * A.toInt64)).toInt = V.toInt * room.toInt - 1000 * A.toInt := by rw [l_sub (by rw [eVl, eAl]; omega) (by rw [eVl, eAl]; omega), eVl, eAl]
  have e2 : ((((V.toInt64 * room.toInt64) - ((1000 : Int64) * A.toInt64)) * leak.toInt64) / (1000000 : Int64)).toInt = ((V.toInt * room.toInt - 1000 * A.toInt) * leak.toInt).tdiv 1000000 := by
    rw [l_div (by rw [km]; decide), l_mul (by rw [eLl, l_of]; omega) (by rw [eLl, l_of]; omega), eLl, l_of, km]
  have ef : (((((V * room) - ((1000 : Int32) * A)).toInt64 * leak.toInt64) / (1000000 : Int64)).toInt32).toInt = ((V.toInt * room.toInt - 1000 * A.toInt) * leak.toInt).tdiv 1000000 := by
    rw [t_of (by rw [e1]; omega) (by rw [e1]; omega), e1]
  refine ⟨((((V * room) - ((1000 : Int32) * A)).toInt64 * leak.toInt64) / (1000000 : Int64)).toInt32, l_eq.mpr (by rw [l_of, ef, e1]), l_eq.mpr (by rw [l_of, ef, e2]), ?_, ?_⟩
  · rw [t_add (by rw [ef]; omega) (by rw [ef]; omega), ef]; exact b4
  · rw [t_add (by rw [ef]; omega) (by rw [ef]; omega), ef]; exact b5
theorem j_airs {Z : m_Z} {kb nk n c m v : Nat} {Sc Sm : m_S} {room : Int32} (hM : q_M Z Sm.2.2 m) (hV : q_V Z Sc.2.2 v) (hc : c < 6) (hap : ∀ b, kb ≤ b → b < kb + 12 → b < v ∨ v + 8 ≤ b) (hv : q_vit kb nk n Sc v (Sm.1 (m + 1)) (Sm.1 (m + 3)) c) (hw : q_wv (Sm.1 (m + 1)) (Sm.1 (m + 3)) n c) (hK : q_Ks Z kb nk Sc (Sm.1 (m + 1))) (r0 : 0 ≤ room.toInt) (r1 : room.toInt ≤ 1000) : ∃ fl Sc' Sm', f_X7_passHour Z Sc v room = some (fl, Sc') ∧ f_X9_airs Z Sm m (Int32.ofNat c) room = some ((), Sm') ∧ q_vit kb nk n Sc' v (Sm.1 (m + 1)) (Sm'.1 (m + 3)) c ∧ q_wv (Sm.1 (m + 1)) (Sm'.1 (m + 3)) n c ∧ q_frV v Sc Sc' ∧ q_frA m c Sm Sm' ∧ Sm'.2.1 = (m_pJ Sm (m + 7) (5 * c + 2) (Sm.2.1 (m + 7) (5 * c + 2) + fl.toInt64)).2.1 := by
  obtain ⟨v0, v1, v2, v3, v4, v5, v6, v7⟩ := id hv
  obtain ⟨⟨w0, w0'⟩, ⟨w1, w1'⟩, ⟨w2, w2'⟩, n6, w3⟩ := id hw
  obtain ⟨fl, e1, e2, f0, f1⟩ := q_flow_eq w0 w0' r0 r1 w2 w2' w1 w1'
  obtain ⟨S6, hS6⟩ : ∃ q, q = m_pI Sc v 4 (Sc.1 v 4 + fl) := ⟨_, rfl⟩
  obtain ⟨T5, hT5⟩ : ∃ q, q = m_pI Sm (m + 3) (4 + 56 * c + 3) (Sm.1 (m + 3) (7 + 56 * c) + fl) := ⟨_, rfl⟩
  obtain ⟨T6, hT6⟩ : ∃ q, q = m_pJ T5 (m + 7) (5 * c + 2) (T5.2.1 (m + 7) (5 * c + 2) + fl.toInt64) := ⟨_, rfl⟩
  have i3 : 4 + 56 * c + 3 = 7 + 56 * c := by omega
  have gS : ∀ b k, ¬ (b = v ∧ k = 4) → S6.1 b k = Sc.1 b k := fun b k h => by rw [hS6]; exact pI_ne h
  have gT : ∀ b k, ¬ (b = m + 3 ∧ k = 7 + 56 * c) → T6.1 b k = Sm.1 b k := fun b k h => by rw [hT6]; show T5.1 b k = _; rw [hT5]; exact pI_ne (by omega)
  have gA : T6.1 (m + 3) (7 + 56 * c) = Sm.1 (m + 3) (7 + 56 * c) + fl := by rw [hT6]; show T5.1 _ _ = _; rw [hT5, ← i3]; exact pI_same _ _ _ _
  have gAS : S6.1 v 4 = Sc.1 v 4 + fl := by rw [hS6]; exact pI_same _ _ _ _
  have rS : S6.2 = Sc.2 := by rw [hS6]; rfl
  have rT : T6.2.2 = Sm.2.2 := by rw [hT6, hT5]; rfl
  have pT : T6.1 (m + 1) = Sm.1 (m + 1) := funext fun k => gT _ _ (by omega)
  have ga : ∀ k, k ≠ 7 + 56 * c → T6.1 (m + 3) k = Sm.1 (m + 3) k := fun k h => gT _ _ (fun q => h q.2)
  have gk : ∀ k, q_kn (T6.1 (m + 3)) (12 + 56 * c + 4 * k) = q_kn (Sm.1 (m + 3)) (12 + 56 * c + 4 * k) := fun k => by unfold q_kn; rw [ga _ (by omega)]
  have frS : q_frV v Sc S6 := ⟨fun b k h1 _ => gS b k h1, rS⟩
  have hin : q_in Z kb nk n c m v S6 T6 S6 T6 := by
    unfold q_in
    rw [pT]
    refine ⟨⟨?_, ?_, ?_, ?_, ?_, ?_, ?_, fun k hk => ⟨?_, ⟨?_, ?_, ?_⟩, ?_, ?_⟩⟩, ⟨⟨w0, w0'⟩, ?_, ?_, n6, fun k hk => ⟨?_, ?_, ?_⟩⟩, q_Ks_fr hK frS hap, ⟨fun _ _ _ _ => rfl, rfl⟩, ⟨fun _ _ _ => rfl, rfl⟩, rfl⟩
    · rw [gS _ _ (by omega)]; exact v0
    · rw [gS _ _ (by omega), ga _ (by omega)]; exact v1
    · rw [gS _ _ (by omega), ga _ (by omega)]; exact v2
    · rw [gS _ _ (by omega), ga _ (by omega)]; exact v3
    · rw [gAS, gA, v4]
    · rw [gS _ _ (by omega)]; exact v5
    · rw [ga _ (by omega)]; exact v6
    · rw [gS _ _ (by omega), ga _ (by omega)]; exact (v7 k hk).1
    · rw [gk]; exact (v7 k hk).2.1.1
    · rw [gk, ga _ (by omega)]; exact (v7 k hk).2.1.2.1
    · rw [gk, rS]; exact (v7 k hk).2.1.2.2
    · rw [gS _ _ (by omega), ga _ (by omega)]; exact (v7 k hk).2.2.1
    · rw [gS _ _ (by omega), ga _ (by omega)]; exact (v7 k hk).2.2.2
    · rw [ga _ (by omega)]; exact ⟨w1, w1'⟩
    · rw [gA]; exact ⟨f0, f1⟩
    · rw [ga _ (by omega)]; exact (w3 k hk).1
    · rw [ga _ (by omega)]; exact (w3 k hk).2.1
    · rw [gk, ga _ (by omega), ga _ (by omega)]; exact (w3 k hk).2.2
  obtain ⟨S', T', hi, l1, l2⟩ := q_hour_loop (by rw [rT]; exact hM) (by rw [rS]; exact hV) hc hap n 0 100000 100000 (by omega) (by omega) (by omega) S6 T6 hin
  obtain ⟨z1, z2, z3, z4, z5, z6⟩ := hi
  rw [pT] at z1 z2
  refine ⟨fl, S', T', ?_, ?_, z1, z2, ⟨fun b k h1 h2 => (z4.1 b k h1 h2).trans (gS b k h1), z4.2.trans rS⟩, ⟨fun b k h => (z5.1 b k h).trans (gT b k (fun q => h ⟨q.1, Or.inl q.2⟩)), z5.2.trans rT⟩, ?_⟩
  · unfold f_X7_passHour
    rw [m_gd_t hV.1, m_lt_s, v0, v4, v1, e1, m_lt_s, t_of64, m_lt_s, m_jp_s]
    rw [v4] at hS6
    rw [← hS6]
    exact l1 _
  · have e110 : (110 : Int32) + Int32.ofNat c = Int32.ofNat (110 + c) := io_add 110 c
    have hM5 : q_M Z T5.2.2 m := by rw [hT5]; exact hM
    unfold f_X9_airs
    rw [m_gd_t hM.o, hM.p.1, m_b1_s, m_gd_t hM.p.2.1, m_lt_s, e110, m_gd_t (q_inn hM.p.2 (by omega) (by omega)), e_of (wi := 3) hM (w := 3) rfl hc (by omega), m_b1_s, e_of (wi := 0) hM (w := 0) rfl hc (by omega), m_b1_s, m_lt_s, io_tn (by omega), i3, show 4 + 56 * c + 0 = 4 + 56 * c by omega, e2, m_b1_s, t_of64, e_lays (wi := 3) hM (w := 3) rfl hc (by omega), m_bw_s, ← hT5, e_counts (wi := 2) hM5 (w := 2) rfl hc (by omega), m_bw_s, ← hT6, m_jp_s]
    exact l2 _
  · rw [z6, hT6, hT5]; rfl
