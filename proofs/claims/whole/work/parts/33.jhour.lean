/-- what stands between two cassettes of an hour -/
def q_in (Z : m_Z) (kb nk n c m v : Nat) (Sc Sm S T : m_S) : Prop := q_vit kb nk n S v (Sm.1 (m + 1)) (T.1 (m + 3)) c ∧ q_wv (Sm.1 (m + 1)) (T.1 (m + 3)) n c ∧ q_Ks Z kb nk S (Sm.1 (m + 1)) ∧ q_frV v Sc S ∧ q_frA m c Sm T ∧ T.2.1 = Sm.2.1
theorem q_hour_step {Z : m_Z} {kb nk n c m v j : Nat} {Sc Sm S T : m_S} (hM : q_M Z Sm.2.2 m) (hV : q_V Z Sc.2.2 v) (hc : c < 6) (hj : j < n) (hap : ∀ b, kb ≤ b → b < kb + 12 → b < v ∨ v + 8 ≤ b) (hi : q_in Z kb nk n c m v Sc Sm S T) : ∃ S' T', q_in Z kb nk n c m v Sc Sm S' T' ∧ (∀ jc lc, F_X7_passHour_45 Z v jc lc (Int32.ofNat j, S) = lc (Int32.ofNat (j + 1), S')) ∧ ∀ jm lm, F_X9_airs_63 Z m (Int32.ofNat c) jm lm (Int32.ofNat j, T) = lm (Int32.ofNat (j + 1), T') := by
  obtain ⟨hv, hw, hK, fV, fA, hJ⟩ := hi
  obtain ⟨v0, v1, v2, v3, v4, v5, v6, v7⟩ := id hv
  obtain ⟨⟨w0, w0'⟩, ⟨w1, w1'⟩, ⟨w2, w2'⟩, n6, w3⟩ := id hw
  obtain ⟨cs, ⟨ck, ck1, ck2⟩, cm, cq⟩ := v7 j hj
  obtain ⟨⟨x0, x1⟩, x2, x3⟩ := w3 j hj
  obtain ⟨nk4, hKs⟩ := id hK
  obtain ⟨gk, rk, wk⟩ := hKs _ ck
  have hMT : q_M Z T.2.2 m := by rw [fA.2]; exact hM
  have eRS : S.2.2 = Sc.2.2 := by rw [fV.2]
  have hVS : q_V Z S.2.2 v := by rw [eRS]; exact hV
  have pT : ∀ i, T.1 (m + 1) i = Sm.1 (m + 1) i := fun i => fA.1 _ _ (fun q => by omega)
  have pTe : T.1 (m + 1) = Sm.1 (m + 1) := funext pT
  generalize hp : Sm.1 (m + 1) = p at *
  generalize ha : T.1 (m + 3) = a at *
  generalize hkn : q_kn a (12 + 56 * c + 4 * j) = kn at *
  have kn4 : kn < 4 := by omega
  -- the numbers
  generalize hA : a (7 + 56 * c) = A at *
  generalize hVo : p (110 + c) = V at *
  generalize hMo : a (15 + 56 * c + 4 * j) = M at *
  generalize hma : a (14 + 56 * c + 4 * j) = ma at *
  have cq' : S.1 (v + 2 + j) 3 = M := by rw [cq, ← hMo]; exact congrArg a (by omega)
  have cm' : S.1 (v + 2 + j) 2 = ma := by rw [cm, ← hma]; exact congrArg a (by omega)
  generalize hhv : ((1000 : Int32) * A) / V = hv9 at *
  have hvt := q_hum_t w2 w2' w0 w0'
  rw [hhv] at hvt
  have g9 := q_mp_t wk x0 x1 hv9
  have g8 := q_mp_t wk x0 x1 1000
  generalize hG : q_mp p kn ma hv9 = G at *
  generalize hsp : p (54 + 14 * kn) = sp at *
  have wk2 := wk.2.2
  rw [hsp] at wk2
  obtain ⟨hw9, hwe⟩ : ∃ w, w = ((G - M) * sp) / (1000 : Int32) := ⟨_, rfl⟩
  have eGM : (G - M).toInt = G.toInt - M.toInt := t_sub (by omega) (by omega)
  have tk := q_take_t (G := G.toInt) (M := M.toInt) (sp := sp.toInt) (A := A.toInt) (V := V.toInt) (hv := hv9.toInt) (mx := (q_mp p kn ma 1000).toInt) g9.1 g9.2.2.1 (fun q => congrArg Int32.toInt (g9.2.2.2 q)) x2 x3 g8.2.1 wk2.1 wk2.2 w2 w2' w0 w0' hvt (w := ((G.toInt - M.toInt) * sp.toInt).tdiv 1000) rfl (t := if A.toInt ≤ ((G.toInt - M.toInt) * sp.toInt).tdiv 1000 then A.toInt else ((G.toInt - M.toInt) * sp.toInt).tdiv 1000) rfl
  have eW : hw9.toInt = ((G.toInt - M.toInt) * sp.toInt).tdiv 1000 := by
    rw [hwe, t_div (by rw [k1000]; decide), t_mul (by rw [eGM]; omega) (by rw [eGM]; omega), eGM, k1000]
  rw [← eW] at tk
  obtain ⟨tt, htt⟩ : ∃ t : Int32, t = if A ≤ hw9 then A else hw9 := ⟨_, rfl⟩
  have ett : tt.toInt = if A.toInt ≤ hw9.toInt then A.toInt else hw9.toInt := by
    rw [htt]
    by_cases q : A ≤ hw9
    · rw [if_pos q, if_pos (t_le.mp q)]
    · rw [if_neg q, if_neg (fun h => q (t_le.mpr h))]
  rw [← ett] at tk
  obtain ⟨_, _, tM0, tM1, tA0, tA1, tb0, tb1⟩ := tk
  have eM : (M + tt).toInt = M.toInt + tt.toInt := t_add (by omega) (by omega)
  have eA : (A - tt).toInt = A.toInt - tt.toInt := t_sub (by omega) (by omega)
  refine ⟨m_pI (m_pI S (v + 2 + j) 3 (M + tt)) v 4 (A - tt), m_pI (m_pI T (m + 3) (12 + 56 * c + 4 * j + 3) (M + tt)) (m + 3) (4 + 56 * c + 3) (A - tt), ?_, ?_, ?_⟩
  · have fS : ∀ b k, ¬ (b = v ∧ k = 4) → ¬ (b = v + 2 + j ∧ k = 3) → (m_pI (m_pI S (v + 2 + j) 3 (M + tt)) v 4 (A - tt)).1 b k = S.1 b k := fun b k h1 h2 => (pI_ne h1).trans (pI_ne h2)
    have fA2 : (m_pI (m_pI S (v + 2 + j) 3 (M + tt)) v 4 (A - tt)).1 v 4 = A - tt := pI_same _ _ _ _
    have fM2 : (m_pI (m_pI S (v + 2 + j) 3 (M + tt)) v 4 (A - tt)).1 (v + 2 + j) 3 = M + tt := (pI_ne (by omega)).trans (pI_same _ _ _ _)
    have fT : ∀ b k, ¬ (b = m + 3 ∧ k = 7 + 56 * c) → ¬ (b = m + 3 ∧ k = 15 + 56 * c + 4 * j) → (m_pI (m_pI T (m + 3) (12 + 56 * c + 4 * j + 3) (M + tt)) (m + 3) (4 + 56 * c + 3) (A - tt)).1 b k = T.1 b k := fun b k h1 h2 => (pI_ne (by omega)).trans (pI_ne (by omega))
    have gA2 : (m_pI (m_pI T (m + 3) (12 + 56 * c + 4 * j + 3) (M + tt)) (m + 3) (4 + 56 * c + 3) (A - tt)).1 (m + 3) (7 + 56 * c) = A - tt := by rw [show 7 + 56 * c = 4 + 56 * c + 3 by omega]; exact pI_same _ _ _ _
    have gM2 : (m_pI (m_pI T (m + 3) (12 + 56 * c + 4 * j + 3) (M + tt)) (m + 3) (4 + 56 * c + 3) (A - tt)).1 (m + 3) (15 + 56 * c + 4 * j) = M + tt := by rw [show 15 + 56 * c + 4 * j = 12 + 56 * c + 4 * j + 3 by omega]; exact (pI_ne (by omega)).trans (pI_same _ _ _ _)
    have eR2 : (m_pI (m_pI S (v + 2 + j) 3 (M + tt)) v 4 (A - tt)).2 = S.2 := rfl
    have eJ2 : (m_pI (m_pI T (m + 3) (12 + 56 * c + 4 * j + 3) (M + tt)) (m + 3) (4 + 56 * c + 3) (A - tt)).2 = T.2 := rfl
    generalize hS2 : m_pI (m_pI S (v + 2 + j) 3 (M + tt)) v 4 (A - tt) = S2 at *
    generalize hT2 : m_pI (m_pI T (m + 3) (12 + 56 * c + 4 * j + 3) (M + tt)) (m + 3) (4 + 56 * c + 3) (A - tt) = T2 at *
    have ga : ∀ k, k ≠ 7 + 56 * c → k ≠ 15 + 56 * c + 4 * j → T2.1 (m + 3) k = a k := fun k h1 h2 => by rw [← ha]; exact fT _ _ (fun q => h1 q.2) (fun q => h2 q.2)
    have gk9 : ∀ k, q_kn (T2.1 (m + 3)) (12 + 56 * c + 4 * k) = q_kn a (12 + 56 * c + 4 * k) := fun k => by unfold q_kn; rw [ga _ (by omega) (by omega)]
    have frS : q_frV v S S2 := ⟨fun b k h1 h2 => fS b k h1 (fun q => h2 (by omega)), eR2⟩
    unfold q_in
    rw [hp]
    refine ⟨⟨?_, ?_, ?_, ?_, ?_, ?_, ?_, fun k hk => ⟨?_, ⟨?_, ?_, ?_⟩, ?_, ?_⟩⟩, ⟨?_, ?_, ?_, n6, fun k hk => ⟨?_, ?_, ?_⟩⟩, q_Ks_fr hK frS hap, ⟨fun b k h1 h2 => (frS.1 b k h1 h2).trans (fV.1 b k h1 h2), eR2.trans fV.2⟩, ⟨fun b k h => (fT b k (fun q => h ⟨q.1, Or.inl q.2⟩) (fun q => h ⟨q.1, Or.inr ⟨j, by omega, q.2⟩⟩)).trans (fA.1 b k h), by rw [eJ2]; exact fA.2⟩, by rw [eJ2]; exact hJ⟩
    · rw [fS _ _ (by omega) (by omega), hVo]; exact v0
    · rw [fS _ _ (by omega) (by omega), ga _ (by omega) (by omega)]; exact v1
    · rw [fS _ _ (by omega) (by omega), ga _ (by omega) (by omega)]; exact v2
    · rw [fS _ _ (by omega) (by omega), ga _ (by omega) (by omega)]; exact v3
    · rw [fA2, gA2]
    · rw [fS _ _ (by omega) (by omega)]; exact v5
    · rw [ga _ (by omega) (by omega)]; exact v6
    · rw [fS _ _ (by omega) (by omega), ga _ (by omega) (by omega)]; exact (v7 k hk).1
    · rw [gk9]; exact (v7 k hk).2.1.1
    · rw [gk9, ga _ (by omega) (by omega)]; exact (v7 k hk).2.1.2.1
    · rw [gk9, eR2]; exact (v7 k hk).2.1.2.2
    · rw [fS _ _ (by omega) (by omega), ga _ (by omega) (by omega)]; exact (v7 k hk).2.2.1
    · by_cases q : k = j
      · subst q
        rw [fM2, show 12 + 56 * c + 4 * k + 3 = 15 + 56 * c + 4 * k by omega, gM2]
      · rw [fS _ _ (by omega) (by omega), ga _ (by omega) (by omega)]; exact (v7 k hk).2.2.2
    · rw [hVo]; exact ⟨w0, w0'⟩
    · rw [ga _ (by omega) (by omega)]; exact ⟨w1, w1'⟩
    · rw [gA2, eA]; exact ⟨tA0, tA1⟩
    · rw [ga _ (by omega) (by omega)]; exact (w3 k hk).1
    · by_cases q : k = j
      · subst q; rw [gM2, eM]; exact tM0
      · rw [ga _ (by omega) (by omega)]; exact (w3 k hk).2.1
    · by_cases q : k = j
      · subst q; rw [gM2, eM, gk9, hkn, ga _ (by omega) (by omega), hma]; exact tM1
      · rw [gk9, ga _ (by omega) (by omega), ga _ (by omega) (by omega)]; exact (w3 k hk).2.2
  · intro jc lc
    unfold F_X7_passHour_45
    have h1 : ¬ Int32.ofNat n ≤ Int32.ofNat j := fun h => absurd ((io_le (by omega) (by omega)).mp h) (by omega)
    have h2 : ¬ Int32.ofNat 6 ≤ Int32.ofNat j := fun h => absurd ((io_le (by omega) (by omega)).mp h) (by omega)
    have h3 := hVS.2.2 j (by omega)
    simp only []
    rw [v5, if_neg h1, hVS.2.1.1, m_b1_s, m_gd_t hVS.2.1.2.1]
    rw [hVS.2.1.2.2, if_neg h2, m_gd_t (io_in (by omega) (by omega)), io_tn (by omega), h3.1, m_b1_s, g_hum hVS.1 (by rw [v0]; exact w0), m_b1_s, m_gd_t h3.2, g_wish h3.2 ck2 gk rk wk, m_b1_s, m_jp_s]
    rw [v4, v0, hhv, cm', cq', hG, hsp, ← hwe]
    have e9 : (m_pI S (v + 2 + j) 3 (M + tt)).1 v 4 = A := (pI_ne (by omega)).trans v4
    by_cases q : A ≤ hw9
    · have ht : tt = A := by rw [htt, if_pos q]
      rw [if_pos q]
      rw [ht] at e9 ⊢
      simp only [m_lt_s]
      rw [e9, io_one]
    · have ht : tt = hw9 := by rw [htt, if_neg q]
      rw [if_neg q]
      rw [ht] at e9 ⊢
      simp only [m_lt_s]
      rw [e9, io_one]
  · intro jm lm
    have h1 : ¬ Int32.ofNat n ≤ Int32.ofNat j := fun h => absurd ((io_le (by omega) (by omega)).mp h) (by omega)
    have i4 : 4 + 56 * c + 4 = 8 + 56 * c := by omega
    have i3 : 4 + 56 * c + 3 = 7 + 56 * c := by omega
    have j1 : 12 + 56 * c + 4 * j + 1 = 13 + 56 * c + 4 * j := by omega
    have j2 : 12 + 56 * c + 4 * j + 2 = 14 + 56 * c + 4 * j := by omega
    have j3 : 12 + 56 * c + 4 * j + 3 = 15 + 56 * c + 4 * j := by omega
    have ek : (54 : Int32) + (14 : Int32) * Int32.ofNat kn = Int32.ofNat (54 + 14 * kn) := by
      show Int32.ofNat 54 + Int32.ofNat 14 * Int32.ofNat kn = _
      rw [io_mul, io_add]
    have q1 : f_X9_its Z T m (Int32.ofNat c) (Int32.ofNat j) 1 = some (Int32.ofNat kn) := by rw [e_its (wi := 1) hMT (w := 1) rfl hc (by omega) (by omega), ha, ck1]
    have q2 : f_X9_its Z T m (Int32.ofNat c) (Int32.ofNat j) 2 = some ma := by rw [e_its (wi := 2) hMT (w := 2) rfl hc (by omega) (by omega), ha, j2, hma]
    have q3 : f_X9_its Z T m (Int32.ofNat c) (Int32.ofNat j) 3 = some M := by rw [e_its (wi := 3) hMT (w := 3) rfl hc (by omega) (by omega), ha, j3, hMo]
    have q4 : f_X9_of Z T m (Int32.ofNat c) 4 = some (Int32.ofNat n) := by rw [e_of (wi := 4) hMT (w := 4) rfl hc (by omega), ha, i4, v6]
    have q5 : f_X9_of Z T m (Int32.ofNat c) 3 = some A := by rw [e_of (wi := 3) hMT (w := 3) rfl hc (by omega), ha, i3, hA]
    have q6 : f_X9_humidityOf Z T m (Int32.ofNat c) = some hv9 := by
      rw [e_hum hMT hc (by rw [pTe, hVo]; exact w0) (by rw [pTe, hVo]; exact w0') (by rw [ha, hA]; exact w2) (by rw [ha, hA]; exact w2'), ha, hA, pTe, hVo, hhv]
    have q7 : f_X9_wouldHave Z T m (Int32.ofNat kn) ma hv9 = some G := by rw [e_would hMT kn4 (by rw [pTe]; exact wk), pTe, hG]
    generalize hT1 : m_pI T (m + 3) (12 + 56 * c + 4 * j + 3) (M + tt) = T1
    have q8 : f_X9_cassettes Z T m (Int32.ofNat c) (Int32.ofNat j) 3 (M + tt) = some ((), T1) := by rw [e_cassettes (wi := 3) hMT (w := 3) rfl hc (by omega) (by omega), hT1]
    have hMT1 : q_M Z T1.2.2 m := by rw [← hT1]; exact hMT
    have q9 : f_X9_of Z T1 m (Int32.ofNat c) 3 = some A := by
      rw [e_of (wi := 3) hMT1 (w := 3) rfl hc (by omega), i3, ← hT1, pI_ne (by omega), ha, hA]
    have q10 : f_X9_lays Z T1 m (Int32.ofNat c) 3 (A - tt) = some ((), m_pI T1 (m + 3) (4 + 56 * c + 3) (A - tt)) := e_lays (wi := 3) hMT1 (w := 3) rfl hc (by omega) _
    unfold F_X9_airs_63
    simp only []
    rw [q4, m_b1_s, if_neg h1, q1, m_b1_s, q2, m_b1_s, q6, m_b1_s, q7, m_b1_s, q3, m_b1_s, hMT.p.1, m_b1_s, m_b1_s, m_gd_t hMT.p.2.1, m_lt_s, ek, m_gd_t (q_inn hMT.p.2 (by omega) (by omega)), m_lt_s, io_tn (by omega), pTe, hsp, ← hwe, q5, m_b1_s, m_jp_s]
    have key : ∀ (f : Int32 → Option (Unit × m_S)), (if hw9 ≤ A then f hw9 else m_b1 (some A) (fun v67 => f v67)) = f tt := fun f => by
      rw [htt]
      by_cases q : A ≤ hw9
      · rw [if_pos q]
        by_cases q2 : hw9 ≤ A
        · rw [if_pos q2]
          have : hw9 = A := t_eq.mpr (by rw [t_le] at q q2; omega)
          rw [this]
        · rw [if_neg q2, m_b1_s]
      · rw [if_neg q, if_pos (Int32.le_of_lt (Int32.not_le.mp q))]
    refine (key _).trans ?_
    simp only [m_b1_s]
    rw [q8, m_bw_s, q9, m_b1_s, q10, m_bw_s, m_lt_s, io_one]
