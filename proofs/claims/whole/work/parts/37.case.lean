/-! a case's whole hour: its vitrine at v, its logbook at v + 8 -/
def q_fS (lo hi : Nat) (S S' : m_S) : Prop := (∀ b k, ¬ (lo ≤ b ∧ b < hi) → S'.1 b k = S.1 b k ∧ S'.2.1 b k = S.2.1 b k) ∧ S'.2.2 = S.2.2
def q_fT (m c : Nat) (T T' : m_S) : Prop := (∀ b k, ¬ (b = m + 3 ∧ 4 + 56 * c ≤ k ∧ k < 60 + 56 * c) → T'.1 b k = T.1 b k) ∧ (∀ b k, ¬ (b = m + 7 ∧ 5 * c ≤ k ∧ k < 5 * c + 5) → T'.2.1 b k = T.2.1 b k) ∧ T'.2.2 = T.2.2
theorem j_case {Z : m_Z} {kb nk n c m v t : Nat} {Sc Sm : m_S} {room : Int32} (hM : q_M Z Sm.2.2 m) (hV : q_V Z Sc.2.2 v) (hG : q_G Z Sc.2.2 (v + 8)) (hc : c < 6) (hap : ∀ b, kb ≤ b → b < kb + 12 → b < v ∨ v + 10 ≤ b) (hv : q_vit kb nk n Sc v (Sm.1 (m + 1)) (Sm.1 (m + 3)) c) (hw : q_wv (Sm.1 (m + 1)) (Sm.1 (m + 3)) n c) (hK : q_Ks Z kb nk Sc (Sm.1 (m + 1))) (hl : q_log Sc (v + 8) (Sm.1 (m + 3)) (Sm.2.1 (m + 7)) c t) (ht : Sm.1 (m + 3) 0 = Int32.ofNat t) (t9 : t < 2147483648) (r0 : 0 ≤ room.toInt) (r1 : room.toInt ≤ 1000) : ∃ fl u hv S1 S2 T1 T2, f_X7_passHour Z Sc v room = some (fl, S1) ∧ f_X9_airs Z Sm m (Int32.ofNat c) room = some ((), T1) ∧ f_X7_isUnsafe Z (m_pJ S1 (v + 8) 1 (Sc.2.1 (v + 8) 1 + fl.toInt64)) v = some u ∧ f_X7_humidity Z (m_pJ S1 (v + 8) 1 (Sc.2.1 (v + 8) 1 + fl.toInt64)) v = some hv ∧ f_X2_note Z (m_pJ S1 (v + 8) 1 (Sc.2.1 (v + 8) 1 + fl.toInt64)) (v + 8) (Int32.ofNat t) hv u = some ((), S2) ∧ S1.2 = Sc.2 ∧ f_X9_records Z T1 m (Int32.ofNat c) = some (u, T2) ∧ (u = 0 ∨ u = 1) ∧ q_vit kb nk n S2 v (Sm.1 (m + 1)) (T2.1 (m + 3)) c ∧ q_wv (Sm.1 (m + 1)) (T2.1 (m + 3)) n c ∧ q_log S2 (v + 8) (T2.1 (m + 3)) (T2.2.1 (m + 7)) c (t + 1) ∧ q_fS v (v + 10) Sc S2 ∧ q_fT m c Sm T2 ∧ ∀ k, k < 6 → T2.1 (m + 3) (12 + 56 * c + 4 * k) = Sm.1 (m + 3) (12 + 56 * c + 4 * k) := by
  obtain ⟨fl, S1, T1, h1, h2, h3, h4, fV, fA, hJ⟩ := j_airs hM hV hc (fun b b1 b2 => by have := hap b b1 b2; omega) hv hw hK r0 r1
  have hMT : q_M Z T1.2.2 m := by rw [fA.2]; exact hM
  have pT : T1.1 (m + 1) = Sm.1 (m + 1) := funext fun k => fA.1 _ _ (fun q => by omega)
  have aT : ∀ k, k ≠ 7 + 56 * c → (∀ j, j < 6 → k ≠ 15 + 56 * c + 4 * j) → T1.1 (m + 3) k = Sm.1 (m + 3) k := fun k q1 q2 => fA.1 _ _ (fun q => q.2.elim q1 (fun ⟨j, hj, e⟩ => q2 j hj e))
  obtain ⟨v0, v1, v2, v3, v4, v5, v6, v7⟩ := id h3
  obtain ⟨⟨w0, w0'⟩, ⟨w1, w1'⟩, ⟨w2, w2'⟩, n6, w3⟩ := id h4
  obtain ⟨S37, hS37⟩ : ∃ q, q = m_pJ S1 (v + 8) 1 (Sc.2.1 (v + 8) 1 + fl.toInt64) := ⟨_, rfl⟩
  have e37 : S37.1 = S1.1 := by rw [hS37]; rfl
  have r37 : S37.2.2 = Sc.2.2 := by rw [hS37]; show S1.2.2 = _; rw [fV.2]
  obtain ⟨hm, ehm⟩ : ∃ q, q = ((1000 : Int32) * T1.1 (m + 3) (7 + 56 * c)) / Sm.1 (m + 1) (110 + c) := ⟨_, rfl⟩
  have hm0 : 0 ≤ hm.toInt := by rw [ehm, q_hum_t w2 w2' w0 w0']; exact Int.ediv_nonneg (by omega) (by omega)
  have gh : f_X7_humidity Z S37 v = some hm := by
    rw [g_hum hV.1 (by rw [e37, v0]; exact w0), e37, v0, v4, ← ehm]
  have gu : f_X7_isUnsafe Z S37 v = some (q_uns hm (T1.1 (m + 3) (5 + 56 * c)) (T1.1 (m + 3) (6 + 56 * c))) := by
    rw [g_unsafe hV.1 (by rw [e37, v0]; exact w0), e37, v0, v4, ← ehm, v2, v3]; rfl
  have mh : f_X9_humidityOf Z T1 m (Int32.ofNat c) = some hm := by
    rw [e_hum hMT hc (by rw [pT]; exact w0) (by rw [pT]; exact w0') w2 w2', pT, ← ehm]
  have gn := g_note (Z := Z) (S := S37) (l := v + 8) (t := t) (hv := hm) (u := q_uns hm (T1.1 (m + 3) (5 + 56 * c)) (T1.1 (m + 3) (6 + 56 * c))) (by rw [r37]; exact hG) t9
  have er := e_records (Z := Z) (S := T1) (m := m) (c := c) (t := t) (hv := hm) hMT hc (by rw [aT 0 (by omega) (fun j hj => by omega)]; exact ht) t9 mh hm0
  have l4 : S37.1 (v + 8) 4 = T1.1 (m + 3) (9 + 56 * c) := by rw [e37, fV.1 _ _ (by omega) (by omega), aT _ (by omega) (fun j hj => by omega)]; exact hl.2.1
  have l5 : S37.1 (v + 8) 5 = T1.1 (m + 3) (10 + 56 * c) := by rw [e37, fV.1 _ _ (by omega) (by omega), aT _ (by omega) (fun j hj => by omega)]; exact hl.2.2.1
  have l6 : S37.1 (v + 8) 6 = T1.1 (m + 3) (11 + 56 * c) := by rw [e37, fV.1 _ _ (by omega) (by omega), aT _ (by omega) (fun j hj => by omega)]; exact hl.2.2.2.1
  have lr : ∀ j, j < 24 → j < t → S37.1 (v + 9) j = T1.1 (m + 3) (36 + 56 * c + j) := fun j q1 q2 => by rw [e37, fV.1 _ _ (by omega) (by omega), aT _ (by omega) (fun i hi => by omega)]; exact hl.2.2.2.2 j q1 q2
  rw [l4, l5, l6] at gn
  have bT : ∀ k, k ≠ 5 * c + 2 → T1.2.1 (m + 7) k = Sm.2.1 (m + 7) k := fun k q => by rw [hJ]; exact pJ_ne (fun h => q h.2)
  have bT2 : T1.2.1 (m + 7) (5 * c + 2) = Sm.2.1 (m + 7) (5 * c + 2) + fl.toInt64 := by rw [hJ]; exact pJ_same _ _ _ _
  have sJ : ∀ b k, ¬ (b = v + 8 ∧ k = 1) → S37.2.1 b k = Sc.2.1 b k := fun b k q => by rw [hS37]; exact (pJ_ne q).trans (by rw [fV.2])
  have sJ1 : S37.2.1 (v + 8) 1 = Sc.2.1 (v + 8) 1 + fl.toInt64 := by rw [hS37]; exact pJ_same _ _ _ _
  have u01 : q_uns hm (T1.1 (m + 3) (5 + 56 * c)) (T1.1 (m + 3) (6 + 56 * c)) = 0 ∨ q_uns hm (T1.1 (m + 3) (5 + 56 * c)) (T1.1 (m + 3) (6 + 56 * c)) = 1 := by
    unfold q_uns
    split
    · exact Or.inr rfl
    · split
      · exact Or.inl rfl
      · exact Or.inr rfl
  generalize q_uns hm (T1.1 (m + 3) (5 + 56 * c)) (T1.1 (m + 3) (6 + 56 * c)) = u at *
  generalize T1.1 (m + 3) (9 + 56 * c) + (if u = 0 then 0 else 1) = x4 at *
  generalize q_low (T1.1 (m + 3) (10 + 56 * c)) hm = x5 at *
  generalize q_high (T1.1 (m + 3) (11 + 56 * c)) hm = x6 at *
  have s7 : S37.2.1 (v + 8) 7 = T1.2.1 (m + 7) (5 * c) := by rw [sJ _ _ (by omega), bT _ (by omega)]; exact hl.1.2.2.2.2
  rw [s7] at gn
  obtain ⟨S2, hS2⟩ : ∃ q, q = m_pI (m_pI (m_pI (m_pJ (m_pI S37 (v + 8 + 1) (t % 24) hm) (v + 8) 7 (T1.2.1 (m + 7) (5 * c) + hm.toInt64)) (v + 8) 5 x5) (v + 8) 6 x6) (v + 8) 4 x4 := ⟨_, rfl⟩
  obtain ⟨T2, hT2⟩ : ∃ q, q = m_pI (m_pI (m_pI (m_pJ (m_pI T1 (m + 3) (36 + 56 * c + t % 24) hm) (m + 7) (5 * c) (T1.2.1 (m + 7) (5 * c) + hm.toInt64)) (m + 3) (10 + 56 * c) x5) (m + 3) (11 + 56 * c) x6) (m + 3) (9 + 56 * c) x4 := ⟨_, rfl⟩
  rw [← hS2] at gn
  rw [← hT2] at er
  have SI : ∀ b k, S2.1 b k = if b = v + 8 ∧ k = 4 then x4 else if b = v + 8 ∧ k = 6 then x6 else if b = v + 8 ∧ k = 5 then x5 else if b = v + 8 + 1 ∧ k = t % 24 then hm else S37.1 b k := fun b k => by rw [hS2]; rfl
  have SJ : ∀ b k, S2.2.1 b k = if b = v + 8 ∧ k = 7 then T1.2.1 (m + 7) (5 * c) + hm.toInt64 else S37.2.1 b k := fun b k => by rw [hS2]; rfl
  have SR : S2.2.2 = Sc.2.2 := by rw [hS2]; exact r37
  have TI : ∀ b k, T2.1 b k = if b = m + 3 ∧ k = 9 + 56 * c then x4 else if b = m + 3 ∧ k = 11 + 56 * c then x6 else if b = m + 3 ∧ k = 10 + 56 * c then x5 else if b = m + 3 ∧ k = 36 + 56 * c + t % 24 then hm else T1.1 b k := fun b k => by rw [hT2]; rfl
  have TJ : ∀ b k, T2.2.1 b k = if b = m + 7 ∧ k = 5 * c then T1.2.1 (m + 7) (5 * c) + hm.toInt64 else T1.2.1 b k := fun b k => by rw [hT2]; rfl
  have TR : T2.2.2 = Sm.2.2 := by rw [hT2]; exact fA.2
  clear hS2 hT2
  have SI0 : ∀ b k, b < v + 8 → S2.1 b k = S1.1 b k := fun b k q => by rw [SI, if_neg (by omega), if_neg (by omega), if_neg (by omega), if_neg (by omega), e37]
  have TI0 : ∀ k, k < 9 + 56 * c ∨ (11 + 56 * c < k ∧ k < 36 + 56 * c) → T2.1 (m + 3) k = T1.1 (m + 3) k := fun k q => by rw [TI, if_neg (by omega), if_neg (by omega), if_neg (by omega), if_neg (by omega)]
  have kn0 : ∀ k, k < n → q_kn (T2.1 (m + 3)) (12 + 56 * c + 4 * k) = q_kn (T1.1 (m + 3)) (12 + 56 * c + 4 * k) := fun k hk => by unfold q_kn; rw [TI0 _ (by omega)]
  refine ⟨fl, u, hm, S1, S2, T1, T2, h1, h2, by rw [← hS37]; exact gu, by rw [← hS37]; exact gh, by rw [← hS37]; exact gn, fV.2, er, u01, ⟨?_, ?_, ?_, ?_, ?_, ?_, ?_, fun k hk => ⟨?_, ⟨?_, ?_, ?_⟩, ?_, ?_⟩⟩, ⟨⟨w0, w0'⟩, ?_, ?_, n6, fun k hk => ⟨?_, ?_, ?_⟩⟩, ⟨⟨?_, ?_, ?_, ?_, ?_⟩, ?_, ?_, ?_, fun j j1 j2 => ?_⟩, ⟨fun b k q => ⟨?_, ?_⟩, SR⟩, ⟨fun b k q => ?_, fun b k q => ?_, TR⟩, fun k hk => by rw [TI0 _ (by omega)]; exact aT _ (by omega) (fun j hj => by omega)⟩
  · rw [SI0 _ _ (by omega)]; exact v0
  · rw [SI0 _ _ (by omega), TI0 _ (by omega)]; exact v1
  · rw [SI0 _ _ (by omega), TI0 _ (by omega)]; exact v2
  · rw [SI0 _ _ (by omega), TI0 _ (by omega)]; exact v3
  · rw [SI0 _ _ (by omega), TI0 _ (by omega)]; exact v4
  · rw [SI0 _ _ (by omega)]; exact v5
  · rw [TI0 _ (by omega)]; exact v6
  · rw [SI0 _ _ (by omega), TI0 _ (by omega)]; exact (v7 k hk).1
  · rw [kn0 k hk]; exact (v7 k hk).2.1.1
  · rw [kn0 k hk, TI0 _ (by omega)]; exact (v7 k hk).2.1.2.1
  · rw [kn0 k hk, SR]; have := (v7 k hk).2.1.2.2; rw [fV.2] at this; exact this
  · rw [SI0 _ _ (by omega), TI0 _ (by omega)]; exact (v7 k hk).2.2.1
  · rw [SI0 _ _ (by omega), TI0 _ (by omega)]; exact (v7 k hk).2.2.2
  · rw [TI0 _ (by omega)]; exact ⟨w1, w1'⟩
  · rw [TI0 _ (by omega)]; exact ⟨w2, w2'⟩
  · rw [TI0 _ (by omega)]; exact (w3 k hk).1
  · rw [TI0 _ (by omega)]; exact (w3 k hk).2.1
  · rw [kn0 k hk, TI0 _ (by omega), TI0 _ (by omega)]; exact (w3 k hk).2.2
  · rw [SJ, if_neg (by omega), sJ _ _ (by omega), TJ, if_neg (by omega), bT _ (by omega)]; exact hl.1.1
  · rw [SJ, if_neg (by omega), sJ1, TJ, if_neg (by omega), bT2, hl.1.2.1]
  · rw [SJ, if_neg (by omega), sJ _ _ (by omega), TJ, if_neg (by omega), bT _ (by omega)]; exact hl.1.2.2.1
  · rw [SJ, if_neg (by omega), sJ _ _ (by omega), TJ, if_neg (by omega), bT _ (by omega)]; exact hl.1.2.2.2.1
  · rw [SJ, if_pos ⟨rfl, rfl⟩, TJ, if_pos ⟨rfl, rfl⟩]
  · rw [SI, if_pos ⟨rfl, rfl⟩, TI, if_pos ⟨rfl, rfl⟩]
  · rw [SI, if_neg (by omega), if_neg (by omega), if_pos ⟨rfl, rfl⟩, TI, if_neg (by omega), if_neg (by omega), if_pos ⟨rfl, rfl⟩]
  · rw [SI, if_neg (by omega), if_pos ⟨rfl, rfl⟩, TI, if_neg (by omega), if_pos ⟨rfl, rfl⟩]
  · by_cases q : j = t % 24
    · rw [SI, if_neg (by omega), if_neg (by omega), if_neg (by omega), if_pos ⟨rfl, q⟩, TI, if_neg (by omega), if_neg (by omega), if_neg (by omega), if_pos (by omega)]
    · rw [SI, if_neg (by omega), if_neg (by omega), if_neg (by omega), if_neg (by omega), TI, if_neg (by omega), if_neg (by omega), if_neg (by omega), if_neg (by omega)]
      exact lr j j1 (by omega)
  · rw [SI, if_neg (by omega), if_neg (by omega), if_neg (by omega), if_neg (by omega), e37]; exact fV.1 _ _ (by omega) (by omega)
  · rw [SJ, if_neg (by omega)]; exact sJ _ _ (by omega)
  · rw [TI, if_neg (by omega), if_neg (by omega), if_neg (by omega), if_neg (by omega)]
    exact fA.1 _ _ (fun z => by
      obtain ⟨z1, z2⟩ := z
      rcases z2 with z2 | ⟨j, z2, z3⟩
      · omega
      · omega)
  · rw [TJ, if_neg (by omega), hJ]
    exact pJ_ne (by omega)
