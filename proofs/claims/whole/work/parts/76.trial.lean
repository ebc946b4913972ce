/-! an hour of one case alone -/
theorem q_vit_a {kb nk n v c : Nat} {S : m_S} {p a a' : Nat → Int32} (h : q_vit kb nk n S v p a c) (n6 : n ≤ 6) (ha : ∀ k, 4 + 56 * c ≤ k → k < 9 + 56 * c ∨ 12 + 56 * c ≤ k → k < 36 + 56 * c → a' k = a k) : q_vit kb nk n S v p a' c := by
  obtain ⟨v0, v1, v2, v3, v4, v5, v6, v7⟩ := h
  have kn0 : ∀ k, k < n → q_kn a' (12 + 56 * c + 4 * k) = q_kn a (12 + 56 * c + 4 * k) := fun k hk => by unfold q_kn; rw [ha _ (by omega) (by omega) (by omega)]
  refine ⟨v0, ?_, ?_, ?_, ?_, v5, ?_, fun k hk => ⟨?_, ⟨?_, ?_, ?_⟩, ?_, ?_⟩⟩
  · rw [ha _ (by omega) (by omega) (by omega)]; exact v1
  · rw [ha _ (by omega) (by omega) (by omega)]; exact v2
  · rw [ha _ (by omega) (by omega) (by omega)]; exact v3
  · rw [ha _ (by omega) (by omega) (by omega)]; exact v4
  · rw [ha _ (by omega) (by omega) (by omega)]; exact v6
  · rw [ha _ (by omega) (by omega) (by omega)]; exact (v7 k hk).1
  · rw [kn0 k hk]; exact (v7 k hk).2.1.1
  · rw [kn0 k hk, ha _ (by omega) (by omega) (by omega)]; exact (v7 k hk).2.1.2.1
  · rw [kn0 k hk]; exact (v7 k hk).2.1.2.2
  · rw [ha _ (by omega) (by omega) (by omega)]; exact (v7 k hk).2.2.1
  · rw [ha _ (by omega) (by omega) (by omega)]; exact (v7 k hk).2.2.2
theorem q_wv_a {n c : Nat} {p a a' : Nat → Int32} (h : q_wv p a n c) (ha : ∀ k, 4 + 56 * c ≤ k → k < 9 + 56 * c ∨ 12 + 56 * c ≤ k → k < 36 + 56 * c → a' k = a k) : q_wv p a' n c := by
  obtain ⟨w0, w1, w2, n6, w3⟩ := h
  have kn0 : ∀ k, k < n → q_kn a' (12 + 56 * c + 4 * k) = q_kn a (12 + 56 * c + 4 * k) := fun k hk => by unfold q_kn; rw [ha _ (by omega) (by omega) (by omega)]
  refine ⟨w0, ?_, ?_, n6, fun k hk => ⟨?_, ?_, ?_⟩⟩
  · rw [ha _ (by omega) (by omega) (by omega)]; exact w1
  · rw [ha _ (by omega) (by omega) (by omega)]; exact w2
  · rw [ha _ (by omega) (by omega) (by omega)]; exact (w3 k hk).1
  · rw [ha _ (by omega) (by omega) (by omega)]; exact (w3 k hk).2.1
  · rw [kn0 k hk, ha _ (by omega) (by omega) (by omega), ha _ (by omega) (by omega) (by omega)]; exact (w3 k hk).2.2
theorem j_trial1 {Z : m_Z} {kb nk n c m v t ns : Nat} {S T : m_S} {room : Int32} (hM : q_M Z T.2.2 m) (hV : q_V Z S.2.2 v) (hc : c < 6) (hap : ∀ b, kb ≤ b → b < kb + 12 → b < v ∨ v + 8 ≤ b) (hv : q_vit kb nk n S v (T.1 (m + 1)) (T.1 (m + 3)) c) (hw : q_wv (T.1 (m + 1)) (T.1 (m + 3)) n c) (hK : q_Ks Z kb nk S (T.1 (m + 1))) (n2 : T.1 (m + 1) 2 = Int32.ofNat ns) (hws : q_ws (q_d (T.1 (m + 1))) (q_s (T.1 (m + 1))) ns) (ht : T.1 (m + 3) 0 = Int32.ofNat t) (t9 : t < 2000000) (hroom : room = q_rm (T.1 (m + 1)) ns (Int32.ofNat t) (q_ex (T.1 (m + 1)) t (T.1 (m + 3) 1) (T.1 (m + 3) 2))) : ∃ fl u S' T', f_X7_passHour Z S v room = some (fl, S') ∧ f_X7_isUnsafe Z S' v = some u ∧ f_X9_hour Z T m (Int32.ofNat c) (Int32.ofNat c) = some (u, T') ∧ (u = 0 ∨ u = 1) ∧ q_vit kb nk n S' v (T.1 (m + 1)) (T'.1 (m + 3)) c ∧ q_wv (T.1 (m + 1)) (T'.1 (m + 3)) n c ∧ q_frV v S S' ∧ T'.1 (m + 3) 0 = Int32.ofNat (t + 1) ∧ T'.1 (m + 3) 1 = q_ex (T.1 (m + 1)) t (T.1 (m + 3) 1) (T.1 (m + 3) 2) ∧ T'.1 (m + 3) 2 = 0 ∧ q_fH m T T' := by
  obtain ⟨j38, hj, g2⟩ := e_hourhead (fr := Int32.ofNat c) (to := Int32.ofNat c) hM n2 hws ht (by omega)
  have rt := q_rm_t (T.1 (m + 1)) ns (Int32.ofNat t) (q_ex (T.1 (m + 1)) t (T.1 (m + 3) 1) (T.1 (m + 3) 2))
  rw [← hroom] at g2 rt
  clear hroom
  generalize q_ex (T.1 (m + 1)) t (T.1 (m + 3) 1) (T.1 (m + 3) 2) = ex at *
  obtain ⟨T1, hT1⟩ : ∃ q, q = m_pI (m_pI (m_pI T (m + 3) 1 ex) (m + 3) 2 0) m 25 room := ⟨_, rfl⟩
  rw [← hT1] at g2
  have fT : ∀ b k, ¬ (b = m + 3 ∧ (k = 1 ∨ k = 2)) → ¬ (b = m ∧ k = 25) → T1.1 b k = T.1 b k := fun b k q1 q2 => by rw [hT1, pI_ne q2, pI_ne (by omega), pI_ne (by omega)]
  have rT : T1.2 = T.2 := by rw [hT1]; rfl
  have a1 : T1.1 (m + 3) 1 = ex := by rw [hT1, pI_ne (by omega), pI_ne (by omega), pI_same]
  have a2 : T1.1 (m + 3) 2 = 0 := by rw [hT1, pI_ne (by omega), pI_same]
  have a25 : T1.1 m 25 = room := by rw [hT1, pI_same]
  have pT : T1.1 (m + 1) = T.1 (m + 1) := funext fun k => fT _ _ (by omega) (by omega)
  have n6 := hw.2.2.2.1
  have hv1 : q_vit kb nk n S v (T1.1 (m + 1)) (T1.1 (m + 3)) c := by rw [pT]; exact q_vit_cp hv (fun _ _ => rfl) (fun _ _ => ⟨fun _ _ _ => rfl, rfl⟩) (fun k k1 k2 => fT _ _ (by omega) (by omega))
  have hw1 : q_wv (T1.1 (m + 1)) (T1.1 (m + 3)) n c := by rw [pT]; exact q_wv_fr hw (fun k k1 k2 => fT _ _ (by omega) (by omega))
  have hM1 : q_M Z T1.2.2 m := by rw [rT]; exact hM
  obtain ⟨fl, S2, T2, h1, h2, h3, h4, fV, fA, hJ⟩ := j_airs hM1 hV hc hap hv1 hw1 (by rw [pT]; exact hK) rt.1 rt.2
  rw [pT] at h3 h4
  have hM2 : q_M Z T2.2.2 m := by rw [fA.2]; exact hM1
  have pT2 : T2.1 (m + 1) = T.1 (m + 1) := by rw [← pT]; exact funext fun k => fA.1 _ _ (fun q => by omega)
  have aT : ∀ k, k ≠ 7 + 56 * c → (∀ j, j < 6 → k ≠ 15 + 56 * c + 4 * j) → T2.1 (m + 3) k = T1.1 (m + 3) k := fun k q1 q2 => fA.1 _ _ (fun q => q.2.elim q1 (fun ⟨j, hj, e⟩ => q2 j hj e))
  obtain ⟨hm, ehm⟩ : ∃ q, q = ((1000 : Int32) * T2.1 (m + 3) (7 + 56 * c)) / T.1 (m + 1) (110 + c) := ⟨_, rfl⟩
  obtain ⟨⟨w0, w0'⟩, ⟨w1, w1'⟩, ⟨w2, w2'⟩, -, w3⟩ := id h4
  have hm0 : 0 ≤ hm.toInt := by rw [ehm, q_hum_t w2 w2' w0 w0']; exact Int.ediv_nonneg (by omega) (by omega)
  have gu : f_X7_isUnsafe Z S2 v = some (q_uns hm (T2.1 (m + 3) (5 + 56 * c)) (T2.1 (m + 3) (6 + 56 * c))) := by
    rw [g_unsafe hV.1 (by rw [h3.1]; exact w0), h3.1, h3.2.2.2.2.1, ← ehm, h3.2.2.1, h3.2.2.2.1]; rfl
  have mh : f_X9_humidityOf Z T2 m (Int32.ofNat c) = some hm := by
    rw [e_hum hM2 hc (by rw [pT2]; exact w0) (by rw [pT2]; exact w0') w2 w2', pT2, ← ehm]
  have er := e_records (Z := Z) (S := T2) (m := m) (c := c) (t := t) (hv := hm) hM2 hc (by rw [aT 0 (by omega) (fun j hj => by omega), fT _ _ (by omega) (by omega)]; exact ht) (by omega) mh hm0
  have u01 : q_uns hm (T2.1 (m + 3) (5 + 56 * c)) (T2.1 (m + 3) (6 + 56 * c)) = 0 ∨ q_uns hm (T2.1 (m + 3) (5 + 56 * c)) (T2.1 (m + 3) (6 + 56 * c)) = 1 := by
    unfold q_uns
    split
    · exact Or.inr rfl
    · split
      · exact Or.inl rfl
      · exact Or.inr rfl
  generalize q_uns hm (T2.1 (m + 3) (5 + 56 * c)) (T2.1 (m + 3) (6 + 56 * c)) = u at *
  generalize T2.1 (m + 3) (9 + 56 * c) + (if u = 0 then 0 else 1) = x4 at *
  generalize q_low (T2.1 (m + 3) (10 + 56 * c)) hm = x5 at *
  generalize q_high (T2.1 (m + 3) (11 + 56 * c)) hm = x6 at *
  obtain ⟨T3, hT3⟩ : ∃ q, q = m_pI (m_pI (m_pI (m_pJ (m_pI T2 (m + 3) (36 + 56 * c + t % 24) hm) (m + 7) (5 * c) (T2.2.1 (m + 7) (5 * c) + hm.toInt64)) (m + 3) (10 + 56 * c) x5) (m + 3) (11 + 56 * c) x6) (m + 3) (9 + 56 * c) x4 := ⟨_, rfl⟩
  rw [← hT3] at er
  have TI : ∀ b k, T3.1 b k = if b = m + 3 ∧ k = 9 + 56 * c then x4 else if b = m + 3 ∧ k = 11 + 56 * c then x6 else if b = m + 3 ∧ k = 10 + 56 * c then x5 else if b = m + 3 ∧ k = 36 + 56 * c + t % 24 then hm else T2.1 b k := fun b k => by rw [hT3]; rfl
  have TR : T3.2.2 = T.2.2 := by rw [hT3]; show T2.2.2 = _; rw [fA.2, rT]
  have TI0 : ∀ k, k < 9 + 56 * c ∨ (11 + 56 * c < k ∧ k < 36 + 56 * c) → T3.1 (m + 3) k = T2.1 (m + 3) k := fun k q => by rw [TI, if_neg (by omega), if_neg (by omega), if_neg (by omega), if_neg (by omega)]
  have hM3 : q_M Z T3.2.2 m := by rw [TR]; exact hM
  have t0 : T3.1 (m + 3) 0 = Int32.ofNat t := by rw [TI0 _ (by omega), aT 0 (by omega) (fun j hj => by omega), fT _ _ (by omega) (by omega)]; exact ht
  have TJ : ∀ b k, b ≠ m + 7 → T3.2.1 b k = T.2.1 b k := fun b k hb => by
    rw [hT3]
    show (if b = m + 7 ∧ k = 5 * c then _ else T2.2.1 b k) = _
    rw [if_neg (fun q => hb q.1), hJ, pJ_ne (fun q => hb q.1), rT]
  have lt1 : ¬ Int32.ofNat c < Int32.ofNat c := fun q => by rw [t_lt] at q; omega
  have lt2 : Int32.ofNat c < Int32.ofNat (c + 1) := (io_lt (by omega) (by omega)).mpr (by omega)
  refine ⟨fl, u, S2, m_pI T3 (m + 3) 0 (Int32.ofNat (t + 1)), h1, gu, ?_, u01, ?_, ?_, fV, pI_same _ _ _ _, ?_, ?_, ⟨fun b k q1 q2 => ?_, fun b k q => TJ b k q, TR⟩⟩
  · rw [g2, m_fx_s]
    have nxt : ∀ w, m_fx (F_X9_hour_80 Z m (Int32.ofNat c) j38) 99999 (w, Int32.ofNat (c + 1), T3) = some (w, m_pI T3 (m + 3) 0 (Int32.ofNat (t + 1))) := by
      intro w
      rw [m_fx_s]
      unfold F_X9_hour_80
      simp only []
      rw [if_pos lt2, hj w T3 hM3, t0, io_one]
    generalize m_fx (F_X9_hour_80 Z m (Int32.ofNat c) j38) 99999 = lp at *
    unfold F_X9_hour_80
    simp only []
    rw [if_neg lt1, a25, h2, m_bw_s, er, m_bw_s]
    rcases u01 with q | q
    · subst q
      rw [if_pos rfl, m_lt_s, m_lt_s, io_one]; exact nxt 0
    · subst q
      rw [if_neg (by decide), m_lt_s, m_lt_s, io_one]; exact nxt 1
  · exact q_vit_a h3 n6 (fun k k1 k2 k3 => (pI_ne (by omega)).trans (TI0 k (by omega)))
  · exact q_wv_a h4 (fun k k1 k2 k3 => (pI_ne (by omega)).trans (TI0 k (by omega)))
  · rw [pI_ne (by omega), TI0 _ (by omega), aT 1 (by omega) (fun j hj => by omega), a1]
  · rw [pI_ne (by omega), TI0 _ (by omega), aT 2 (by omega) (fun j hj => by omega), a2]
  · rw [pI_ne (by omega), TI, if_neg (by omega), if_neg (by omega), if_neg (by omega), if_neg (by omega), fA.1 _ _ (fun q => q1 q.1), fT _ _ (by omega) q2]
