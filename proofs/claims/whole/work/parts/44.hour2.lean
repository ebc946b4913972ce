/-! all cases' hour -/
def q_St (Z : m_Z) (R : Nat → Nat → Option Nat) (sb : Nat) : Prop := m_ok Z sb 6 ∧ (R sb 0 = some (sb + 1) ∧ m_ok Z (sb + 1) 4) ∧ (R sb 3 = some (sb + 2) ∧ m_okn Z (sb + 2) 18 6) ∧ (R sb 4 = some (sb + 3) ∧ m_okn Z (sb + 3) 16 6) ∧ ∀ i, i < 6 → R (sb + 2) i = some (sb + 4 + 10 * i) ∧ R (sb + 3) i = some (sb + 4 + 10 * i + 8) ∧ q_V Z R (sb + 4 + 10 * i) ∧ q_G Z R (sb + 4 + 10 * i + 8)
theorem q_hours_loop {Z : m_Z} {kb nk nc m sb t : Nat} {cnt : Nat → Nat} {S0 Sc Sm : m_S} {room : Int32} (hM : q_M Z Sm.2.2 m) (hSt : q_St Z Sc.2.2 sb) (hnc : nc ≤ 6) (hcc : Sc.1 sb 2 = Int32.ofNat nc) (hap : ∀ b, kb ≤ b → b < kb + 12 → b < sb ∨ sb + 64 ≤ b) (hK : q_Ks Z kb nk Sc (Sm.1 (m + 1))) (ht : Sm.1 (m + 3) 0 = Int32.ofNat t) (t9 : t < 2147483648) (ht0 : S0.1 (sb + 1) 0 = Int32.ofNat t) (r0 : 0 ≤ room.toInt) (r1 : room.toInt ≤ 1000) (hroom : Sm.1 m 25 = room) : ∀ (d i fc fm : Nat), d + i = nc → d < fc → d < fm → ∀ (S T : m_S) (u : Int32), (∀ c, c < nc → q_cs kb nk (cnt c) S (sb + 4 + 10 * c) (Sm.1 (m + 1)) (T.1 (m + 3)) (T.2.1 (m + 7)) c (if c < i then t + 1 else t)) → q_fS (sb + 4) (sb + 64) Sc S → ((∀ b k, ¬ (b = m + 3 ∧ 4 ≤ k) → T.1 b k = Sm.1 b k) ∧ (∀ b k, b ≠ m + 7 → T.2.1 b k = Sm.2.1 b k) ∧ T.2.2 = Sm.2.2) → (∀ c k, c < 6 → k < 6 → T.1 (m + 3) (12 + 56 * c + 4 * k) = Sm.1 (m + 3) (12 + 56 * c + 4 * k)) →
    ∃ S' T' u', (∀ c, c < nc → q_cs kb nk (cnt c) S' (sb + 4 + 10 * c) (Sm.1 (m + 1)) (T'.1 (m + 3)) (T'.2.1 (m + 7)) c (t + 1)) ∧ q_fS (sb + 4) (sb + 64) Sc S' ∧ ((∀ b k, ¬ (b = m + 3 ∧ 4 ≤ k) → T'.1 b k = Sm.1 b k) ∧ (∀ b k, b ≠ m + 7 → T'.2.1 b k = Sm.2.1 b k) ∧ T'.2.2 = Sm.2.2) ∧ (∀ j10, m_fx (F_X6_passHour_23 Z S0 sb (sb + 1) room j10) fc (u, Int32.ofNat i, S) = j10 u' S') ∧ (∀ j38, m_fx (F_X9_hour_80 Z m (Int32.ofNat nc - 1) j38) fm (u, Int32.ofNat i, T) = j38 u' T') ∧ ∀ c k, c < 6 → k < 6 → T'.1 (m + 3) (12 + 56 * c + 4 * k) = Sm.1 (m + 3) (12 + 56 * c + 4 * k) := by
  intro d
  induction d with
  | zero =>
    intro i fc fm h1 h2 h3 S T u hcs hfS hfT hkT
    obtain ⟨f, rfl⟩ : ∃ f, fc = f + 1 := ⟨fc - 1, by omega⟩
    obtain ⟨f', rfl⟩ : ∃ f', fm = f' + 1 := ⟨fm - 1, by omega⟩
    have hi : i = nc := by omega
    subst hi
    refine ⟨S, T, u, fun c hc => by have := hcs c hc; rwa [if_pos hc] at this, hfS, hfT, fun j10 => ?_, fun j38 => ?_, hkT⟩
    · rw [m_fx_s]
      unfold F_X6_passHour_23
      simp only []
      rw [(hfS.1 sb 2 (by omega)).1, hcc, if_pos ((io_le (by omega) (by omega)).mpr (Nat.le_refl _))]
    · rw [m_fx_s]
      unfold F_X9_hour_80
      simp only []
      have : Int32.ofNat i - 1 < Int32.ofNat i := by
        have k1 : (1 : Int32).toInt = 1 := rfl
        rw [t_lt, t_sub (by rw [t_ofNat (by omega), k1]; omega) (by rw [t_ofNat (by omega), k1]; omega), t_ofNat (by omega), k1]; omega
      rw [if_pos this]
  | succ d ih =>
    intro i fc fm h1 h2 h3 S T u hcs hfS hfT hkT
    obtain ⟨f, rfl⟩ : ∃ f, fc = f + 1 := ⟨fc - 1, by omega⟩
    obtain ⟨f', rfl⟩ : ∃ f', fm = f' + 1 := ⟨fm - 1, by omega⟩
    have hin : i < nc := by omega
    have hc0 := hcs i hin
    rw [if_neg (Nat.lt_irrefl i)] at hc0
    have pT : T.1 (m + 1) = Sm.1 (m + 1) := funext fun k => hfT.1 _ _ (by omega)
    have hMT : q_M Z T.2.2 m := by rw [hfT.2.2]; exact hM
    have hStS : q_St Z S.2.2 sb := by rw [hfS.2]; exact hSt
    have hKS : q_Ks Z kb nk S (T.1 (m + 1)) := by
      rw [pT]
      refine ⟨hK.1, fun k hk => ?_⟩
      obtain ⟨a1, a2, a3⟩ := hK.2 k hk
      have nk4 := hK.1
      have e : ∀ x j, x < 3 → S.1 (kb + 3 * k + x) j = Sc.1 (kb + 3 * k + x) j := fun x j hx => (hfS.1 _ _ (by have := hap (kb + 3 * k + x) (by omega) (by omega); omega)).1
      refine ⟨by rw [hfS.2]; exact a1, ⟨?_, ?_, ?_, fun j hj => ⟨?_, ?_⟩⟩, a3⟩
      · exact (e 0 0 (by omega)).trans a2.1
      · exact (e 0 1 (by omega)).trans a2.2.1
      · exact (e 0 2 (by omega)).trans a2.2.2.1
      · rw [e 1 j (by omega)]; exact (a2.2.2.2 j hj).1
      · rw [e 2 j (by omega)]; exact (a2.2.2.2 j hj).2
    have st := hStS.2.2.2.2 i (by omega)
    obtain ⟨fl, u1, hv, S1, S2, T1, T2, e1, e2, e3, e4, e5, e6, e7, u01, x1, x2, x3, fS2, fT2, k2⟩ := j_case (Z := Z) (kb := kb) (nk := nk) (n := cnt i) (c := i) (m := m) (v := sb + 4 + 10 * i) (t := t) (Sc := S) (Sm := T) (room := room) hMT st.2.2.1 st.2.2.2 (by omega) (fun b b1 b2 => by have := hap b b1 b2; omega) (by rw [pT]; exact hc0.1) (by rw [pT]; exact hc0.2.1) hKS hc0.2.2 (by rw [hfT.1 _ _ (by omega)]; exact ht) t9 r0 r1
    rw [pT] at x1 x2
    obtain ⟨S', T', u', z1, z2, z3, z4, z5, z6⟩ := ih (i + 1) f f' (by omega) (by omega) (by omega) S2 T2 (u + u1) (fun c hc => by
        by_cases q : c = i
        · subst q
          rw [if_pos (Nat.lt_succ_self _)]
          exact ⟨x1, x2, x3⟩
        · have h9 := hcs c hc
          have e9 : (if c < i + 1 then t + 1 else t) = if c < i then t + 1 else t := by
            by_cases q2 : c < i
            · rw [if_pos q2, if_pos (by omega)]
            · rw [if_neg q2, if_neg (by omega)]
          rw [e9]
          exact q_cs_fr h9 (fun x k k1 k2 => fS2.1 x k (by omega)) fS2.2 (fun k k1 k2 => fT2.1 _ _ (by omega)) (fun k k1 k2 => fT2.2.1 _ _ (by omega)))
      ⟨fun b k q => ⟨((fS2.1 b k (by omega)).1).trans (hfS.1 b k q).1, ((fS2.1 b k (by omega)).2).trans (hfS.1 b k q).2⟩, fS2.2.trans hfS.2⟩
      ⟨fun b k q => (fT2.1 b k (by omega)).trans (hfT.1 b k q), fun b k q => (fT2.2.1 b k (by omega)).trans (hfT.2.1 b k q), fT2.2.2.trans hfT.2.2⟩
      (fun c k hc hk => by
        by_cases q : c = i
        · subst q; rw [k2 k hk]; exact hkT c k hc hk
        · exact (fT2.1 _ _ (by omega)).trans (hkT c k hc hk))
    refine ⟨S', T', u', z1, z2, z3, fun j10 => ?_, fun j38 => ?_, z6⟩
    · have c1 : ¬ Int32.ofNat nc ≤ Int32.ofNat i := fun q => absurd ((io_le (by omega) (by omega)).mp q) (by omega)
      have c2 : ¬ (6 : Int32) ≤ Int32.ofNat i := fun q => absurd ((io_le (a := 6) (b := i) (by omega) (by omega)).mp q) (by omega)
      have r37 : (m_pJ S1 (sb + 4 + 10 * i + 8) 1 (S.2.1 (sb + 4 + 10 * i + 8) 1 + fl.toInt64)).2.2 = S.2.2 := by show S1.2.2 = _; rw [e6]
      rw [m_fx_s]
      generalize hlp : m_fx (F_X6_passHour_23 Z S0 sb (sb + 1) room j10) f = lp
      unfold F_X6_passHour_23
      simp only [io_tn (show i < 2147483648 by omega)]
      rw [(hfS.1 sb 2 (by omega)).1, hcc, if_neg c1, if_neg c2, hStS.2.2.1.1, m_b1_s, m_gd_t hStS.2.2.1.2.1, m_gd_t (q_inn hStS.2.2.1.2 (by omega) (by omega)), st.1, m_b1_s, hStS.2.2.2.1.1, m_b1_s, m_gd_t hStS.2.2.2.1.2.1, m_gd_t (q_inn hStS.2.2.2.1.2 (by omega) (by omega)), st.2.1, m_b1_s, m_gd_t st.2.2.2.1, m_gd_t st.2.2.1.1, e1, m_bw_s, m_lt_s, e3, m_b1_s, r37, hStS.2.2.2.1.1, m_b1_s, m_gd_t hStS.2.2.2.1.2.1, m_gd_t (q_inn hStS.2.2.2.1.2 (by omega) (by omega)), st.2.1, m_b1_s, e4, m_b1_s, m_gd_t st.2.2.2.1, ht0, e5, m_bw_s]
      have z4' := z4 j10
      rw [hlp] at z4'
      rcases u01 with q | q
      · subst q
        rw [if_pos rfl, m_lt_s, m_lt_s, io_one]; exact z4'
      · subst q
        rw [if_neg (by decide), m_lt_s, m_lt_s, io_one]; exact z4'
    · have c1 : ¬ Int32.ofNat nc - 1 < Int32.ofNat i := by
        have k1 : (1 : Int32).toInt = 1 := rfl
        rw [t_lt, t_sub (by rw [t_ofNat (by omega), k1]; omega) (by rw [t_ofNat (by omega), k1]; omega), t_ofNat (by omega), k1, t_ofNat (by omega)]; omega
      rw [m_fx_s]
      generalize hlp : m_fx (F_X9_hour_80 Z m (Int32.ofNat nc - 1) j38) f' = lp
      unfold F_X9_hour_80
      simp only []
      rw [if_neg c1, hfT.1 m 25 (by omega), hroom, e2, m_bw_s, e7, m_bw_s]
      have z5' := z5 j38
      rw [hlp] at z5'
      rcases u01 with q | q
      · subst q
        rw [if_pos rfl, m_lt_s, m_lt_s, io_one]; exact z5'
      · subst q
        rw [if_neg (by decide), m_lt_s, m_lt_s, io_one]; exact z5'
