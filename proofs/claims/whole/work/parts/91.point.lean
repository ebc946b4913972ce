section POINT
variable {Z : m_Z} {x m pd n st k i : Nat} {B : Nat → Int32} {S0 T0 S T : m_S}
theorem q_K_of (hZ : q_ZL Z x) (hR : q_RS S.2.2 x 0 341) (hpd : pd = x + 5 ∨ pd = x + 71) (hk : k < 4) : q_K Z S.2.2 (pd + 6 + 3 * k) := by
  have h4 : k = 0 ∨ k = 1 ∨ k = 2 ∨ k = 3 := by omega
  rcases hpd with e | e
  · subst e
    rcases h4 with rfl | rfl | rfl | rfl
    · exact ⟨(hZ.g (j := 11) (N := 0) (by decide +kernel)).1, ⟨hR.g (a := 11) (v := 12) (by decide +kernel), hZ.g (j := 12) (by decide +kernel)⟩, hR.g (a := 11) (v := 13) (by decide +kernel), hZ.g (j := 13) (by decide +kernel)⟩
    · exact ⟨(hZ.g (j := 14) (N := 0) (by decide +kernel)).1, ⟨hR.g (a := 14) (v := 15) (by decide +kernel), hZ.g (j := 15) (by decide +kernel)⟩, hR.g (a := 14) (v := 16) (by decide +kernel), hZ.g (j := 16) (by decide +kernel)⟩
    · exact ⟨(hZ.g (j := 17) (N := 0) (by decide +kernel)).1, ⟨hR.g (a := 17) (v := 18) (by decide +kernel), hZ.g (j := 18) (by decide +kernel)⟩, hR.g (a := 17) (v := 19) (by decide +kernel), hZ.g (j := 19) (by decide +kernel)⟩
    · exact ⟨(hZ.g (j := 20) (N := 0) (by decide +kernel)).1, ⟨hR.g (a := 20) (v := 21) (by decide +kernel), hZ.g (j := 21) (by decide +kernel)⟩, hR.g (a := 20) (v := 22) (by decide +kernel), hZ.g (j := 22) (by decide +kernel)⟩
  · subst e
    rcases h4 with rfl | rfl | rfl | rfl
    · exact ⟨(hZ.g (j := 77) (N := 0) (by decide +kernel)).1, ⟨hR.g (a := 77) (v := 78) (by decide +kernel), hZ.g (j := 78) (by decide +kernel)⟩, hR.g (a := 77) (v := 79) (by decide +kernel), hZ.g (j := 79) (by decide +kernel)⟩
    · exact ⟨(hZ.g (j := 80) (N := 0) (by decide +kernel)).1, ⟨hR.g (a := 80) (v := 81) (by decide +kernel), hZ.g (j := 81) (by decide +kernel)⟩, hR.g (a := 80) (v := 82) (by decide +kernel), hZ.g (j := 82) (by decide +kernel)⟩
    · exact ⟨(hZ.g (j := 83) (N := 0) (by decide +kernel)).1, ⟨hR.g (a := 83) (v := 84) (by decide +kernel), hZ.g (j := 84) (by decide +kernel)⟩, hR.g (a := 83) (v := 85) (by decide +kernel), hZ.g (j := 85) (by decide +kernel)⟩
    · exact ⟨(hZ.g (j := 86) (N := 0) (by decide +kernel)).1, ⟨hR.g (a := 86) (v := 87) (by decide +kernel), hZ.g (j := 87) (by decide +kernel)⟩, hR.g (a := 86) (v := 88) (by decide +kernel), hZ.g (j := 88) (by decide +kernel)⟩
/-- a kind's points so far -/
def q_kp (m pd k i : Nat) (S T : m_S) : Prop := S.1 (pd + 6 + 3 * k) 2 = Int32.ofNat i ∧ (∀ j, j < i → S.1 (pd + 6 + 3 * k + 1) j = T.1 (m + 2) (56 + 14 * k + 2 * j) ∧ S.1 (pd + 6 + 3 * k + 2) j = T.1 (m + 2) (57 + 14 * k + 2 * j) ∧ (0 ≤ (T.1 (m + 2) (56 + 14 * k + 2 * j)).toInt ∧ (T.1 (m + 2) (56 + 14 * k + 2 * j)).toInt ≤ 1000) ∧ 0 ≤ (T.1 (m + 2) (57 + 14 * k + 2 * j)).toInt ∧ (T.1 (m + 2) (57 + 14 * k + 2 * j)).toInt ≤ 9999) ∧ ∀ j, j + 1 < i → (T.1 (m + 2) (56 + 14 * k + 2 * j)).toInt < (T.1 (m + 2) (56 + 14 * k + 2 * (j + 1))).toInt ∧ (T.1 (m + 2) (57 + 14 * k + 2 * j)).toInt ≤ (T.1 (m + 2) (57 + 14 * k + 2 * (j + 1))).toInt
/-- one point: the word met, both read it -/
theorem q_point (h : q_P Z x m pd n B S0 T0 st S T) (hk : k < 4) (hi : i < 6) (hp : q_kp m pd k i S T) (hat : f_X3_at Z S (x + 1) 6 = some 1) : q_E Z x m pd S0 T0 (fun S' T' => (∃ st', q_P Z x m pd n B S0 T0 st' S' T') ∧ q_kp m pd k (i + 1) S' T' ∧ q_ag (fun b j => ¬ (b = x + 1 ∧ 4 ≤ j ∧ j ≤ 7) ∧ ¬ (b = pd + 6 + 3 * k + 1 ∧ j = i) ∧ ¬ (b = pd + 6 + 3 * k + 2 ∧ j = i) ∧ ¬ (b = pd + 6 + 3 * k ∧ j = 2)) S S' ∧ S'.2 = S.2 ∧ q_ag (fun b j => ¬ (b = m ∧ ((14 ≤ j ∧ j ≤ 17) ∨ j = 20)) ∧ ¬ (b = m + 2 ∧ (j = 56 + 14 * k + 2 * i ∨ j = 57 + 14 * k + 2 * i))) T T' ∧ T'.2.2 = T.2.2) (f_X3_readPoint Z S (x + 1) (pd + 6 + 3 * k)) (m_bw (f_X9_token Z T m) (fun _u S68 => f_X9_point Z S68 m (Int32.ofNat (54 + 14 * k)) (Int32.ofNat i))) := by
  have hm := h.em
  have hpd := h.pdr
  obtain ⟨d, hd⟩ : ∃ d, d = pd + 6 + 3 * k := ⟨_, rfl⟩
  obtain ⟨hp1, hp2, hp3⟩ := id hp
  have hKK := q_K_of (S := S) h.f.2.2.1 h.rs hpd hk
  rw [← hd] at hp1 hp2 hKK ⊢
  obtain ⟨od, ⟨rd1, od1⟩, rd2, od2⟩ := hKK
  obtain ⟨st1, S1, T1, g1, r1, hP1, f1, f2, f3, f4⟩ := q_P_next h
  have tp : ∀ b j, b ≠ m → T1.1 b j = T.1 b j := fun b j hb => (f3 _ _ (by omega)).1
  have sp : ∀ b j, b ≠ x + 1 → S1.1 b j = S.1 b j := fun b j hb => (f1 _ _ (by omega)).1
  have k0 : (0 : Int32).toInt = 0 := rfl
  have k1 : (1 : Int32).toInt = 1 := rfl
  have k1000 : (1000 : Int32).toInt = 1000 := rfl
  have k9999 : (9999 : Int32).toInt = 9999 := rfl
  obtain ⟨dd, hdd⟩ : ∃ y, y = if i = 0 then 0 else T.1 (m + 2) (54 + 14 * k + 2 * i) + 1 := ⟨_, rfl⟩
  obtain ⟨cc, hcc⟩ : ∃ y, y = if i = 0 then 0 else T.1 (m + 2) (55 + 14 * k + 2 * i) := ⟨_, rfl⟩
  have gtw : f_X3_takeWord Z S (x + 1) 6 = some (.ok (), S1) := by
    unfold f_X3_takeWord
    rw [m_gd_t h.f.o1, hat, m_b1_s, if_pos (show ¬ (1 : Int32) = 0 from z10), g1, m_bw_s]
  have gn : f_X1_nextHumidity Z S1 d = some dd := by
    unfold f_X1_nextHumidity
    rw [m_gd_t od, sp _ _ (by omega), hp1, m_lt_s]
    by_cases q : i = 0
    · rw [if_pos (show Int32.ofNat i - 1 < 0 by rw [q]; decide), hdd, if_pos q]
    · rw [show Int32.ofNat i - 1 = Int32.ofNat (i - 1) from io_sub (b := 1) (by omega), if_neg (io_nn (n := 6) (by omega) (by omega)), if_pos (show Int32.ofNat (i - 1) < 6 from (io_lt (b := 6) (by omega) (by omega)).mpr (by omega)), f2, rd1, m_b1_s, m_gd_t od1.1, m_gd_t (q_inn od1 (by omega) (by omega)), io_tn (by omega), sp _ _ (by omega), (hp2 (i - 1) (by omega)).1, hdd, if_neg q, show 56 + 14 * k + 2 * (i - 1) = 54 + 14 * k + 2 * i by omega]
  have e56 : (Int32.ofNat (54 + 14 * k) + (2 : Int32)) + (2 : Int32) * Int32.ofNat i = Int32.ofNat (56 + 14 * k + 2 * i) := by
    show (Int32.ofNat (54 + 14 * k) + Int32.ofNat 2) + Int32.ofNat 2 * Int32.ofNat i = _
    rw [io_mul, io_add, io_add]; exact congrArg Int32.ofNat (by omega)
  have i56 : m_in (Int32.ofNat (56 + 14 * k + 2 * i)) (Z.2.2 (m + 2)) := q_inn hP1.M.told.2 (by omega) (by omega)
  have i57 : m_in (Int32.ofNat (57 + 14 * k + 2 * i)) (Z.2.2 (m + 2)) := q_inn hP1.M.told.2 (by omega) (by omega)
  have i55 : m_in (Int32.ofNat (55 + 14 * k + 2 * i)) (Z.2.2 (m + 2)) := q_inn hP1.M.told.2 (by omega) (by omega)
  have ok2 : m_ok Z (m + 2) 11 := hP1.M.told.2.1
  have n56 : (Int32.ofNat (56 + 14 * k + 2 * i)).toNatClampNeg = 56 + 14 * k + 2 * i := io_tn (by omega)
  have n57 : (Int32.ofNat (57 + 14 * k + 2 * i)).toNatClampNeg = 57 + 14 * k + 2 * i := io_tn (by omega)
  have n55 : (Int32.ofNat (55 + 14 * k + 2 * i)).toNatClampNeg = 55 + 14 * k + 2 * i := io_tn (by omega)
  have e57 : Int32.ofNat (56 + 14 * k + 2 * i) + (1 : Int32) = Int32.ofNat (57 + 14 * k + 2 * i) := (io_one _).trans (congrArg Int32.ofNat (by omega))
  have e55 : Int32.ofNat (56 + 14 * k + 2 * i) - (1 : Int32) = Int32.ofNat (55 + 14 * k + 2 * i) := (io_sub (a := 56 + 14 * k + 2 * i) (b := 1) (by omega)).trans (congrArg Int32.ofNat (by omega))
  have e54 : Int32.ofNat (56 + 14 * k + 2 * i) - (2 : Int32) = Int32.ofNat (54 + 14 * k + 2 * i) := (io_sub (a := 56 + 14 * k + 2 * i) (b := 2) (by omega)).trans (congrArg Int32.ofNat (by omega))
  have inz : i ≠ 0 → ¬ Int32.ofNat i = 0 := fun q z => q (by have := t_eq.mp z; rw [t_ofNat (by omega), i32_0] at this; omega)
  have hsel : ∀ (j6 : Int32 → Option (Unit × m_S)), (if ¬ Int32.ofNat i = 0 then m_gd (m_ok Z (m + 2) 11) (m_lt (Int32.ofNat (56 + 14 * k + 2 * i) - (2 : Int32)) (fun v37 => m_gd (m_in v37 (Z.2.2 (m + 2))) (j6 ((T1.1 (m + 2) v37.toNatClampNeg) + (1 : Int32))))) else j6 (0 : Int32)) = j6 dd := fun j6 => by
    by_cases q : i = 0
    · rw [if_neg (show ¬ ¬ Int32.ofNat i = 0 from fun z => z (by rw [q]; rfl)), hdd, if_pos q]
    · rw [if_pos (inz q), m_gd_t ok2, e54, m_lt_s, m_gd_t (q_inn hP1.M.told.2 (by omega) (by omega)), io_tn (by omega), tp _ _ (by omega), hdd, if_neg q]
  rw [r1, m_bw_s]
  unfold f_X3_readPoint f_X9_point
  rw [e56, m_lt_s, m_gd_t h.f.o1, m_gd_t hP1.M.o, gtw, m_bx_s, m_gd_t od, gn, m_b1_s, hP1.M.told.1, m_b1_s, m_jp_c hsel]
  refine q_E_num hP1 dd 1000 (fun v st2 S2 T2 v1 v2 hP2 a1 a2 a3 a4 => ?_) (fun v T' hw => ?_)
  · obtain ⟨T3, hT3⟩ : ∃ y, y = m_pI T2 (m + 2) (56 + 14 * k + 2 * i) v := ⟨_, rfl⟩
    have b3 : q_ag (fun b j => ¬ (b = m + 2 ∧ j = 56 + 14 * k + 2 * i)) T2 T3 := by rw [hT3]; exact q_ag_I (q_ag_refl _ _) (by omega)
    have r3 : T3.2.2 = T2.2.2 := by rw [hT3]; rfl
    have hP3 : q_P Z x m pd n B S0 T0 st2 S2 T3 := hP2.go (q_ag_refl _ _) hP2.rs (q_ag_sub b3 (fun b k hb => by omega)) r3
    have sp2 : ∀ b j, b ≠ x + 1 → S2.1 b j = S.1 b j := fun b j hb => by rw [(a1 _ _ (by omega)).1]; exact sp b j hb
    have sj2 : S2.2 = S.2 := a2.trans f2
    have gl : f_X1_lastContent Z S2 d = some cc := by
      unfold f_X1_lastContent
      rw [m_gd_t od, sp2 _ _ (by omega), hp1, m_lt_s]
      by_cases q : i = 0
      · rw [if_pos (show Int32.ofNat i - 1 < 0 by rw [q]; decide), hcc, if_pos q]
      · rw [show Int32.ofNat i - 1 = Int32.ofNat (i - 1) from io_sub (b := 1) (by omega), if_neg (io_nn (n := 6) (by omega) (by omega)), if_pos (show Int32.ofNat (i - 1) < 6 from (io_lt (b := 6) (by omega) (by omega)).mpr (by omega)), sj2, rd2, m_b1_s, m_gd_t od2.1, m_gd_t (q_inn od2 (by omega) (by omega)), io_tn (by omega), sp2 _ _ (by omega), (hp2 (i - 1) (by omega)).2.1, hcc, if_neg q, show 57 + 14 * k + 2 * (i - 1) = 55 + 14 * k + 2 * i by omega]
    have fin : ∀ u st4 S4 T4, cc.toInt ≤ u.toInt → u.toInt ≤ 9999 → q_P Z x m pd n B S0 T0 st4 S4 T4 → q_ag (fun b j => ¬ (b = x + 1 ∧ 4 ≤ j ∧ j ≤ 7)) S2 S4 → S4.2 = S2.2 → q_ag (fun b j => ¬ (b = m ∧ ((14 ≤ j ∧ j ≤ 17) ∨ j = 20))) T3 T4 → T4.2.2 = T3.2.2 → ∃ S5 T5, f_X1_addPoint Z S4 d v u = some ((), S5) ∧ T5 = m_pI T4 (m + 2) (57 + 14 * k + 2 * i) u ∧ (∃ st', q_P Z x m pd n B S0 T0 st' S5 T5) ∧ q_kp m pd k (i + 1) S5 T5 ∧ q_ag (fun b j => ¬ (b = x + 1 ∧ 4 ≤ j ∧ j ≤ 7) ∧ ¬ (b = d + 1 ∧ j = i) ∧ ¬ (b = d + 2 ∧ j = i) ∧ ¬ (b = d ∧ j = 2)) S S5 ∧ S5.2 = S.2 ∧ q_ag (fun b j => ¬ (b = m ∧ ((14 ≤ j ∧ j ≤ 17) ∨ j = 20)) ∧ ¬ (b = m + 2 ∧ (j = 56 + 14 * k + 2 * i ∨ j = 57 + 14 * k + 2 * i))) T T5 ∧ T5.2.2 = T.2.2 := by
      intro u st4 S4 T4 u1 u2 hP4 c1 c2 c3 c4
      have s4 : ∀ b j, b ≠ x + 1 → S4.1 b j = S.1 b j := fun b j hb => by rw [(c1 _ _ (by omega)).1]; exact sp2 b j hb
      have sj4 : S4.2 = S.2 := c2.trans sj2
      obtain ⟨T5, hT5⟩ : ∃ y, y = m_pI T4 (m + 2) (57 + 14 * k + 2 * i) u := ⟨_, rfl⟩
      have b5 : q_ag (fun b j => ¬ (b = m + 2 ∧ j = 57 + 14 * k + 2 * i)) T4 T5 := by rw [hT5]; exact q_ag_I (q_ag_refl _ _) (by omega)
      obtain ⟨S5, hS5⟩ : ∃ y, y = m_pI (m_pI (m_pI S4 (d + 1) i v) (d + 2) i u) d 2 (Int32.ofNat (i + 1)) := ⟨_, rfl⟩
      have b8 : q_ag (fun b j => ¬ (b = d + 1 ∧ j = i) ∧ ¬ (b = d + 2 ∧ j = i) ∧ ¬ (b = d ∧ j = 2)) S4 S5 := by rw [hS5]; exact q_ag_I (q_ag_I (q_ag_I (q_ag_refl _ _) (by omega)) (by omega)) (by omega)
      have r5 : S5.2 = S.2 := by rw [hS5]; exact sj4
      have aS : q_ag (fun b j => ¬ (b = x + 1 ∧ 4 ≤ j ∧ j ≤ 7) ∧ ¬ (b = d + 1 ∧ j = i) ∧ ¬ (b = d + 2 ∧ j = i) ∧ ¬ (b = d ∧ j = 2)) S S5 := q_ag_trans (q_ag_sub f1 (fun b k hb => by omega)) (q_ag_trans (q_ag_sub a1 (fun b k hb => by omega)) (q_ag_trans (q_ag_sub c1 (fun b k hb => by omega)) (q_ag_sub b8 (fun b k hb => by omega))))
      have aT : q_ag (fun b j => ¬ (b = m ∧ ((14 ≤ j ∧ j ≤ 17) ∨ j = 20)) ∧ ¬ (b = m + 2 ∧ (j = 56 + 14 * k + 2 * i ∨ j = 57 + 14 * k + 2 * i))) T T5 := q_ag_trans (q_ag_sub f3 (fun b k hb => by omega)) (q_ag_trans (q_ag_sub a3 (fun b k hb => by omega)) (q_ag_trans (q_ag_sub b3 (fun b k hb => by omega)) (q_ag_trans (q_ag_sub c3 (fun b k hb => by omega)) (q_ag_sub b5 (fun b k hb => by omega)))))
      have rT : T5.2.2 = T.2.2 := by rw [hT5]; show T4.2.2 = _; rw [c4, r3, a4, f4]
      have tv : T5.1 (m + 2) (56 + 14 * k + 2 * i) = v := by rw [(b5 _ _ (by omega)).1, (c3 _ _ (by omega)).1, hT3, pI_same]
      have tu : T5.1 (m + 2) (57 + 14 * k + 2 * i) = u := by rw [hT5, pI_same]
      have to : ∀ j, j ≠ 56 + 14 * k + 2 * i → j ≠ 57 + 14 * k + 2 * i → T5.1 (m + 2) j = T.1 (m + 2) j := fun j h1 h2 => (aT _ _ (by omega)).1
      have hv : 0 ≤ v.toInt ∧ ∀ j, j + 1 = i → (T.1 (m + 2) (56 + 14 * k + 2 * j)).toInt < v.toInt := by
        by_cases q : i = 0
        · rw [hdd, if_pos q, k0] at v1; exact ⟨v1, fun j hj => by omega⟩
        · have hb := (hp2 (i - 1) (by omega)).2.2.1
          rw [show 56 + 14 * k + 2 * (i - 1) = 54 + 14 * k + 2 * i by omega] at hb
          rw [hdd, if_neg q, t_add (by omega) (by omega), k1] at v1
          exact ⟨by omega, fun j hj => by rw [show 56 + 14 * k + 2 * j = 54 + 14 * k + 2 * i by omega]; omega⟩
      have hu : 0 ≤ u.toInt ∧ ∀ j, j + 1 = i → (T.1 (m + 2) (57 + 14 * k + 2 * j)).toInt ≤ u.toInt := by
        by_cases q : i = 0
        · rw [hcc, if_pos q, k0] at u1; exact ⟨u1, fun j hj => by omega⟩
        · have hb := (hp2 (i - 1) (by omega)).2.2.2
          rw [show 57 + 14 * k + 2 * (i - 1) = 55 + 14 * k + 2 * i by omega] at hb
          rw [hcc, if_neg q] at u1
          exact ⟨by omega, fun j hj => by rw [show 57 + 14 * k + 2 * j = 55 + 14 * k + 2 * i by omega]; omega⟩
      rw [k1000] at v2
      refine ⟨S5, T5, ?_, hT5, ⟨st4, hP4.go (q_ag_sub b8 (fun b k hb => by omega)) (by rw [r5]; exact h.rs) (q_ag_sub b5 (fun b k hb => by omega)) (by rw [hT5]; rfl)⟩, ⟨?_, fun j hj => ?_, fun j hj => ?_⟩, aS, r5, aT, rT⟩
      · unfold f_X1_addPoint
        rw [m_gd_t od, s4 _ _ (by omega), hp1, if_neg (show ¬ (6 : Int32) ≤ Int32.ofNat i from fun z => absurd ((io_le (a := 6) (by omega) (by omega)).mp z) (by omega)), sj4, rd1, m_b1_s, m_gd_t od1.1, m_gd_t (q_inn od1 (by omega) (by omega)), io_tn (by omega), m_lt_s]
        rw [show (m_pI S4 (d + 1) i v).2.2 d 4 = some (d + 2) by show S4.2.2 d 4 = _; rw [sj4]; exact rd2, m_b1_s, m_gd_t od2.1, show (m_pI S4 (d + 1) i v).1 d 2 = Int32.ofNat i by rw [pI_ne (by omega), s4 _ _ (by omega)]; exact hp1, m_gd_t (q_inn od2 (by omega) (by omega)), io_tn (by omega), m_lt_s]
        rw [show (m_pI (m_pI S4 (d + 1) i v) (d + 2) i u).1 d 2 = Int32.ofNat i by rw [pI_ne (by omega), pI_ne (by omega), s4 _ _ (by omega)]; exact hp1, io_one, ← hS5, m_lt_s]
      · rw [← hd, hS5, pI_same]
      · rw [← hd]
        by_cases q : j = i
        · subst q
          rw [tv, tu]
          exact ⟨by rw [hS5, pI_ne (by omega), pI_ne (by omega), pI_same], by rw [hS5, pI_ne (by omega), pI_same], ⟨hv.1, v2⟩, hu.1, u2⟩
        · have := hp2 j (by omega)
          rw [to _ (by omega) (by omega), to _ (by omega) (by omega), (aS _ _ (by omega)).1, (aS _ _ (by omega)).1]; exact this
      · by_cases q : j + 1 = i
        · subst q
          rw [tv, tu, to _ (by omega) (by omega), to _ (by omega) (by omega)]
          exact ⟨hv.2 j rfl, hu.2 j rfl⟩
        · rw [to _ (by omega) (by omega), to _ (by omega) (by omega), to _ (by omega) (by omega), to _ (by omega) (by omega)]; exact hp3 j (by omega)
    rw [m_gd_t ok2, m_gd_t i56, n56, ← hT3, m_lt_s, hP3.M.told.1, m_b1_s, gl, m_b1_s]
    by_cases q : i = 0
    · rw [if_neg (show ¬ ¬ Int32.ofNat i = 0 from fun z => z (by rw [q]; rfl)), show cc = 0 by rw [hcc, if_pos q]]
      refine q_E_num hP3 0 9999 (fun u st4 S4 T4 u1 u2 hP4 c1 c2 c3 c4 => ?_) (fun u T' hw => ?_)
      · rw [k9999] at u2
        obtain ⟨S5, T5, y1, y2, y3⟩ := fin u st4 S4 T4 (by rw [hcc, if_pos q]; exact u1) u2 hP4 c1 c2 c3 c4
        rw [y1, m_bw_s, m_gd_t ok2, e57, m_gd_t i57, n57, ← y2, m_lt_s]
        exact Or.inl ⟨S5, T5, rfl, rfl, y3⟩
      · rw [m_gd_t ok2, e57, m_gd_t i57, n57]
        exact q_W_set (Or.inl rfl) q_W_done
    · rw [if_pos (inz q), m_gd_t ok2, e55, m_lt_s, m_gd_t i55, n55, show T3.1 (m + 2) (55 + 14 * k + 2 * i) = cc by rw [(b3 _ _ (by omega)).1, (a3 _ _ (by omega)).1, tp _ _ (by omega), hcc, if_neg q]]
      refine q_E_num hP3 cc 9999 (fun u st4 S4 T4 u1 u2 hP4 c1 c2 c3 c4 => ?_) (fun u T' hw => ?_)
      · rw [k9999] at u2
        obtain ⟨S5, T5, y1, y2, y3⟩ := fin u st4 S4 T4 u1 u2 hP4 c1 c2 c3 c4
        rw [y1, m_bw_s, e57, m_gd_t i57, n57, ← y2, m_lt_s]
        exact Or.inl ⟨S5, T5, rfl, rfl, y3⟩
      · rw [e57, m_gd_t i57, n57]
        exact q_W_set (Or.inl rfl) q_W_done
  · rw [m_gd_t ok2, m_gd_t i56, n56]
    refine q_W_set (Or.inl rfl) ?_
    have hw0 := q_wr_I (b := m + 2) (k := 56 + 14 * k + 2 * i) (v := v) hw (Or.inl rfl)
    generalize m_pI T' (m + 2) (56 + 14 * k + 2 * i) v = T8 at hw0 ⊢
    rw [hw0.1.told.1, m_b1_s]
    by_cases q : i = 0
    · rw [if_neg (show ¬ ¬ Int32.ofNat i = 0 from fun z => z (by rw [q]; rfl))]
      refine q_W_fig hw0 _ _ ?_
      rw [m_gd_t ok2, e57, m_gd_t i57, n57]
      exact q_W_set (Or.inl rfl) q_W_done
    · rw [if_pos (inz q), m_gd_t ok2, e55, m_lt_s, m_gd_t i55]
      refine q_W_fig hw0 _ _ ?_
      rw [e57, m_gd_t i57, n57]
      exact q_W_set (Or.inl rfl) q_W_done
end POINT
