/-! the room's hour -/
def q_ex (p : Nat → Int32) (t : Nat) (excess groups : Int32) : Int32 := ((excess.toInt64 * (p 0).toInt64) / (1000 : Int64)).toInt32 + p 1 * (p (30 + t % 24) + groups)
theorem g_visitors {Z : m_Z} {pb ns nk nc : Nat} {S : m_S} {p : Nat → Int32} {i : Nat} (h : q_set9 Z pb ns nk nc S p) (hr : S.2.2 pb 5 = some (pb + 3)) (hi : i < 24) : f_X5_visitorsAt Z S pb (Int32.ofNat i) = some (p (30 + i)) := by
  have g := h.1.2.2.2
  have c0 : ¬ Int32.ofNat i < 0 := fun q => absurd ((io_lt (b := 0) (by omega) (by omega)).mp q) (by omega)
  have c1 : Int32.ofNat i < Int32.ofNat 24 := (io_lt (by omega) (by omega)).mpr hi
  unfold f_X5_visitorsAt
  rw [if_neg c0, m_gd_t h.1.1, hr, m_b1_s, m_gd_t g.2.1, g.2.2, if_pos c1, m_gd_t (io_in (by omega) hi), io_tn (by omega), h.2.2.2.1 i hi]
theorem g_roomhour {Z : m_Z} {pb ns nk nc r t : Nat} {S : m_S} {p : Nat → Int32} (h : q_set9 Z pb ns nk nc S p) (g : m_ok Z r 4) (ht : S.1 r 0 = Int32.ofNat t) (t9 : t < 2147483648) (hap : r < pb ∨ pb + 4 ≤ r) : f_X4_passHour Z S r pb = some (q_rm p ns (Int32.ofNat t) (q_ex p t (S.1 r 1) (S.1 r 2)), m_pI (m_pI (m_pI S r 1 (q_ex p t (S.1 r 1) (S.1 r 2))) r 2 0) r 0 (Int32.ofNat (t + 1))) := by
  unfold f_X4_passHour f_X4_hourOfDay
  rw [m_gd_t g, m_gd_t g, m_b1_s, ht, io_mod24 t9, m_gd_t h.1.1, g_visitors h h.1.2.2.2.1 (by omega), m_b1_s, m_lt_s, h.2.1.1, h.2.1.2.1, m_lt_s, m_lt_s]
  have eq : ((S.1 r 1).toInt64 * (p 0).toInt64 / (1000 : Int64)).toInt32 + p 1 * (p (30 + t % 24) + S.1 r 2) = q_ex p t (S.1 r 1) (S.1 r 2) := rfl
  rw [eq]
  generalize q_ex p t (S.1 r 1) (S.1 r 2) = ex
  obtain ⟨S2, hS2⟩ : ∃ q, q = m_pI (m_pI S r 1 ex) r 2 0 := ⟨_, rfl⟩
  rw [← hS2]
  have fr : ∀ b k, b ≠ r → S2.1 b k = S.1 b k := fun b k hb => by rw [hS2]; exact (pI_ne (fun q => hb q.1)).trans (pI_ne (fun q => hb q.1))
  have rr : S2.2 = S.2 := by rw [hS2]; rfl
  have h2 : q_set9 Z pb ns nk nc S2 p := by
    obtain ⟨h1, ⟨x0, x1, x2, x3, x4, x5, x6, x7⟩, h3, h4, h5⟩ := h
    refine ⟨by rw [rr]; exact h1, ⟨?_, ?_, ?_, x3, ?_, x5, ?_, x7⟩, fun i hi => ⟨?_, ?_⟩, fun i hi => ?_, h5⟩
    · rw [fr _ _ (by omega)]; exact x0
    · rw [fr _ _ (by omega)]; exact x1
    · rw [fr _ _ (by omega)]; exact x2
    · rw [fr _ _ (by omega)]; exact x4
    · rw [fr _ _ (by omega)]; exact x6
    · rw [fr _ _ (by omega)]; exact (h3 i hi).1
    · rw [fr _ _ (by omega)]; exact (h3 i hi).2
    · rw [fr _ _ (by omega)]; exact h4 i hi
  have e0 : S2.1 r 0 = Int32.ofNat t := by rw [hS2, pI_ne (by omega), pI_ne (by omega)]; exact ht
  have e1 : S2.1 r 1 = ex := by rw [hS2, pI_ne (by omega), pI_same]
  rw [g_room h2 g, m_b1_s, m_lt_s, e0, e1, io_one]
theorem e_hourhead {Z : m_Z} {T : m_S} {m n t : Nat} {fr to : Int32} (h : q_M Z T.2.2 m) (hn : T.1 (m + 1) 2 = Int32.ofNat n) (hw : q_ws (q_d (T.1 (m + 1))) (q_s (T.1 (m + 1))) n) (ht : T.1 (m + 3) 0 = Int32.ofNat t) (t9 : t < 2147483648) : ∃ j38 : Int32 → m_S → Option (Int32 × m_S), (∀ v S, q_M Z S.2.2 m → j38 v S = some (v, m_pI S (m + 3) 0 (S.1 (m + 3) 0 + 1))) ∧ f_X9_hour Z T m fr to = m_fx (F_X9_hour_80 Z m to j38) 100000 ((0 : Int32), fr, m_pI (m_pI (m_pI T (m + 3) 1 (q_ex (T.1 (m + 1)) t (T.1 (m + 3) 1) (T.1 (m + 3) 2))) (m + 3) 2 0) m 25 (q_rm (T.1 (m + 1)) n (Int32.ofNat t) (q_ex (T.1 (m + 1)) t (T.1 (m + 3) 1) (T.1 (m + 3) 2)))) := by
  have z0 : (0 : Int32).toNatClampNeg = 0 := rfl
  have z1 : (1 : Int32).toNatClampNeg = 1 := rfl
  have z2 : (2 : Int32).toNatClampNeg = 2 := rfl
  have ia : ∀ i, i < 340 → m_in (Int32.ofNat i) (Z.2.2 (m + 3)) := fun i q => q_inn h.a.2 q (by omega)
  have ip : ∀ i, i < 116 → m_in (Int32.ofNat i) (Z.2.2 (m + 1)) := fun i q => q_inn h.p.2 q (by omega)
  have e30 : (30 : Int32) + Int32.ofNat (t % 24) = Int32.ofNat (30 + t % 24) := io_add 30 _
  have exq : ((((T.1 (m + 3) 1).toInt64 * (T.1 (m + 1) 0).toInt64) / (1000 : Int64)) + ((T.1 (m + 1) 1).toInt64 * (T.1 (m + 1) (30 + t % 24) + T.1 (m + 3) 2).toInt64)).toInt32 = q_ex (T.1 (m + 1)) t (T.1 (m + 3) 1) (T.1 (m + 3) 2) := by
    rw [l_add32, l_mul32, t_of64, t_of64]; rfl
  unfold f_X9_hour
  rw [m_gd_t h.o, h.a.1, m_b1_s, m_gd_t h.a.2.1, m_gd_t (show m_in 1 (Z.2.2 (m + 3)) from ia 1 (by omega)), h.p.1, m_b1_s, m_gd_t h.p.2.1, m_gd_t (show m_in 0 (Z.2.2 (m + 1)) from ip 0 (by omega)), m_gd_t (show m_in 1 (Z.2.2 (m + 1)) from ip 1 (by omega)), m_gd_t (show m_in 0 (Z.2.2 (m + 3)) from ia 0 (by omega))]
  simp only [z0, z1, z2, ht, io_mod24 t9, e30]
  rw [m_lt_s, m_gd_t (ip _ (by omega)), m_gd_t (show m_in 2 (Z.2.2 (m + 3)) from ia 2 (by omega)), m_gd_t (show m_in 1 (Z.2.2 (m + 3)) from ia 1 (by omega)), io_tn (by omega), exq, m_lt_s]
  generalize q_ex (T.1 (m + 1)) t (T.1 (m + 3) 1) (T.1 (m + 3) 2) = ex
  obtain ⟨S1, hS1⟩ : ∃ q, q = m_pI T (m + 3) 1 ex := ⟨_, rfl⟩
  have hM1 : q_M Z S1.2.2 m := by rw [hS1]; exact h
  obtain ⟨S2, hS2⟩ : ∃ q, q = m_pI S1 (m + 3) 2 0 := ⟨_, rfl⟩
  have hM2 : q_M Z S2.2.2 m := by rw [hS2]; exact hM1
  rw [← hS1, hM1.a.1, m_b1_s, m_gd_t h.a.2.1, m_gd_t (show m_in 2 (Z.2.2 (m + 3)) from ia 2 (by omega)), m_lt_s, ← hS2]
  have p2 : S2.1 (m + 1) = T.1 (m + 1) := by rw [hS2, hS1]; funext k; exact (pI_ne (by omega)).trans (pI_ne (by omega))
  have a0 : S2.1 (m + 3) 0 = Int32.ofNat t := by rw [hS2, hS1, pI_ne (by omega), pI_ne (by omega)]; exact ht
  have a1 : S2.1 (m + 3) 1 = ex := by rw [hS2, hS1, pI_ne (by omega), pI_same]
  rw [e_room hM2 (by rw [p2]; exact hn) (by rw [p2]; exact hw), m_b1_s, p2, a0, a1, m_lt_s]
  refine ⟨_, ?_, m_jp_s _ _⟩
  intro v S hS
  show m_b1 (S.2.2 m 3) _ = _
  rw [hS.a.1, m_b1_s, m_gd_t hS.a.2.1, m_gd_t (show m_in 0 (Z.2.2 (m + 3)) from ia 0 (by omega)), m_gd_t (show m_in 0 (Z.2.2 (m + 3)) from ia 0 (by omega)), m_lt_s]
