theorem io_le {a b : Nat} (ha : a < 2147483648) (hb : b < 2147483648) : Int32.ofNat a ≤ Int32.ofNat b ↔ a ≤ b := by rw [t_le, t_ofNat ha, t_ofNat hb]; omega
theorem io_lt {a b : Nat} (ha : a < 2147483648) (hb : b < 2147483648) : Int32.ofNat a < Int32.ofNat b ↔ a < b := by rw [t_lt, t_ofNat ha, t_ofNat hb]; omega
theorem io_one (i : Nat) : Int32.ofNat i + (1 : Int32) = Int32.ofNat (i + 1) := io_add i 1
/-- the class's isotherm -/
theorem c_last {Z : m_Z} {S : m_S} {kd ya n : Nat} (g : m_ok Z kd 1) (r4 : S.2.2 kd 4 = some ya) (gy : m_okn Z ya 11 6) (hn : S.1 kd 2 = Int32.ofNat n) (h0 : 0 < n) (h6 : n ≤ 6) : f_X1_lastContent Z S kd = some (S.1 ya (n - 1)) := by
  have e : Int32.ofNat n - (1 : Int32) = Int32.ofNat (n - 1) := io_sub (b := 1) h0
  have e1 : ¬ Int32.ofNat (n - 1) < 0 := fun h => absurd ((io_lt (b := 0) (by omega) (by omega)).mp h) (by omega)
  have e2 : Int32.ofNat (n - 1) < (6 : Int32) := (io_lt (b := 6) (by omega) (by omega)).mpr (by omega)
  unfold f_X1_lastContent
  rw [m_gd_t g, m_lt_s, hn, e, if_neg e1, if_pos e2, r4, m_b1_s, m_gd_t gy.1, m_gd_t (io_in (by omega) (by rw [gy.2]; omega)), io_tn (by omega)]
theorem c_content {Z : m_Z} {S : m_S} {kd xa ya n : Nat} {hum : Int32} (g : m_ok Z kd 1) (r3 : S.2.2 kd 3 = some xa) (r4 : S.2.2 kd 4 = some ya) (gx : m_okn Z xa 11 6) (gy : m_okn Z ya 11 6) (hn : S.1 kd 2 = Int32.ofNat n) (hi : q_iso (S.1 xa) (S.1 ya) n) : f_X1_contentAt Z S kd hum = some (q_ct (S.1 xa) (S.1 ya) n hum) := by
  obtain ⟨⟨h2, h6⟩, hb, hm⟩ := id hi
  unfold f_X1_contentAt q_ct
  rw [m_gd_t g, r3, m_b1_s, m_gd_t gx.1, m_gd_t (show m_in 0 (Z.2.2 xa) by rw [gx.2]; decide)]
  have t0 : (0 : Int32).toNatClampNeg = 0 := rfl
  simp only [t0]
  by_cases hh : hum ≤ S.1 xa 0
  · rw [if_pos hh, if_neg (Int32.not_lt.mpr hh), r4, m_b1_s, m_gd_t gy.1, m_gd_t (show m_in 0 (Z.2.2 ya) by rw [gy.2]; decide)]
  · rw [if_neg hh, if_pos (Int32.not_le.mp hh)]
    rw [m_jp_s, m_jp_s]
    have key : ∀ (j9 : Unit → Option Int32) (j30 : Int32 → Option Int32), j9 () = some (S.1 ya (n - 1)) → (∀ i : Nat, 0 < i → i < n → j30 (Int32.ofNat i) = some (q_line (S.1 ya (i - 1)) (S.1 ya i) (hum - S.1 xa (i - 1)) (S.1 xa i - S.1 xa (i - 1)))) → ∀ (d i fuel : Nat), d + i = n → 0 < i → d < fuel → m_fx (F_X1_contentAt_19 Z S kd hum j9 j30) fuel (Int32.ofNat i) = some (q_cg (S.1 xa) (S.1 ya) n hum d i) := by
      intro j9 j30 e9 e30 d
      induction d with
      | zero =>
        intro i fuel h1 h3 h4
        obtain ⟨f, rfl⟩ : ∃ f, fuel = f + 1 := ⟨fuel - 1, by omega⟩
        rw [m_fx_s]
        unfold F_X1_contentAt_19 q_cg
        rw [hn, if_pos ((io_le (by omega) (by omega)).mpr (by omega)), e9]
      | succ d ih =>
        intro i fuel h1 h3 h4
        obtain ⟨f, rfl⟩ : ∃ f, fuel = f + 1 := ⟨fuel - 1, by omega⟩
        rw [m_fx_s]
        generalize hlp : m_fx (F_X1_contentAt_19 Z S kd hum j9 j30) f = lp
        unfold F_X1_contentAt_19 q_cg
        rw [hn, if_neg (fun h => absurd ((io_le (by omega) (by omega)).mp h) (by omega)), r3, m_b1_s, m_gd_t gx.1, m_gd_t (io_in (by omega) (by rw [gx.2]; omega)), io_tn (by omega)]
        by_cases h9 : hum ≤ S.1 xa i
        · rw [if_pos h9, if_neg (Int32.not_lt.mpr h9), e30 i h3 (by omega)]
        · rw [if_neg h9, if_pos (Int32.not_le.mp h9), m_lt_s, io_one, ← hlp]
          exact ih (i + 1) f (by omega) (by omega) (by omega)
    refine key _ _ ?_ ?_ (n - 1) 1 100000 (by omega) (by omega) (by omega)
    · rw [c_last g r4 gy hn (by omega) h6, m_b1_s]
    · intro i h1 h2
      have e1 : Int32.ofNat i - (1 : Int32) = Int32.ofNat (i - 1) := io_sub (b := 1) h1
      have g1 : m_in (Int32.ofNat i) (Z.2.2 xa) := io_in (by omega) (by rw [gx.2]; omega)
      have g2 : m_in (Int32.ofNat i) (Z.2.2 ya) := io_in (by omega) (by rw [gy.2]; omega)
      have g3 : m_in (Int32.ofNat (i - 1)) (Z.2.2 xa) := io_in (by omega) (by rw [gx.2]; omega)
      have g4 : m_in (Int32.ofNat (i - 1)) (Z.2.2 ya) := io_in (by omega) (by rw [gy.2]; omega)
      rw [r4, m_b1_s, m_gd_t gy.1, m_lt_s, e1, m_gd_t g4, m_gd_t g2, m_b1_s, m_gd_t gx.1, m_lt_s, m_gd_t g3, m_gd_t g1, m_lt_s, m_gd_t g3, io_tn (by omega), io_tn (by omega)]
      have hx := (hm (i - 1) (by omega)).1
      rw [show i - 1 + 1 = i by omega] at hx
      have b1 := hb i h2
      have b2 := hb (i - 1) (by omega)
      have es : (S.1 xa i - S.1 xa (i - 1)).toInt = (S.1 xa i).toInt - (S.1 xa (i - 1)).toInt := t_sub (by omega) (by omega)
      have p1 : (1 : Int32) ≤ S.1 xa i - S.1 xa (i - 1) := t_le.mpr (by rw [es]; have : (1 : Int32).toInt = 1 := rfl; omega)
      have p2 : ¬ S.1 xa i - S.1 xa (i - 1) = 0 := fun h => by have := t_eq.mp h; rw [es] at this; have : (0 : Int32).toInt = 0 := rfl; omega
      unfold f_X8_onLine
      rw [if_pos p1, m_gd_t p2]
      rfl
