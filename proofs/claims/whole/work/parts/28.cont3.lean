/-- the reference's isotherm -/
theorem io_two (i : Nat) : Int32.ofNat i + (2 : Int32) = Int32.ofNat (i + 2) := io_add i 2
theorem io_three (i : Nat) : Int32.ofNat i + (3 : Int32) = Int32.ofNat (i + 3) := io_add i 3
theorem q_ct_between {x y : Nat → Int32} {n : Nat} {hum : Int32} {j : Nat} (hi : q_iso x y n) (h0 : ¬ hum ≤ x 0) (hj : j + 1 < n) (h1 : x j ≤ hum) (h2 : hum < x (j + 1)) : q_ct x y n hum = q_line (y j) (y (j + 1)) (hum - x j) (x (j + 1) - x j) := by
  obtain ⟨⟨n2, n6⟩, hb, hm⟩ := id hi
  have lo : ∀ k, k < j → ¬ hum ≤ x k := fun k hk h => by
    have := hi.lt2 hk (by omega)
    rw [t_le] at h h1
    omega
  by_cases e : hum ≤ x j
  · have ej : 0 < j := Nat.pos_of_ne_zero (fun q => by subst q; exact h0 e)
    rw [q_ct_seg ej (by omega) lo e]
    have b1 := hb j (by omega)
    have b2 := hb (j - 1) (by omega)
    have hx := hm (j - 1) (by omega)
    rw [show j - 1 + 1 = j by omega] at hx
    rw [t_le] at h1 e
    have s0 : (hum - x j).toInt = 0 := by rw [t_sub (by omega) (by omega)]; omega
    have s1 : (hum - x (j - 1)).toInt = hum.toInt - (x (j - 1)).toInt := t_sub (by omega) (by omega)
    have s2 : (x j - x (j - 1)).toInt = (x j).toInt - (x (j - 1)).toInt := t_sub (by omega) (by omega)
    rw [q_line_0 _ _ _ s0, q_line_1 (by omega) hx.2 (by omega) (by omega) (by omega) (by omega)]
  · have e2 : hum ≤ x (j + 1) := by rw [t_le]; rw [t_lt] at h2; omega
    rw [q_ct_seg (Nat.succ_pos j) hj (fun k hk => by
      by_cases q : k = j
      · subst q; exact e
      · exact lo k (by omega)) e2]
    rfl
theorem m_content {Z : m_Z} {S : m_S} {m pa k n : Nat} {x y : Nat → Int32} {hum : Int32} (g : m_ok Z m 9) (r1 : S.2.2 m 1 = some pa) (gp : m_okn Z pa 11 116) (hk : k < 4) (hn : S.1 pa (55 + 14 * k) = Int32.ofNat n) (hx : ∀ j, S.1 pa (56 + 14 * k + 2 * j) = x j) (hy : ∀ j, S.1 pa (57 + 14 * k + 2 * j) = y j) (hi : q_iso x y n) : f_X9_contentOf Z S m (Int32.ofNat k) hum = some (q_ct x y n hum) := by
  obtain ⟨⟨n2, n6⟩, hb, hm⟩ := id hi
  have inn : ∀ i, i < 116 → m_in (Int32.ofNat i) (Z.2.2 pa) := fun i h => io_in (by omega) (by rw [gp.2]; exact h)
  have e1 : ((54 : Int32) + (14 : Int32) * Int32.ofNat k) + (2 : Int32) = Int32.ofNat (56 + 14 * k) := by
    show Int32.ofNat 54 + Int32.ofNat 14 * Int32.ofNat k + Int32.ofNat 2 = _
    rw [io_mul, io_add, io_add]; exact congrArg _ (by omega)
  have e2 : Int32.ofNat (56 + 14 * k) - (1 : Int32) = Int32.ofNat (55 + 14 * k) := by
    show Int32.ofNat (56 + 14 * k) - Int32.ofNat 1 = _
    rw [io_sub (by omega)]; exact congrArg _ (by omega)
  have e3 : Int32.ofNat (56 + 14 * k) + (2 : Int32) * Int32.ofNat n - (2 : Int32) = Int32.ofNat (54 + 14 * k + 2 * n) := by
    show Int32.ofNat (56 + 14 * k) + Int32.ofNat 2 * Int32.ofNat n - Int32.ofNat 2 = _
    rw [io_mul, io_add, io_sub (by omega)]; exact congrArg _ (by omega)
  have tn : ∀ i, i < 116 → (Int32.ofNat i).toNatClampNeg = i := fun i h => io_tn (by omega)
  have x0 : S.1 pa (56 + 14 * k) = x 0 := hx 0
  have y0 : S.1 pa (56 + 14 * k + 1) = y 0 := by rw [← hy 0]; exact congrArg _ (by omega)
  have xl : S.1 pa (54 + 14 * k + 2 * n) = x (n - 1) := by rw [← hx (n - 1)]; exact congrArg _ (by omega)
  have yl : S.1 pa (54 + 14 * k + 2 * n + 1) = y (n - 1) := by rw [← hy (n - 1)]; exact congrArg _ (by omega)
  have xs : ∀ j, S.1 pa (56 + 14 * k + 2 * j + 2) = x (j + 1) := fun j => by rw [← hx (j + 1)]; exact congrArg _ (by omega)
  have ys : ∀ j, S.1 pa (56 + 14 * k + 2 * j + 1) = y j := fun j => by rw [← hy j]; exact congrArg _ (by omega)
  have yt : ∀ j, S.1 pa (56 + 14 * k + 2 * j + 3) = y (j + 1) := fun j => by rw [← hy (j + 1)]; exact congrArg _ (by omega)
  unfold f_X9_contentOf
  rw [m_lt_s, m_gd_t g, r1, m_b1_s, m_gd_t gp.1, m_lt_s, e1, e2, m_gd_t (inn _ (by omega)), m_lt_s]
  simp only [tn (55 + 14 * k) (by omega), tn (56 + 14 * k) (by omega), hn, e3, x0]
  rw [m_gd_t (inn _ (by omega))]
  by_cases h0 : hum ≤ x 0
  · rw [if_neg (Int32.not_lt.mpr h0), m_lt_s, io_one, m_gd_t (inn _ (by omega)), tn _ (by omega), y0]
    unfold q_ct
    rw [if_pos h0]
  · rw [if_pos (Int32.not_le.mp h0), m_gd_t (inn _ (by omega))]
    simp only [tn (54 + 14 * k + 2 * n) (by omega), xl]
    by_cases h9 : hum < x (n - 1)
    · rw [if_pos h9, m_jp_s]
      have key : ∀ (j33 : Int32 → Option Int32), (∀ j : Nat, j + 1 < n → x j ≤ hum → hum < x (j + 1) → j33 (Int32.ofNat (56 + 14 * k + 2 * j)) = some (q_ct x y n hum)) → ∀ (d j fuel : Nat), d + j + 1 = n → d < fuel → x j ≤ hum → m_fx (F_X9_contentOf_69 Z S m hum j33) fuel (Int32.ofNat (56 + 14 * k + 2 * j)) = some (q_ct x y n hum) := by
        intro j33 e33 d
        induction d with
        | zero =>
          intro j fuel h1 h4 h5
          have : j = n - 1 := by omega
          subst this
          exact absurd h5 (Int32.not_le.mpr h9)
        | succ d ih =>
          intro j fuel h1 h4 h5
          obtain ⟨f, rfl⟩ : ∃ f, fuel = f + 1 := ⟨fuel - 1, by omega⟩
          rw [m_fx_s]
          generalize hlp : m_fx (F_X9_contentOf_69 Z S m hum j33) f = lp
          unfold F_X9_contentOf_69
          rw [r1, m_b1_s, m_gd_t gp.1, m_lt_s, io_two, m_gd_t (inn _ (by omega))]
          simp only [tn (56 + 14 * k + 2 * j + 2) (by omega), xs]
          by_cases h6 : hum < x (j + 1)
          · rw [if_pos h6]
            exact e33 j (by omega) h5 h6
          · rw [if_neg h6, m_lt_s, ← hlp]
            exact ih (j + 1) f (by omega) (by omega) (Int32.not_lt.mp h6)
      refine key _ ?_ (n - 1) 0 100000 (by omega) (by omega) (Int32.le_of_lt (Int32.not_le.mp h0))
      intro j hj h1 h2
      have hxj := hm j hj
      have b1 := hb j (by omega)
      have b2 := hb (j + 1) hj
      have es : (x (j + 1) - x j).toInt = (x (j + 1)).toInt - (x j).toInt := t_sub (by omega) (by omega)
      have p2 : ¬ x (j + 1) - x j = 0 := fun h => by have := t_eq.mp h; rw [es] at this; have : (0 : Int32).toInt = 0 := rfl; omega
      rw [m_b1_s, m_gd_t gp.1, m_lt_s, io_one, m_gd_t (inn _ (by omega)), m_lt_s, io_three, m_gd_t (inn _ (by omega)), m_gd_t (inn _ (by omega)), m_lt_s, io_two, m_gd_t (inn _ (by omega)), m_gd_t (inn _ (by omega)), tn _ (by omega), tn _ (by omega), tn _ (by omega), tn _ (by omega), xs, ys, yt, hx]
      unfold f_X9_line
      rw [m_gd_t p2, m_b1_s, q_ct_between hi h0 hj h1 h2]
      rfl
    · rw [if_neg h9, m_lt_s, io_one, m_gd_t (inn _ (by omega)), tn _ (by omega), yl]
      have hge : x (n - 1) ≤ hum := Int32.not_lt.mp h9
      have lo : ∀ j, j < n - 1 → ¬ hum ≤ x j := fun j hj h => by
        have := hi.lt2 hj (by omega)
        rw [t_le] at h hge
        omega
      congr 1
      by_cases e : hum ≤ x (n - 1)
      · rw [q_ct_seg (by omega) (by omega) lo e]
        have hxj := hm (n - 1 - 1) (by omega)
        rw [show n - 1 - 1 + 1 = n - 1 by omega] at hxj
        have b1 := hb (n - 1) (by omega)
        have b2 := hb (n - 1 - 1) (by omega)
        rw [t_le] at hge e
        refine (q_line_1 (by omega) hxj.2 (by omega) ?_ ?_ ?_).symm
        · rw [t_sub (by omega) (by omega), t_sub (by omega) (by omega)]; omega
        · rw [t_sub (by omega) (by omega)]; omega
        · rw [t_sub (by omega) (by omega)]; omega
      · exact (q_ct_last (by omega) (fun j hj => by
          by_cases q : j = n - 1
          · subst q; exact e
          · exact lo j (by omega))).symm
