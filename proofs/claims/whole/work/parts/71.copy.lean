/-! the class's copies -/
def q_cpd (v w n : Nat) (S U : m_S) : Prop := (∀ k, k < 6 → U.1 v k = S.1 w k) ∧ (∀ i, i < n → (∀ k, k < 4 → k ≠ 1 → U.1 (v + 2 + i) k = S.1 (w + 2 + i) k) ∧ U.2.2 (v + 2 + i) 1 = S.2.2 (w + 2 + i) 1) ∧ q_ag (fun b k => ¬ (v ≤ b ∧ b < v + 8)) S U ∧ (∀ b j, ¬ (v + 2 ≤ b ∧ b < v + 8) → U.2.2 b j = S.2.2 b j) ∧ U.2.1 = S.2.1
theorem g_copyV {Z : m_Z} {S : m_S} {v w n : Nat} (g : q_V Z S.2.2 v) (gw : q_V Z S.2.2 w) (hn : S.1 w 5 = Int32.ofNat n) (n6 : n ≤ 6) (hap : v + 8 ≤ w ∨ w + 8 ≤ v) (hkind : ∀ j, j < n → ∃ d, S.2.2 (w + 2 + j) 1 = some d) : ∃ S', f_X7_copyFrom Z S v w = some ((), S') ∧ q_cpd v w n S S' := by
  unfold f_X7_copyFrom
  rw [m_gd_t gw.1, m_gd_t g.1, m_lt_s, m_lt_s, m_lt_s, m_lt_s, m_lt_s, m_lt_s]
  obtain ⟨S1, hS1⟩ : ∃ y, y = m_pI S v 0 (S.1 w 0) := ⟨_, rfl⟩
  obtain ⟨S2, hS2⟩ : ∃ y, y = m_pI S1 v 1 (S1.1 w 1) := ⟨_, rfl⟩
  obtain ⟨S3, hS3⟩ : ∃ y, y = m_pI S2 v 2 (S2.1 w 2) := ⟨_, rfl⟩
  obtain ⟨S4, hS4⟩ : ∃ y, y = m_pI S3 v 3 (S3.1 w 3) := ⟨_, rfl⟩
  obtain ⟨S5, hS5⟩ : ∃ y, y = m_pI S4 v 4 (S4.1 w 4) := ⟨_, rfl⟩
  obtain ⟨S6, hS6⟩ : ∃ y, y = m_pI S5 v 5 (S5.1 w 5) := ⟨_, rfl⟩
  rw [← hS1, ← hS2, ← hS3, ← hS4, ← hS5, ← hS6]
  have w1 : ∀ k, S1.1 w k = S.1 w k := fun k => by rw [hS1, pI_ne (by omega)]
  have w2 : ∀ k, S2.1 w k = S.1 w k := fun k => by rw [hS2, pI_ne (by omega)]; exact w1 k
  have w3 : ∀ k, S3.1 w k = S.1 w k := fun k => by rw [hS3, pI_ne (by omega)]; exact w2 k
  have w4 : ∀ k, S4.1 w k = S.1 w k := fun k => by rw [hS4, pI_ne (by omega)]; exact w3 k
  have w5 : ∀ k, S5.1 w k = S.1 w k := fun k => by rw [hS5, pI_ne (by omega)]; exact w4 k
  have c0 : ∀ k, k < 6 → S6.1 v k = S.1 w k := by
    intro k hk
    have : k = 0 ∨ k = 1 ∨ k = 2 ∨ k = 3 ∨ k = 4 ∨ k = 5 := by omega
    rcases this with rfl | rfl | rfl | rfl | rfl | rfl
    · rw [hS6, pI_ne (by omega), hS5, pI_ne (by omega), hS4, pI_ne (by omega), hS3, pI_ne (by omega), hS2, pI_ne (by omega), hS1, pI_same]
    · rw [hS6, pI_ne (by omega), hS5, pI_ne (by omega), hS4, pI_ne (by omega), hS3, pI_ne (by omega), hS2, pI_same]; exact w1 1
    · rw [hS6, pI_ne (by omega), hS5, pI_ne (by omega), hS4, pI_ne (by omega), hS3, pI_same]; exact w2 2
    · rw [hS6, pI_ne (by omega), hS5, pI_ne (by omega), hS4, pI_same]; exact w3 3
    · rw [hS6, pI_ne (by omega), hS5, pI_same]; exact w4 4
    · rw [hS6, pI_same]; exact w5 5
  have a0 : ∀ b k, b ≠ v → S6.1 b k = S.1 b k := fun b k hb => by rw [hS6, pI_ne (by omega), hS5, pI_ne (by omega), hS4, pI_ne (by omega), hS3, pI_ne (by omega), hS2, pI_ne (by omega), hS1, pI_ne (by omega)]
  have r0 : S6.2 = S.2 := by rw [hS6, hS5, hS4, hS3, hS2, hS1]; rfl
  obtain ⟨U, hU, hr⟩ := q_loop0 (F := F_X7_copyFrom_50 Z v w (fun (S15 : m_S) => some ((), S15))) (j := fun (S15 : m_S) => some ((), S15)) (N := n) (fun i U => (∀ j, j < i → (∀ k, k < 4 → k ≠ 1 → U.1 (v + 2 + j) k = S.1 (w + 2 + j) k) ∧ U.2.2 (v + 2 + j) 1 = S.2.2 (w + 2 + j) 1) ∧ q_ag (fun b k => ¬ (v + 2 ≤ b ∧ b < v + 8)) S6 U ∧ U.2.1 = S.2.1) (by omega) (fun i U hi hI => by
      obtain ⟨h1, h2, h3⟩ := hI
      have gU : q_V Z U.2.2 v := q_V_cgr g (fun b j hb => by rw [(h2 b j (by omega)).2.2, r0])
      have gwU : q_V Z U.2.2 w := q_V_cgr gw (fun b j hb => by rw [(h2 b j (by omega)).2.2, r0])
      obtain ⟨d, hd⟩ := hkind i hi
      have hdU : U.2.2 (w + 2 + i) 1 = some d := by rw [(h2 _ _ (by omega)).2.2, r0]; exact hd
      have hc := q_cpc_c (S := U) (a := v + 2 + i) (b := w + 2 + i) (by omega)
      have ha := q_cpc_ag U (v + 2 + i) (w + 2 + i)
      refine ⟨q_cpc U (v + 2 + i) (w + 2 + i), ⟨fun j hj => ⟨fun k hk hk1 => ?_, ?_⟩, q_ag_trans h2 (fun b k hb => ha b k (by omega)), ?_⟩, fun lp => ?_⟩
      · by_cases e : j = i
        · subst e
          rw [hc.1 k hk hk1, (h2 _ _ (by omega)).1, a0 _ _ (by omega)]
        · rw [(ha _ _ (by omega)).1]; exact (h1 j (by omega)).1 k hk hk1
      · by_cases e : j = i
        · subst e
          rw [hc.2.2, hdU, hd]
        · rw [(ha _ _ (by omega)).2.2]; exact (h1 j (by omega)).2
      · rw [← h3]; rfl
      · unfold F_X7_copyFrom_50
        simp only [io_tn (show i < 2147483648 by omega)]
        have e5 : U.1 v 5 = Int32.ofNat n := by rw [(h2 _ _ (by omega)).1, c0 5 (by omega)]; exact hn
        rw [if_neg (show ¬ U.1 v 5 ≤ Int32.ofNat i from by rw [e5]; exact fun q => absurd ((io_le (by omega) (by omega)).mp q) (by omega)), gU.2.1.1, m_b1_s, m_gd_t gU.2.1.2.1, if_neg (show ¬ Int32.ofNat (Z.2.2 (v + 1)) ≤ Int32.ofNat i from by rw [gU.2.1.2.2]; exact fun q => absurd ((io_le (by omega) (by omega)).mp q) (by omega)), m_gd_t (q_inn gU.2.1.2 (by omega) (by omega)), (gU.2.2 i (by omega)).1, m_b1_s, gwU.2.1.1, m_b1_s, m_gd_t gwU.2.1.2.1, m_gd_t (q_inn gwU.2.1.2 (by omega) (by omega)), (gwU.2.2 i (by omega)).1, m_b1_s, m_gd_t (gU.2.2 i (by omega)).2, g_copyC (gU.2.2 i (by omega)).2 (gwU.2.2 i (by omega)).2 hdU (by omega), m_bw_s, m_lt_s, io_one])
    (fun U hI lp => by
      obtain ⟨h1, h2, h3⟩ := hI
      have e5 : U.1 v 5 = Int32.ofNat n := by rw [(h2 _ _ (by omega)).1, c0 5 (by omega)]; exact hn
      unfold F_X7_copyFrom_50
      simp only []
      rw [if_pos (show U.1 v 5 ≤ Int32.ofNat n from by rw [e5]; exact Int32.le_refl _)]) S6 ⟨fun j hj => absurd hj (Nat.not_lt_zero _), q_ag_refl _ _, by rw [r0]⟩
  obtain ⟨h1, h2, h3⟩ := hU
  refine ⟨U, ?_, fun k hk => ?_, h1, fun b k hb => ⟨?_, ?_, ?_⟩, fun b j hb => ?_, h3⟩
  · rw [m_jp_s]; exact hr
  · rw [(h2 _ _ (by omega)).1]; exact c0 k hk
  · rw [(h2 _ _ (by omega)).1]; exact a0 _ _ (by omega)
  · rw [h3]
  · rw [(h2 _ _ (by omega)).2.2, r0]
  · rw [(h2 _ _ hb).2.2, r0]
/-- a room's -/
theorem g_copyR {Z : m_Z} {S : m_S} {r s : Nat} (g : m_ok Z r 4) (gs : m_ok Z s 4) (hne : r ≠ s) : ∃ S', f_X4_copyFrom Z S r s = some ((), S') ∧ (∀ k, k < 3 → S'.1 r k = S.1 s k) ∧ (∀ b k, b ≠ r → S'.1 b k = S.1 b k) ∧ S'.2 = S.2 := by
  unfold f_X4_copyFrom
  rw [m_gd_t gs, m_gd_t g, m_lt_s, m_lt_s, m_lt_s]
  refine ⟨_, rfl, fun k hk => ?_, fun b k hb => ?_, rfl⟩
  · have : k = 0 ∨ k = 1 ∨ k = 2 := by omega
    rcases this with rfl | rfl | rfl
    · rw [pI_ne (by omega), pI_ne (by omega), pI_same]
    · rw [pI_ne (by omega), pI_same, pI_ne (by omega)]
    · rw [pI_same, pI_ne (by omega), pI_ne (by omega)]
  · rw [pI_ne (by omega), pI_ne (by omega), pI_ne (by omega)]
/-- a logbook's -/
theorem g_copyL {Z : m_Z} {S : m_S} {l s : Nat} (g : q_G Z S.2.2 l) (gs : q_G Z S.2.2 s) (hap : l + 2 ≤ s ∨ s + 2 ≤ l) : ∃ S', f_X2_copyFrom Z S l s = some ((), S') ∧ (∀ k, k < 8 → ¬ (k = 4 ∨ k = 5 ∨ k = 6) → S'.2.1 l k = S.2.1 s k) ∧ (∀ k, 4 ≤ k → k < 7 → S'.1 l k = S.1 s k) ∧ (∀ j, j < 24 → S'.1 (l + 1) j = S.1 (s + 1) j) ∧ q_ag (fun b _ => ¬ (l ≤ b ∧ b < l + 2)) S S' ∧ S'.2.2 = S.2.2 := by
  unfold f_X2_copyFrom
  rw [m_gd_t gs.1, m_gd_t g.1, m_lt_s, m_lt_s, m_lt_s, m_lt_s, m_lt_s, m_lt_s, m_lt_s, m_lt_s]
  obtain ⟨S1, hS1⟩ : ∃ y, y = m_pJ S l 0 (S.2.1 s 0) := ⟨_, rfl⟩
  obtain ⟨S2, hS2⟩ : ∃ y, y = m_pJ S1 l 1 (S1.2.1 s 1) := ⟨_, rfl⟩
  obtain ⟨S3, hS3⟩ : ∃ y, y = m_pJ S2 l 2 (S2.2.1 s 2) := ⟨_, rfl⟩
  obtain ⟨S4, hS4⟩ : ∃ y, y = m_pJ S3 l 3 (S3.2.1 s 3) := ⟨_, rfl⟩
  obtain ⟨S5, hS5⟩ : ∃ y, y = m_pI S4 l 4 (S4.1 s 4) := ⟨_, rfl⟩
  obtain ⟨S6, hS6⟩ : ∃ y, y = m_pI S5 l 5 (S5.1 s 5) := ⟨_, rfl⟩
  obtain ⟨S7, hS7⟩ : ∃ y, y = m_pI S6 l 6 (S6.1 s 6) := ⟨_, rfl⟩
  obtain ⟨S8, hS8⟩ : ∃ y, y = m_pJ S7 l 7 (S7.2.1 s 7) := ⟨_, rfl⟩
  rw [← hS1, ← hS2, ← hS3, ← hS4, ← hS5, ← hS6, ← hS7, ← hS8]
  have r8 : S8.2.2 = S.2.2 := by rw [hS8, hS7, hS6, hS5, hS4, hS3, hS2, hS1]; rfl
  have i4 : S4.1 = S.1 := by rw [hS4, hS3, hS2, hS1]; rfl
  have i8 : ∀ b k, S8.1 b k = if b = l ∧ k = 6 then S6.1 s 6 else if b = l ∧ k = 5 then S5.1 s 5 else if b = l ∧ k = 4 then S4.1 s 4 else S.1 b k := fun b k => by rw [hS8, hS7]; show (if _ then _ else S6.1 b k) = _; rw [hS6]; show (if _ then _ else if _ then _ else S5.1 b k) = _; rw [hS5]; show (if _ then _ else if _ then _ else if _ then _ else S4.1 b k) = _; rw [i4]
  have s4 : S4.1 s 4 = S.1 s 4 := by rw [i4]
  have s5 : S5.1 s 5 = S.1 s 5 := by rw [hS5, pI_ne (by omega), i4]
  have s6 : S6.1 s 6 = S.1 s 6 := by rw [hS6, pI_ne (by omega), hS5, pI_ne (by omega), i4]
  have j7 : S7.2.1 = S4.2.1 := by rw [hS7, hS6, hS5]; rfl
  have j8 : ∀ b k, S8.2.1 b k = if b = l ∧ k = 7 then S7.2.1 s 7 else if b = l ∧ k = 3 then S3.2.1 s 3 else if b = l ∧ k = 2 then S2.2.1 s 2 else if b = l ∧ k = 1 then S1.2.1 s 1 else if b = l ∧ k = 0 then S.2.1 s 0 else S.2.1 b k := fun b k => by rw [hS8]; show (if _ then _ else S7.2.1 b k) = _; rw [j7, hS4]; show (if _ then _ else if _ then _ else S3.2.1 b k) = _; rw [hS3]; show (if _ then _ else if _ then _ else if _ then _ else S2.2.1 b k) = _; rw [hS2]; show (if _ then _ else if _ then _ else if _ then _ else if _ then _ else S1.2.1 b k) = _; rw [hS1]; rfl
  have t1 : S1.2.1 s 1 = S.2.1 s 1 := by rw [hS1, pJ_ne (by omega)]
  have t2 : S2.2.1 s 2 = S.2.1 s 2 := by rw [hS2, pJ_ne (by omega), hS1, pJ_ne (by omega)]
  have t3 : S3.2.1 s 3 = S.2.1 s 3 := by rw [hS3, pJ_ne (by omega), hS2, pJ_ne (by omega), hS1, pJ_ne (by omega)]
  have t7 : S7.2.1 s 7 = S.2.1 s 7 := by rw [j7, hS4, pJ_ne (by omega), hS3, pJ_ne (by omega), hS2, pJ_ne (by omega), hS1, pJ_ne (by omega)]
  have gd9 : ((¬ (0 : Int32) < 0) ∧ ¬ (0 : Int32) < 0) ∧ (¬ (24 : Int32) < 0) ∧ (0 : Int32).toNatClampNeg + (24 : Int32).toNatClampNeg ≤ Z.2.2 (s + 1) ∧ (0 : Int32).toNatClampNeg + (24 : Int32).toNatClampNeg ≤ Z.2.2 (l + 1) := by
    rw [gs.2.2.2, g.2.2.2]; decide
  rw [r8, gs.2.1, m_b1_s, g.2.1, m_b1_s, m_gd_t gs.2.2.1, m_gd_t g.2.2.1, m_gd_t gd9, m_lt_s]
  obtain ⟨S9, hS9⟩ : ∃ y, y = m_cp S8 (s + 1) (0 : Int32).toNatClampNeg (l + 1) (0 : Int32).toNatClampNeg (24 : Int32).toNatClampNeg := ⟨_, rfl⟩
  have i9 : ∀ b k, S9.1 b k = if b = l + 1 ∧ 0 ≤ k ∧ k < 0 + 24 then S8.1 (s + 1) (0 + (k - 0)) else S8.1 b k := fun b k => by rw [hS9]; rfl
  have j9 : S9.2 = S8.2 := by rw [hS9]; rfl
  rw [← hS9]
  refine ⟨S9, rfl, fun k hk hk2 => ?_, fun k hk hk2 => ?_, fun j hj => ?_, fun b k hb => ⟨?_, ?_, ?_⟩, ?_⟩
  · rw [j9, j8]
    have : k = 0 ∨ k = 1 ∨ k = 2 ∨ k = 3 ∨ k = 7 := by omega
    rcases this with rfl | rfl | rfl | rfl | rfl
    · rw [if_neg (by omega), if_neg (by omega), if_neg (by omega), if_neg (by omega), if_pos ⟨rfl, rfl⟩]
    · rw [if_neg (by omega), if_neg (by omega), if_neg (by omega), if_pos ⟨rfl, rfl⟩, t1]
    · rw [if_neg (by omega), if_neg (by omega), if_pos ⟨rfl, rfl⟩, t2]
    · rw [if_neg (by omega), if_pos ⟨rfl, rfl⟩, t3]
    · rw [if_pos ⟨rfl, rfl⟩, t7]
  · rw [i9, if_neg (by omega), i8]
    have : k = 4 ∨ k = 5 ∨ k = 6 := by omega
    rcases this with rfl | rfl | rfl
    · rw [if_neg (by omega), if_neg (by omega), if_pos ⟨rfl, rfl⟩, s4]
    · rw [if_neg (by omega), if_pos ⟨rfl, rfl⟩, s5]
    · rw [if_pos ⟨rfl, rfl⟩, s6]
  · rw [i9, if_pos (by omega), i8, if_neg (by omega), if_neg (by omega), if_neg (by omega)]
    exact congrArg (S.1 (s + 1)) (by omega)
  · rw [i9, if_neg (by omega), i8, if_neg (by omega), if_neg (by omega), if_neg (by omega)]
  · rw [j9, j8, if_neg (by omega), if_neg (by omega), if_neg (by omega), if_neg (by omega), if_neg (by omega)]
  · rw [j9, r8]
  · rw [j9, r8]
