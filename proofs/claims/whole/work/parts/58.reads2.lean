/-! records, means -/
theorem g_anHour {Z : m_Z} {x m N pb ns nk nc : Nat} {S T : m_S} (h : q_Rel Z x m N pb ns nk nc S T) : f_X8_requireAnHour Z S x = some (if (1 : Int32) ≤ S.1 (x + 138) 0 then .ok () else .error "java/util/NoSuchElementException") := by
  unfold f_X8_requireAnHour
  rw [m_gd_t h.ox, h.r3, m_b1_s, m_gd_t h.o137, h.r137, m_b1_s, m_gd_t h.o138]
  split <;> rfl
theorem e_recOf {Z : m_Z} {T : m_S} {m c t k : Nat} (h : q_M Z T.2.2 m) (hc : c < 6) (ht : T.1 (m + 3) 0 = Int32.ofNat t) (t9 : t < 2147483648) (hk : k < t) : f_X9_recordOf Z T m (Int32.ofNat c) (Int32.ofNat k) = some (T.1 (m + 3) (36 + 56 * c + (t - 1 - k) % 24)) := by
  have e1 : Int32.ofNat t - (1 : Int32) - Int32.ofNat k = Int32.ofNat (t - 1 - k) := by
    show Int32.ofNat t - Int32.ofNat 1 - Int32.ofNat k = _
    rw [io_sub (by omega), io_sub (by omega)]
  unfold f_X9_recordOf
  rw [m_gd_t h.o, h.a.1, m_b1_s, m_gd_t h.a.2.1, m_gd_t (q_inl (wi := 0) (i := 0) rfl h.a.2 (by omega) (by omega)), tn0, ht, e1, io_mod24 (by omega), e_of (wi := (32 : Int32) + Int32.ofNat ((t - 1 - k) % 24)) (w := 32 + (t - 1 - k) % 24) h (io_add 32 _) hc (by omega), m_b1_s]
  exact congrArg (fun q => some (T.1 (m + 3) q)) (by omega)
theorem g_recOf {Z : m_Z} {S : m_S} {l t k : Nat} (g : q_G Z S.2.2 l) (t9 : t < 2147483648) (hk : k < t) : f_X2_recordOf Z S l (Int32.ofNat t - (1 : Int32) - Int32.ofNat k) = some (S.1 (l + 1) ((t - 1 - k) % 24)) := by
  have e1 : Int32.ofNat t - (1 : Int32) - Int32.ofNat k = Int32.ofNat (t - 1 - k) := by
    show Int32.ofNat t - Int32.ofNat 1 - Int32.ofNat k = _
    rw [io_sub (by omega), io_sub (by omega)]
  unfold f_X2_recordOf
  rw [e1, if_pos (t_le.mpr (by rw [t_ofNat (by omega), i32_0]; omega)), m_gd_t g.1, g.2.1, m_b1_s, m_gd_t g.2.2.1, m_lt_s, io_mod24 (by omega), m_gd_t (q_inn g.2.2 (by omega) (by omega)), io_tn (by omega)]
/-- least and greatest of the first n -/
def q_mm (g : Nat → Int32) (n : Nat) (lo hi : Int32) : Prop := (∀ i, i < n → lo ≤ g i ∧ g i ≤ hi) ∧ (∃ i, i < n ∧ g i = lo) ∧ ∃ i, i < n ∧ g i = hi
theorem q_mm_one (g : Nat → Int32) : q_mm g 1 (g 0) (g 0) := ⟨fun i hi => by have : i = 0 := by omega
                                                                             subst this; exact ⟨Int32.le_refl _, Int32.le_refl _⟩, ⟨0, by omega, rfl⟩, ⟨0, by omega, rfl⟩⟩
theorem q_mm_step {g : Nat → Int32} {n : Nat} {lo hi : Int32} (h : q_mm g n lo hi) : q_mm g (n + 1) (if lo ≤ g n then lo else g n) (if g n ≤ hi then hi else g n) := by
  obtain ⟨h1, ⟨i, hi1, hi2⟩, ⟨j, hj1, hj2⟩⟩ := h
  refine ⟨fun k hk => ⟨?_, ?_⟩, ?_, ?_⟩
  · by_cases q : k = n
    · subst q; split
      · assumption
      · exact Int32.le_refl _
    · have := (h1 k (by omega)).1
      split
      · exact this
      · rename_i q2
        rw [t_le] at this q2 ⊢; omega
  · by_cases q : k = n
    · subst q; split
      · assumption
      · exact Int32.le_refl _
    · have := (h1 k (by omega)).2
      split
      · exact this
      · rename_i q2
        rw [t_le] at this q2 ⊢; omega
  · split
    · exact ⟨i, by omega, hi2⟩
    · exact ⟨n, by omega, rfl⟩
  · split
    · exact ⟨j, by omega, hj2⟩
    · exact ⟨n, by omega, rfl⟩
theorem q_mm_eq {g g' : Nat → Int32} {n : Nat} {lo hi lo' hi' : Int32} (h : q_mm g n lo hi) (h' : q_mm g' n lo' hi') (e1 : ∀ i, i < n → ∃ k, k < n ∧ g i = g' k) (e2 : ∀ k, k < n → ∃ i, i < n ∧ g' k = g i) : hi - lo = hi' - lo' := by
  obtain ⟨h1, ⟨i, i1, i2⟩, ⟨j, j1, j2⟩⟩ := h
  obtain ⟨h1', ⟨i', i1', i2'⟩, ⟨j', j1', j2'⟩⟩ := h'
  have elo : lo = lo' := by
    obtain ⟨k, k1, k2⟩ := e1 i i1
    obtain ⟨k', k1', k2'⟩ := e2 i' i1'
    have a1 := (h1' k k1).1
    have a2 := (h1 k' k1').1
    rw [← k2, i2] at a1
    rw [← k2', i2'] at a2
    exact Int32.le_antisymm a2 a1
  have ehi : hi = hi' := by
    obtain ⟨k, k1, k2⟩ := e1 j j1
    obtain ⟨k', k1', k2'⟩ := e2 j' j1'
    have a1 := (h1' k k1).2
    have a2 := (h1 k' k1').2
    rw [← k2, j2] at a1
    rw [← k2', j2'] at a2
    exact Int32.le_antisymm a1 a2
  rw [elo, ehi]
theorem g_swing {Z : m_Z} {S : m_S} {l t : Nat} (g : q_G Z S.2.2 l) (t9 : t < 2147483648) (t1 : 1 ≤ t) : ∃ lo hi, f_X2_swingAt Z S l (Int32.ofNat t) = some (hi - lo) ∧ q_mm (S.1 (l + 1)) (if t < 24 then t else 24) lo hi := by
  unfold f_X2_swingAt
  rw [m_gd_t g.1, g.2.1, m_b1_s, m_gd_t g.2.2.1, m_gd_t (q_inl (wi := 0) (i := 0) rfl g.2.2 (by omega) (by omega)), m_gd_t (q_inl (wi := 0) (i := 0) rfl g.2.2 (by omega) (by omega)), tn0]
  obtain ⟨n, hn⟩ : ∃ n, n = if t < 24 then t else 24 := ⟨_, rfl⟩
  rw [← hn]
  have n1 : 1 ≤ n := by rw [hn]; split <;> omega
  have nt : n ≤ t ∧ n ≤ 24 ∧ (n = t ∨ n = 24) := by rw [hn]; split <;> omega
  have key : ∀ (j9 : Int32 → Int32 → Option Int32) (d i fuel : Nat) (lo hi : Int32), d + i = n → d < fuel → 1 ≤ i → q_mm (S.1 (l + 1)) i lo hi → ∃ lo' hi', q_mm (S.1 (l + 1)) n lo' hi' ∧ m_fx (F_X2_swingAt_17 Z S l (Int32.ofNat t) j9) fuel (lo, hi, Int32.ofNat i) = j9 lo' hi' := by
    intro j9 d
    induction d with
    | zero =>
      intro i fuel lo hi h1 h2 h3 hm
      obtain ⟨f, rfl⟩ : ∃ f, fuel = f + 1 := ⟨fuel - 1, by omega⟩
      have : i = n := by omega
      subst this
      refine ⟨lo, hi, hm, ?_⟩
      rw [m_fx_s]
      unfold F_X2_swingAt_17
      simp only []
      by_cases q : Int32.ofNat t ≤ Int32.ofNat i
      · rw [if_pos q]
      · rw [if_neg q, g.2.1, m_b1_s, m_gd_t g.2.2.1, if_pos]
        rw [g.2.2.2]
        rw [io_le (by omega) (by omega)] at q ⊢
        omega
    | succ d ih =>
      intro i fuel lo hi h1 h2 h3 hm
      obtain ⟨f, rfl⟩ : ∃ f, fuel = f + 1 := ⟨fuel - 1, by omega⟩
      obtain ⟨lo', hi', hm', ih'⟩ := ih (i + 1) f _ _ (by omega) (by omega) (by omega) (q_mm_step hm)
      refine ⟨lo', hi', hm', ?_⟩
      rw [m_fx_s]
      generalize m_fx (F_X2_swingAt_17 Z S l (Int32.ofNat t) j9) f = lp at *
      unfold F_X2_swingAt_17
      simp only [io_tn (show i < 2147483648 by omega)]
      rw [if_neg (fun q => absurd ((io_le (by omega) (by omega)).mp q) (by omega)), g.2.1, m_b1_s, m_gd_t g.2.2.1, if_neg (show ¬ Int32.ofNat (Z.2.2 (l + 1)) ≤ Int32.ofNat i from by rw [g.2.2.2]; exact fun q => absurd ((io_le (by omega) (by omega)).mp q) (by omega))]
      have hin : m_in (Int32.ofNat i) 24 := io_in (by omega) (by omega)
      have hin2 : m_in (Int32.ofNat i) (Z.2.2 (l + 1)) := q_inn g.2.2 (by omega) (by omega)
      rw [m_gd_t hin2]
      by_cases q1 : lo ≤ S.1 (l + 1) i <;> by_cases q2 : S.1 (l + 1) i ≤ hi
      · simp only [if_pos q1, if_pos q2] at ih'
        simp only [m_jp_s, if_pos q1, if_pos q2, m_gd_t hin, m_gd_t hin2, g.2.1, m_b1_s, m_gd_t g.2.2.1, m_lt_s, io_one]
        exact ih'
      · simp only [if_pos q1, if_neg q2] at ih'
        simp only [m_jp_s, if_pos q1, if_neg q2, m_gd_t hin, m_gd_t hin2, g.2.1, m_b1_s, m_gd_t g.2.2.1, m_lt_s, io_one]
        exact ih'
      · simp only [if_neg q1, if_pos q2] at ih'
        simp only [m_jp_s, if_neg q1, if_pos q2, m_gd_t hin, m_gd_t hin2, g.2.1, m_b1_s, m_gd_t g.2.2.1, m_lt_s, io_one]
        exact ih'
      · simp only [if_neg q1, if_neg q2] at ih'
        simp only [m_jp_s, if_neg q1, if_neg q2, m_gd_t hin, m_gd_t hin2, g.2.1, m_b1_s, m_gd_t g.2.2.1, m_lt_s, io_one]
        exact ih'
  obtain ⟨lo, hi, h1, h2⟩ := key (fun (v7 : Int32) (v8 : Int32) => some (v8 - v7)) (n - 1) 1 100000 _ _ (by omega) (by omega) (by omega) (q_mm_one _)
  exact ⟨lo, hi, h2, h1⟩
theorem e_swing {Z : m_Z} {T : m_S} {m c t : Nat} (h : q_M Z T.2.2 m) (hc : c < 6) (ht : T.1 (m + 3) 0 = Int32.ofNat t) (t9 : t < 2147483648) (t1 : 1 ≤ t) (j24 : Int32 → Int32 → Option (Int32 × m_S)) : ∃ lo hi, m_fx (F_X9_swing_54 Z m (Int32.ofNat c) T j24) 100000 (T.1 (m + 3) (36 + 56 * c + (t - 1) % 24), T.1 (m + 3) (36 + 56 * c + (t - 1) % 24), (1 : Int32)) = j24 lo hi ∧ q_mm (fun k => T.1 (m + 3) (36 + 56 * c + (t - 1 - k) % 24)) (if t < 24 then t else 24) lo hi := by
  obtain ⟨n, hn⟩ : ∃ n, n = if t < 24 then t else 24 := ⟨_, rfl⟩
  rw [← hn]
  have n1 : 1 ≤ n := by rw [hn]; split <;> omega
  have nt : n ≤ t ∧ n ≤ 24 ∧ (n = t ∨ n = 24) := by rw [hn]; split <;> omega
  have k24 : ∀ i, i ≤ 24 → ((24 : Int32) ≤ Int32.ofNat i ↔ 24 ≤ i) := fun i hi => io_le (a := 24) (b := i) (by omega) (by omega)
  have key : ∀ (d i fuel : Nat) (lo hi : Int32), d + i = n → d < fuel → 1 ≤ i → q_mm (fun k => T.1 (m + 3) (36 + 56 * c + (t - 1 - k) % 24)) i lo hi → ∃ lo' hi', q_mm (fun k => T.1 (m + 3) (36 + 56 * c + (t - 1 - k) % 24)) n lo' hi' ∧ m_fx (F_X9_swing_54 Z m (Int32.ofNat c) T j24) fuel (lo, hi, Int32.ofNat i) = j24 lo' hi' := by
    intro d
    induction d with
    | zero =>
      intro i fuel lo hi h1 h2 h3 hm
      obtain ⟨f, rfl⟩ : ∃ f, fuel = f + 1 := ⟨fuel - 1, by omega⟩
      have : i = n := by omega
      subst this
      refine ⟨lo, hi, hm, ?_⟩
      rw [m_fx_s]
      unfold F_X9_swing_54
      simp only []
      by_cases q : (24 : Int32) ≤ Int32.ofNat i
      · rw [if_pos q]
      · rw [if_neg q, h.a.1, m_b1_s, m_gd_t h.a.2.1, m_gd_t (q_inl (wi := 0) (i := 0) rfl h.a.2 (by omega) (by omega)), if_pos]
        rw [k24 i (by omega)] at q
        rw [tn0, ht, io_le (by omega) (by omega)]
        omega
    | succ d ih =>
      intro i fuel lo hi h1 h2 h3 hm
      obtain ⟨f, rfl⟩ : ∃ f, fuel = f + 1 := ⟨fuel - 1, by omega⟩
      obtain ⟨lo', hi', hm', ih'⟩ := ih (i + 1) f _ _ (by omega) (by omega) (by omega) (q_mm_step hm)
      refine ⟨lo', hi', hm', ?_⟩
      rw [m_fx_s]
      generalize m_fx (F_X9_swing_54 Z m (Int32.ofNat c) T j24) f = lp at *
      unfold F_X9_swing_54
      simp only []
      rw [if_neg (fun q => absurd ((k24 i (by omega)).mp q) (by omega)), h.a.1, m_b1_s, m_gd_t h.a.2.1, m_gd_t (q_inl (wi := 0) (i := 0) rfl h.a.2 (by omega) (by omega)), if_neg (show ¬ T.1 (m + 3) (0 : Int32).toNatClampNeg ≤ Int32.ofNat i from by rw [tn0, ht]; exact fun q => absurd ((io_le (by omega) (by omega)).mp q) (by omega)), e_recOf h hc ht t9 (by omega), m_b1_s]
      generalize T.1 (m + 3) (36 + 56 * c + (t - 1 - i) % 24) = y at *
      by_cases q1 : lo ≤ y <;> by_cases q2 : y ≤ hi
      · simp only [if_pos q1, if_pos q2] at ih'
        simp only [m_jp_s, if_pos q1, if_pos q2, m_lt_s, io_one]
        exact ih'
      · simp only [if_pos q1, if_neg q2] at ih'
        simp only [m_jp_s, if_pos q1, if_neg q2, m_lt_s, io_one]
        exact ih'
      · simp only [if_neg q1, if_pos q2] at ih'
        simp only [m_jp_s, if_neg q1, if_pos q2, m_lt_s, io_one]
        exact ih'
      · simp only [if_neg q1, if_neg q2] at ih'
        simp only [m_jp_s, if_neg q1, if_neg q2, m_lt_s, io_one]
        exact ih'
  obtain ⟨lo, hi, h1, h2⟩ := key (n - 1) 1 100000 _ _ (by omega) (by omega) (by omega) (q_mm_one _)
  exact ⟨lo, hi, h2, h1⟩
section READS2
variable {Z : m_Z} {x m N pb ns nk nc : Nat} {S T : m_S}
theorem J_recorded (h : q_Rel Z x m N pb ns nk nc S T) (p q : Int32) : q_JR Z x m (N + 1) [("java/lang/IndexOutOfBoundsException", 1), ("java/lang/IllegalArgumentException", 2), ("java/util/NoSuchElementException", 3)] (fun a b => a = b) S T (f_X8_recorded Z S x p q) (f_X9_recorded Z T m p q) := by
  obtain ⟨T0, e0, z0, f0, h0⟩ := q_zero h
  have hM := h0.M
  have h6 := h0.nc6
  obtain ⟨cnt, t, t9, c5, hg, hser, hst⟩ := h0.sta
  have y0 : S.1 (x + 138) 0 = Int32.ofNat t := hst.1.1
  have y0' : T0.1 (m + 3) 0 = Int32.ofNat t := hst.1.2
  rcases q_cdec h0.cs p with ⟨c, hc, rfl⟩ | hp
  · have hcs := hst.2.2.2.2.2 c hc
    have hV := (h0.st.2.2.2.2 c (by omega)).2.2.1
    have hL := (h0.st.2.2.2.2 c (by omega)).2.2.2
    rw [show x + 137 + 4 + 10 * c = x + 141 + 10 * c by omega] at hcs hV hL
    rcases q_cdec (n := 24) (by omega) q with ⟨k, hk, rfl⟩ | hq
    · by_cases ck : k < t
      · refine q_JR_ok h0 f0 z0 (a := S.1 (x + 141 + 10 * c + 8 + 1) ((t - 1 - k) % 24)) (b := T0.1 (m + 3) (36 + 56 * c + (t - 1 - k) % 24)) ?_ ?_ (hcs.2.2.2.2.2.2 _ (by omega) (by omega))
        · unfold f_X8_recorded
          rw [m_gd_t h.ox, g_logAt h hc, m_bt_s, if_neg (io_nn hk (by omega)), if_pos (show Int32.ofNat k < 24 from (io_lt (b := 24) (by omega) (by omega)).mpr hk), h.r3, m_b1_s, m_gd_t h.o137, h.r137, m_b1_s, m_gd_t h.o138, if_pos (show Int32.ofNat k < S.1 (x + 138) 0 from by rw [y0]; exact (io_lt (by omega) (by omega)).mpr ck), y0, m_gd_t hL.1, g_recOf hL (by omega) ck, m_b1_s]
        · unfold f_X9_recorded
          rw [m_gd_t hM.o, m_lt_s, e0, e_isCase hM h0.n5 h0.cs, m_b1_s, e_may hM.o z0 z10, if_pos (q_yes hc (by omega)), if_neg z10, e_isInN (hi := 23) (n := 23) rfl (by omega), m_b1_s, e_may hM.o z0 z20, if_pos (q_yes hk (by omega)), if_neg z10, hM.a.1, m_b1_s, m_gd_t hM.a.2.1, m_gd_t (q_inl (wi := 0) (i := 0) rfl hM.a.2 (by omega) (by omega)), m_jp_if, e_mayN hM.o z0 z30, if_neg (show ¬ T0.1 (m + 3) (0 : Int32).toNatClampNeg ≤ Int32.ofNat k from by rw [tn0, y0']; exact fun z => absurd ((io_le (by omega) (by omega)).mp z) (by omega)), if_pos z10, e_recOf hM (by omega) y0' (by omega) ck, m_b1_s]
      · refine q_JR_er h0 f0 (s := "java/util/NoSuchElementException") (b := 0) (k := 3) ?_ ?_ (by simp)
        · unfold f_X8_recorded
          rw [m_gd_t h.ox, g_logAt h hc, m_bt_s, if_neg (io_nn hk (by omega)), if_pos (show Int32.ofNat k < 24 from (io_lt (b := 24) (by omega) (by omega)).mpr hk), h.r3, m_b1_s, m_gd_t h.o137, h.r137, m_b1_s, m_gd_t h.o138, if_neg (show ¬ Int32.ofNat k < S.1 (x + 138) 0 from by rw [y0]; exact fun z => ck ((io_lt (by omega) (by omega)).mp z))]
        · unfold f_X9_recorded
          rw [m_gd_t hM.o, m_lt_s, e0, e_isCase hM h0.n5 h0.cs, m_b1_s, e_may hM.o z0 z10, if_pos (q_yes hc (by omega)), if_neg z10, e_isInN (hi := 23) (n := 23) rfl (by omega), m_b1_s, e_may hM.o z0 z20, if_pos (q_yes hk (by omega)), if_neg z10, hM.a.1, m_b1_s, m_gd_t hM.a.2.1, m_gd_t (q_inl (wi := 0) (i := 0) rfl hM.a.2 (by omega) (by omega)), m_jp_if, e_mayN hM.o z0 z30, if_pos (show T0.1 (m + 3) (0 : Int32).toNatClampNeg ≤ Int32.ofNat k from by rw [tn0, y0']; exact (io_le (by omega) (by omega)).mpr (by omega)), if_neg nz0]
    · refine q_JR_er h0 f0 (s := "java/lang/IllegalArgumentException") (b := 0) (k := 2) ?_ ?_ (by simp)
      · unfold f_X8_recorded
        rw [m_gd_t h.ox, g_logAt h hc, m_bt_s]
        by_cases q1 : q < 0
        · rw [if_pos q1]
        · rw [if_neg q1, if_neg (show ¬ q < 24 from Int32.not_lt.mpr (hq.resolve_left q1))]
      · unfold f_X9_recorded
        rw [m_gd_t hM.o, m_lt_s, e0, e_isCase hM h0.n5 h0.cs, m_b1_s, e_may hM.o z0 z10, if_pos (q_yes hc (by omega)), if_neg z10, e_isInN (hi := 23) (n := 23) rfl (by omega), m_b1_s, e_may hM.o z0 z20, if_neg (q_no hq), if_pos z00]
  · refine q_JR_er h0 f0 (s := "java/lang/IndexOutOfBoundsException") (b := 0) (k := 1) ?_ ?_ (by simp)
    · unfold f_X8_recorded
      rw [m_gd_t h.ox, g_logNo h hp, m_bt_e]
    · unfold f_X9_recorded
      rw [m_gd_t hM.o, m_lt_s, e0, e_isCase hM h0.n5 h0.cs, m_b1_s, e_may hM.o z0 z10, if_neg (q_no hp), if_pos z00]
theorem J_swing (h : q_Rel Z x m N pb ns nk nc S T) (p : Int32) : q_JR Z x m (N + 1) [("java/lang/IndexOutOfBoundsException", 1), ("java/util/NoSuchElementException", 2)] (fun a b => a = b) S T (f_X8_swing Z S x p) (f_X9_swing Z T m p) := by
  obtain ⟨T0, e0, z0, f0, h0⟩ := q_zero h
  have hM := h0.M
  have h6 := h0.nc6
  obtain ⟨cnt, t, t9, c5, hg, hser, hst⟩ := h0.sta
  have y0 : S.1 (x + 138) 0 = Int32.ofNat t := hst.1.1
  have y0' : T0.1 (m + 3) 0 = Int32.ofNat t := hst.1.2
  rcases q_cdec h0.cs p with ⟨c, hc, rfl⟩ | hp
  · have hcs := hst.2.2.2.2.2 c hc
    have hV := (h0.st.2.2.2.2 c (by omega)).2.2.1
    have hL := (h0.st.2.2.2.2 c (by omega)).2.2.2
    rw [show x + 137 + 4 + 10 * c = x + 141 + 10 * c by omega] at hcs hV hL
    by_cases ct : 1 ≤ t
    · obtain ⟨lo, hi, g1, g2⟩ := g_swing hL (t := t) (by omega) ct
      obtain ⟨lo', hi', r1, r2⟩ := e_swing hM (c := c) (by omega) y0' (by omega) ct (fun (v22 : Int32) (v23 : Int32) => some ((v23 - v22), T0))
      refine q_JR_ok h0 f0 z0 (a := hi - lo) (b := hi' - lo') ?_ ?_ ?_
      · unfold f_X8_swing
        rw [m_gd_t h.ox, g_logAt h hc, m_bt_s, g_anHour h, if_pos (show (1 : Int32) ≤ S.1 (x + 138) 0 from by rw [y0]; exact (io_le (a := 1) (by omega) (by omega)).mpr ct), m_bt_s, h.r3, m_b1_s, m_gd_t h.o137, h.r137, m_b1_s, m_gd_t h.o138, m_gd_t hL.1, y0, g1, m_b1_s]
      · unfold f_X9_swing
        rw [m_gd_t hM.o, m_lt_s, e0, e_isCase hM h0.n5 h0.cs, m_b1_s, e_may hM.o z0 z10, if_pos (q_yes hc (by omega)), if_neg z10, hM.a.1, m_b1_s, m_gd_t hM.a.2.1, m_gd_t (q_inl (wi := 0) (i := 0) rfl hM.a.2 (by omega) (by omega)), m_jp_if, e_mayN hM.o z0 z20, if_neg (show ¬ T0.1 (m + 3) (0 : Int32).toNatClampNeg ≤ 0 from by rw [tn0, y0']; exact fun z => absurd ((io_le (b := 0) (by omega) (by omega)).mp z) (by omega)), if_pos z10, show (0 : Int32) = Int32.ofNat 0 from rfl, e_recOf hM (by omega) y0' (by omega) (by omega), m_b1_s, m_jp_s]
        exact r1
      · refine q_mm_eq g2 r2 (fun i hi => ?_) (fun k hk => ?_)
        · have hi2 : i < t ∧ i < 24 := by split at hi <;> omega
          refine ⟨(t - 1 - i) % 24, ?_, ?_⟩
          · split at hi
            · rw [if_pos (by assumption)]; omega
            · rw [if_neg (by assumption)]; omega
          · rw [hcs.2.2.2.2.2.2 i (by omega) (by omega)]
            exact congrArg (fun j => T0.1 (m + 3) (36 + 56 * c + j)) (by split at hi <;> omega)
        · have hk2 : k < t ∧ k < 24 := by split at hk <;> omega
          refine ⟨(t - 1 - k) % 24, ?_, ?_⟩
          · split at hk
            · rw [if_pos (by assumption)]; omega
            · rw [if_neg (by assumption)]; omega
          · rw [hcs.2.2.2.2.2.2 ((t - 1 - k) % 24) (by omega) (by omega)]
    · refine q_JR_er h0 f0 (s := "java/util/NoSuchElementException") (b := 0) (k := 2) ?_ ?_ (by simp)
      · unfold f_X8_swing
        rw [m_gd_t h.ox, g_logAt h hc, m_bt_s, g_anHour h, if_neg (show ¬ (1 : Int32) ≤ S.1 (x + 138) 0 from by rw [y0]; exact fun z => ct ((io_le (a := 1) (by omega) (by omega)).mp z)), m_bt_e]
      · unfold f_X9_swing
        rw [m_gd_t hM.o, m_lt_s, e0, e_isCase hM h0.n5 h0.cs, m_b1_s, e_may hM.o z0 z10, if_pos (q_yes hc (by omega)), if_neg z10, hM.a.1, m_b1_s, m_gd_t hM.a.2.1, m_gd_t (q_inl (wi := 0) (i := 0) rfl hM.a.2 (by omega) (by omega)), m_jp_if, e_mayN hM.o z0 z20, if_pos (show T0.1 (m + 3) (0 : Int32).toNatClampNeg ≤ 0 from by rw [tn0, y0']; exact (io_le (b := 0) (by omega) (by omega)).mpr (by omega)), if_neg nz0]
  · refine q_JR_er h0 f0 (s := "java/lang/IndexOutOfBoundsException") (b := 0) (k := 1) ?_ ?_ (by simp)
    · unfold f_X8_swing
      rw [m_gd_t h.ox, g_logNo h hp, m_bt_e]
    · unfold f_X9_swing
      rw [m_gd_t hM.o, m_lt_s, e0, e_isCase hM h0.n5 h0.cs, m_b1_s, e_may hM.o z0 z10, if_neg (q_no hp), if_pos z00]
theorem J_mean (h : q_Rel Z x m N pb ns nk nc S T) (p : Int32) : q_JR Z x m (N + 1) [("java/lang/IndexOutOfBoundsException", 1), ("java/util/NoSuchElementException", 2)] (fun a b => a = b) S T (f_X8_mean Z S x p) (f_X9_mean Z T m p) := by
  obtain ⟨T0, e0, z0, f0, h0⟩ := q_zero h
  have hM := h0.M
  have h6 := h0.nc6
  obtain ⟨cnt, t, t9, c5, hg, hser, hst⟩ := h0.sta
  have y0 : S.1 (x + 138) 0 = Int32.ofNat t := hst.1.1
  have y0' : T0.1 (m + 3) 0 = Int32.ofNat t := hst.1.2
  rcases q_cdec h0.cs p with ⟨c, hc, rfl⟩ | hp
  · have hcs := hst.2.2.2.2.2 c hc
    have hV := (h0.st.2.2.2.2 c (by omega)).2.2.1
    have hL := (h0.st.2.2.2.2 c (by omega)).2.2.2
    rw [show x + 137 + 4 + 10 * c = x + 141 + 10 * c by omega] at hcs hV hL
    have e5 : ((5 : Int32) * Int32.ofNat c) + (0 : Int32) = Int32.ofNat (5 * c) := by
      show Int32.ofNat 5 * Int32.ofNat c + Int32.ofNat 0 = _
      rw [io_mul, io_add]; rfl
    by_cases ct : 1 ≤ t
    · have nn := fp_mean (s := T0.2.1 (m + 7) (5 * c)) ct t9
      refine q_JR_ok h0 f0 z0 (a := FP.ddiv (FP.l2d (T0.2.1 (m + 7) (5 * c))) (FP.i2d (Int32.ofNat t))) (b := FP.ddiv (FP.l2d (T0.2.1 (m + 7) (5 * c))) (FP.i2d (Int32.ofNat t))) ?_ ?_ rfl
      · unfold f_X8_mean
        rw [m_gd_t h.ox, g_logAt h hc, m_bt_s, g_anHour h, if_pos (show (1 : Int32) ≤ S.1 (x + 138) 0 from by rw [y0]; exact (io_le (a := 1) (by omega) (by omega)).mpr ct), m_bt_s, m_gd_t hL.1, h.r3, m_b1_s, m_gd_t h.o137, h.r137, m_b1_s, m_gd_t h.o138, y0, hcs.2.2.1.2.2.2.2, m_gd_t nn]
      · unfold f_X9_mean
        rw [m_gd_t hM.o, m_lt_s, e0, e_isCase hM h0.n5 h0.cs, m_b1_s, e_may hM.o z0 z10, if_pos (q_yes hc (by omega)), if_neg z10, hM.a.1, m_b1_s, m_gd_t hM.a.2.1, m_gd_t (q_inl (wi := 0) (i := 0) rfl hM.a.2 (by omega) (by omega)), m_jp_if, e_mayN hM.o z0 z20, if_neg (show ¬ T0.1 (m + 3) (0 : Int32).toNatClampNeg ≤ 0 from by rw [tn0, y0']; exact fun z => absurd ((io_le (b := 0) (by omega) (by omega)).mp z) (by omega)), if_neg z10, hM.b.1, m_b1_s, m_gd_t hM.b.2.1, m_lt_s, e5, m_gd_t (q_inn hM.b.2 (by omega) (by omega)), hM.a.1, m_b1_s, m_gd_t hM.a.2.1, m_gd_t (q_inl (wi := 0) (i := 0) rfl hM.a.2 (by omega) (by omega)), io_tn (by omega), tn0, y0', m_gd_t nn]
    · refine q_JR_er h0 f0 (s := "java/util/NoSuchElementException") (b := FP.dconst0) (k := 2) ?_ ?_ (by simp)
      · unfold f_X8_mean
        rw [m_gd_t h.ox, g_logAt h hc, m_bt_s, g_anHour h, if_neg (show ¬ (1 : Int32) ≤ S.1 (x + 138) 0 from by rw [y0]; exact fun z => ct ((io_le (a := 1) (by omega) (by omega)).mp z)), m_bt_e]
      · unfold f_X9_mean
        rw [m_gd_t hM.o, m_lt_s, e0, e_isCase hM h0.n5 h0.cs, m_b1_s, e_may hM.o z0 z10, if_pos (q_yes hc (by omega)), if_neg z10, hM.a.1, m_b1_s, m_gd_t hM.a.2.1, m_gd_t (q_inl (wi := 0) (i := 0) rfl hM.a.2 (by omega) (by omega)), m_jp_if, e_mayN hM.o z0 z20, if_pos (show T0.1 (m + 3) (0 : Int32).toNatClampNeg ≤ 0 from by rw [tn0, y0']; exact (io_le (b := 0) (by omega) (by omega)).mpr (by omega)), if_pos z00]
  · refine q_JR_er h0 f0 (s := "java/lang/IndexOutOfBoundsException") (b := FP.dconst0) (k := 1) ?_ ?_ (by simp)
    · unfold f_X8_mean
      rw [m_gd_t h.ox, g_logNo h hp, m_bt_e]
    · unfold f_X9_mean
      rw [m_gd_t hM.o, m_lt_s, e0, e_isCase hM h0.n5 h0.cs, m_b1_s, e_may hM.o z0 z10, if_neg (q_no hp), if_pos z00]
theorem J_buffering (h : q_Rel Z x m N pb ns nk nc S T) (p : Int32) : q_JR Z x m (N + 1) [("java/lang/IndexOutOfBoundsException", 1), ("java/util/NoSuchElementException", 2)] (fun a b => a = b) S T (f_X8_buffering Z S x p) (f_X9_buffering Z T m p) := by
  obtain ⟨T0, e0, z0, f0, h0⟩ := q_zero h
  have hM := h0.M
  have h6 := h0.nc6
  obtain ⟨cnt, t, t9, c5, hg, hser, hst⟩ := h0.sta
  have y0 : S.1 (x + 138) 0 = Int32.ofNat t := hst.1.1
  have y0' : T0.1 (m + 3) 0 = Int32.ofNat t := hst.1.2
  rcases q_cdec h0.cs p with ⟨c, hc, rfl⟩ | hp
  · have hcs := hst.2.2.2.2.2 c hc
    have hV := (h0.st.2.2.2.2 c (by omega)).2.2.1
    have hL := (h0.st.2.2.2.2 c (by omega)).2.2.2
    rw [show x + 137 + 4 + 10 * c = x + 141 + 10 * c by omega] at hcs hV hL
    obtain ⟨s1, s2, s3⟩ := q_sum9 (Z := Z) hcs.1 hcs.2.1 h0.ks
    have k := hcs.2.1.2.2.1
    have gm := g_moist hV hcs.1.2.2.2.2.2.1 hcs.2.1.2.2.2.1
    have gc := g_mcas hV hcs.1.2.2.2.2.2.1 hcs.2.1.2.2.2.1
    have em := e_moist hM (c := c) (by omega) hcs.1.2.2.2.2.2.2.1 hcs.2.1.2.2.2.1
    have ec := e_inCas hM (c := c) (by omega) hcs.1.2.2.2.2.2.2.1 hcs.2.1.2.2.2.1
    rw [s1, hcs.1.2.2.2.2.1] at gm
    rw [s1] at gc
    generalize q_sm (fun i => T0.1 (m + 3) (15 + 56 * c + 4 * i)) (cnt c) = s at *
    generalize T0.1 (m + 3) (7 + 56 * c) = air at *
    have hsum : (air + s).toInt = air.toInt + s.toInt := t_add (by omega) (by omega)
    have hl : air.toInt64 + s.toInt64 = (air + s).toInt64 := by
      rw [l_eq, l_of, l_add (by rw [l_of, l_of]; omega) (by rw [l_of, l_of]; omega), l_of, l_of, hsum]
    rw [hl] at em
    obtain ⟨w, hw, w9⟩ : ∃ w : Nat, air + s = Int32.ofNat w ∧ w ≤ 99999 := ⟨(air + s).toInt.toNat, by rw [t_eq, t_ofNat (by omega)]; omega, by omega⟩
    rw [hw] at gm em
    by_cases cw : 1 ≤ w
    · obtain ⟨n1, n2⟩ := fp_buf (a := s) cw w9
      refine q_JR_ok h0 f0 z0 (a := FP.f2d (FP.fdiv (FP.i2f s) (FP.i2f (Int32.ofNat w)))) (b := FP.f2d (FP.fdiv (FP.i2f s) (FP.i2f (Int32.ofNat w)))) ?_ ?_ rfl
      · unfold f_X8_buffering
        rw [m_gd_t h.ox, g_vitAt h hc, m_bt_s, m_gd_t hV.1, gm, m_b1_s, if_pos (show ¬ Int32.ofNat w = 0 from fun z => by
          have := t_eq.mp z
          rw [t_ofNat (by omega), i32_0] at this; omega), gc, m_b1_s, m_gd_t n1, m_gd_t n2]
      · have e2 : ¬ lg_cmp (Int32.ofNat w).toInt64 (0 : Int64) ≤ 0 := by
          unfold lg_cmp
          have h0 : (Int32.ofNat w).toInt64 > (0 : Int64) := by
            show (0 : Int64) < _
            rw [l_lt, l_of, t_ofNat (by omega), show (0 : Int64).toInt = 0 from rfl]; omega
          rw [if_pos h0]; decide
        unfold f_X9_buffering
        rw [m_gd_t hM.o, m_lt_s, e0, e_isCase hM h0.n5 h0.cs, m_b1_s, e_may hM.o z0 z10, if_pos (q_yes hc (by omega)), if_neg z10, em, m_b1_s, m_jp_if, e_mayN hM.o z0 z20, if_neg e2, if_neg z10, ec, m_b1_s, em, m_b1_s, fp_l2f, m_gd_t n1, m_gd_t n2]
    · have w0 : w = 0 := by omega
      subst w0
      refine q_JR_er h0 f0 (s := "java/util/NoSuchElementException") (b := FP.dconst0) (k := 2) ?_ ?_ (by simp)
      · unfold f_X8_buffering
        rw [m_gd_t h.ox, g_vitAt h hc, m_bt_s, m_gd_t hV.1, gm, m_b1_s, if_neg (show ¬ ¬ Int32.ofNat 0 = 0 from fun z => z rfl)]
      · have e2 : lg_cmp (Int32.ofNat 0).toInt64 (0 : Int64) ≤ 0 := by decide
        unfold f_X9_buffering
        rw [m_gd_t hM.o, m_lt_s, e0, e_isCase hM h0.n5 h0.cs, m_b1_s, e_may hM.o z0 z10, if_pos (q_yes hc (by omega)), if_neg z10, em, m_b1_s, m_jp_if, e_mayN hM.o z0 z20, if_pos e2, if_pos z00]
  · refine q_JR_er h0 f0 (s := "java/lang/IndexOutOfBoundsException") (b := FP.dconst0) (k := 1) ?_ ?_ (by simp)
    · unfold f_X8_buffering
      rw [m_gd_t h.ox, g_vitNo h hp, m_bt_e]
    · unfold f_X9_buffering
      rw [m_gd_t hM.o, m_lt_s, e0, e_isCase hM h0.n5 h0.cs, m_b1_s, e_may hM.o z0 z10, if_neg (q_no hp), if_pos z00]
end READS2
