/-! sums over cassettes and cases -/
def q_sm (g : Nat → Int32) : Nat → Int32
  | 0 => 0
  | n + 1 => q_sm g n + g n
theorem q_sm_congr {g g' : Nat → Int32} : ∀ {n : Nat}, (∀ i, i < n → g i = g' i) → q_sm g n = q_sm g' n
  | 0, _ => rfl
  | n + 1, h => by
    show q_sm g n + g n = q_sm g' n + g' n
    rw [q_sm_congr (fun i hi => h i (by omega)), h n (by omega)]
theorem q_sm_t {g : Nat → Int32} : ∀ {n : Nat}, n ≤ 6 → (∀ i, i < n → 0 ≤ (g i).toInt ∧ (g i).toInt ≤ 9989) → 0 ≤ (q_sm g n).toInt ∧ (q_sm g n).toInt ≤ 9989 * n
  | 0, _, _ => by
    show 0 ≤ (0 : Int32).toInt ∧ (0 : Int32).toInt ≤ 9989 * ((0 : Nat) : Int)
    rw [i32_0]; omega
  | n + 1, h6, h => by
    have := q_sm_t (g := g) (n := n) (by omega) (fun i hi => h i (by omega))
    have hn := h n (by omega)
    show 0 ≤ (q_sm g n + g n).toInt ∧ (q_sm g n + g n).toInt ≤ _
    rw [t_add (by omega) (by omega)]
    omega
theorem g_mcas {Z : m_Z} {S : m_S} {v n : Nat} (g : q_V Z S.2.2 v) (hn : S.1 v 5 = Int32.ofNat n) (n6 : n ≤ 6) : f_X7_moistureOfCassettes Z S v = some (q_sm (fun i => S.1 (v + 2 + i) 3) n) := by
  unfold f_X7_moistureOfCassettes
  refine m_jp_i (fun j2 hj => ?_)
  have key : ∀ d i fuel, d + i = n → d < fuel → m_fx (F_X7_moistureOfCassettes_4 Z S v j2) fuel (q_sm (fun i => S.1 (v + 2 + i) 3) i, Int32.ofNat i) = j2 (q_sm (fun i => S.1 (v + 2 + i) 3) n) := by
    intro d
    induction d with
    | zero =>
      intro i fuel h1 h2
      obtain ⟨f, rfl⟩ : ∃ f, fuel = f + 1 := ⟨fuel - 1, by omega⟩
      have : i = n := by omega
      subst this
      rw [m_fx_s]
      unfold F_X7_moistureOfCassettes_4
      simp only []
      rw [m_gd_t g.1, hn, if_pos ((io_le (by omega) (by omega)).mpr (Nat.le_refl _))]
    | succ d ih =>
      intro i fuel h1 h2
      obtain ⟨f, rfl⟩ : ∃ f, fuel = f + 1 := ⟨fuel - 1, by omega⟩
      have ih' := ih (i + 1) f (by omega) (by omega)
      rw [m_fx_s]
      generalize m_fx (F_X7_moistureOfCassettes_4 Z S v j2) f = lp at *
      unfold F_X7_moistureOfCassettes_4
      simp only [io_tn (show i < 2147483648 by omega)]
      rw [m_gd_t g.1, hn, if_neg (fun q => absurd ((io_le (by omega) (by omega)).mp q) (by omega)), g.2.1.1, m_b1_s, m_gd_t g.2.1.2.1, g.2.1.2.2, if_neg (fun q => absurd ((io_le (by omega) (by omega)).mp q) (by omega)), m_gd_t (io_in (by omega) (by omega)), (g.2.2 i (by omega)).1, m_b1_s, m_gd_t (g.2.2 i (by omega)).2, m_lt_s, m_lt_s, io_one]
      exact ih'
  have := key n 0 100000 (by omega) (by omega)
  exact this.trans (hj _)
theorem e_inCas {Z : m_Z} {T : m_S} {m c n : Nat} (h : q_M Z T.2.2 m) (hc : c < 6) (hn : T.1 (m + 3) (8 + 56 * c) = Int32.ofNat n) (n6 : n ≤ 6) : f_X9_inCassettes Z T m (Int32.ofNat c) = some (q_sm (fun i => T.1 (m + 3) (15 + 56 * c + 4 * i)) n) := by
  unfold f_X9_inCassettes
  refine m_jp_i (fun j2 hj => ?_)
  have key : ∀ d i fuel, d + i = n → d < fuel → m_fx (F_X9_inCassettes_4 Z T m (Int32.ofNat c) j2) fuel (q_sm (fun i => T.1 (m + 3) (15 + 56 * c + 4 * i)) i, Int32.ofNat i) = j2 (q_sm (fun i => T.1 (m + 3) (15 + 56 * c + 4 * i)) n) := by
    intro d
    induction d with
    | zero =>
      intro i fuel h1 h2
      obtain ⟨f, rfl⟩ : ∃ f, fuel = f + 1 := ⟨fuel - 1, by omega⟩
      have : i = n := by omega
      subst this
      rw [m_fx_s]
      unfold F_X9_inCassettes_4
      simp only []
      rw [m_gd_t h.o, e_of (wi := 4) h (w := 4) rfl hc (by omega), show 4 + 56 * c + 4 = 8 + 56 * c by omega, hn, m_b1_s, if_pos ((io_le (by omega) (by omega)).mpr (Nat.le_refl _))]
    | succ d ih =>
      intro i fuel h1 h2
      obtain ⟨f, rfl⟩ : ∃ f, fuel = f + 1 := ⟨fuel - 1, by omega⟩
      have ih' := ih (i + 1) f (by omega) (by omega)
      rw [m_fx_s]
      generalize m_fx (F_X9_inCassettes_4 Z T m (Int32.ofNat c) j2) f = lp at *
      unfold F_X9_inCassettes_4
      simp only []
      rw [m_gd_t h.o, e_of (wi := 4) h (w := 4) rfl hc (by omega), show 4 + 56 * c + 4 = 8 + 56 * c by omega, hn, m_b1_s, if_neg (fun q => absurd ((io_le (by omega) (by omega)).mp q) (by omega)), e_its (wi := 3) h (w := 3) rfl hc (by omega) (by omega), m_b1_s, m_lt_s, m_lt_s, io_one, show 12 + 56 * c + 4 * i + 3 = 15 + 56 * c + 4 * i by omega]
      exact ih'
  have := key n 0 100000 (by omega) (by omega)
  exact this.trans (hj _)
theorem g_moist {Z : m_Z} {S : m_S} {v n : Nat} (g : q_V Z S.2.2 v) (hn : S.1 v 5 = Int32.ofNat n) (n6 : n ≤ 6) : f_X7_moisture Z S v = some (S.1 v 4 + q_sm (fun i => S.1 (v + 2 + i) 3) n) := by
  unfold f_X7_moisture
  rw [m_gd_t g.1, g_mcas g hn n6, m_b1_s]
theorem e_moist {Z : m_Z} {T : m_S} {m c n : Nat} (h : q_M Z T.2.2 m) (hc : c < 6) (hn : T.1 (m + 3) (8 + 56 * c) = Int32.ofNat n) (n6 : n ≤ 6) : f_X9_moistureOf Z T m (Int32.ofNat c) = some ((T.1 (m + 3) (7 + 56 * c)).toInt64 + (q_sm (fun i => T.1 (m + 3) (15 + 56 * c + 4 * i)) n).toInt64) := by
  unfold f_X9_moistureOf
  rw [m_gd_t h.o, e_of (wi := 3) h (w := 3) rfl hc (by omega), m_b1_s, e_inCas h hc hn n6, m_b1_s, show 4 + 56 * c + 3 = 7 + 56 * c by omega]
/-- what a case's numbers give -/
theorem q_sum9 {kb nk n : Nat} {Z : m_Z} {S : m_S} {v c : Nat} {p a : Nat → Int32} (h1 : q_vit kb nk n S v p a c) (h2 : q_wv p a n c) (hK : q_Ks Z kb nk S p) : q_sm (fun i => S.1 (v + 2 + i) 3) n = q_sm (fun i => a (15 + 56 * c + 4 * i)) n ∧ 0 ≤ (q_sm (fun i => a (15 + 56 * c + 4 * i)) n).toInt ∧ (q_sm (fun i => a (15 + 56 * c + 4 * i)) n).toInt ≤ 59934 := by
  have n6 := h2.2.2.2.1
  refine ⟨q_sm_congr (fun i hi => ?_), ?_⟩
  · rw [(h1.2.2.2.2.2.2.2 i hi).2.2.2]
    exact congrArg a (by omega)
  · have := q_sm_t (g := fun i => a (15 + 56 * c + 4 * i)) n6 (fun i hi => by
      have w := h2.2.2.2.2 i hi
      have k := (h1.2.2.2.2.2.2.2 i hi).2.1.1
      have hw := (hK.2 _ k).2.2
      have := q_mp_t hw w.1.1 w.1.2 1000
      refine ⟨w.2.1, ?_⟩
      have w3 := w.2.2
      omega)
    omega
theorem g_call {Z : m_Z} {S : m_S} {sb n : Nat} {cnt : Nat → Nat} (g : q_St Z S.2.2 sb) (hn : S.1 sb 2 = Int32.ofNat n) (n6 : n ≤ 6) : f_X6_cassettesInAll Z S sb = some (q_sm (fun i => S.1 (sb + 4 + 10 * i) 5) n) := by
  unfold f_X6_cassettesInAll
  refine m_jp_i (fun j2 hj => ?_)
  have key : ∀ d i fuel, d + i = n → d < fuel → m_fx (F_X6_cassettesInAll_4 Z S sb j2) fuel (q_sm (fun i => S.1 (sb + 4 + 10 * i) 5) i, Int32.ofNat i) = j2 (q_sm (fun i => S.1 (sb + 4 + 10 * i) 5) n) := by
    intro d
    induction d with
    | zero =>
      intro i fuel h1 h2
      obtain ⟨f, rfl⟩ : ∃ f, fuel = f + 1 := ⟨fuel - 1, by omega⟩
      have : i = n := by omega
      subst this
      rw [m_fx_s]
      unfold F_X6_cassettesInAll_4
      simp only []
      rw [m_gd_t g.1, hn, if_pos ((io_le (by omega) (by omega)).mpr (Nat.le_refl _))]
    | succ d ih =>
      intro i fuel h1 h2
      obtain ⟨f, rfl⟩ : ∃ f, fuel = f + 1 := ⟨fuel - 1, by omega⟩
      have ih' := ih (i + 1) f (by omega) (by omega)
      have c2 : ¬ (6 : Int32) ≤ Int32.ofNat i := fun q => absurd ((io_le (a := 6) (b := i) (by omega) (by omega)).mp q) (by omega)
      rw [m_fx_s]
      generalize m_fx (F_X6_cassettesInAll_4 Z S sb j2) f = lp at *
      unfold F_X6_cassettesInAll_4
      simp only [io_tn (show i < 2147483648 by omega)]
      rw [m_gd_t g.1, hn, if_neg (fun q => absurd ((io_le (by omega) (by omega)).mp q) (by omega)), if_neg c2, g.2.2.1.1, m_b1_s, m_gd_t g.2.2.1.2.1, m_gd_t (q_inn g.2.2.1.2 (by omega) (by omega)), (g.2.2.2.2 i (by omega)).1, m_b1_s, m_gd_t (g.2.2.2.2 i (by omega)).2.2.1.1, m_lt_s, m_lt_s, io_one]
      exact ih'
  have := key n 0 100000 (by omega) (by omega)
  exact this.trans (hj _)
theorem e_call {Z : m_Z} {T : m_S} {m n : Nat} (h : q_M Z T.2.2 m) (hn : T.1 (m + 1) 5 = Int32.ofNat n) (n6 : n ≤ 6) : f_X9_cassettesInAll Z T m = some (q_sm (fun i => T.1 (m + 3) (8 + 56 * i)) n) := by
  unfold f_X9_cassettesInAll
  refine m_jp_i (fun j2 hj => ?_)
  have key : ∀ d i fuel, d + i = n → d < fuel → m_fx (F_X9_cassettesInAll_4 Z T m j2) fuel (q_sm (fun i => T.1 (m + 3) (8 + 56 * i)) i, Int32.ofNat i) = j2 (q_sm (fun i => T.1 (m + 3) (8 + 56 * i)) n) := by
    intro d
    induction d with
    | zero =>
      intro i fuel h1 h2
      obtain ⟨f, rfl⟩ : ∃ f, fuel = f + 1 := ⟨fuel - 1, by omega⟩
      have : i = n := by omega
      subst this
      rw [m_fx_s]
      unfold F_X9_cassettesInAll_4
      simp only []
      rw [m_gd_t h.o, h.p.1, m_b1_s, m_gd_t h.p.2.1, m_gd_t (q_inl (wi := 5) (i := 5) rfl h.p.2 (by omega) (by omega)), if_pos (show T.1 (m + 1) (5 : Int32).toNatClampNeg ≤ Int32.ofNat i from by rw [tn5, hn]; exact (io_le (by omega) (by omega)).mpr (Nat.le_refl _))]
    | succ d ih =>
      intro i fuel h1 h2
      obtain ⟨f, rfl⟩ : ∃ f, fuel = f + 1 := ⟨fuel - 1, by omega⟩
      have ih' := ih (i + 1) f (by omega) (by omega)
      rw [m_fx_s]
      generalize m_fx (F_X9_cassettesInAll_4 Z T m j2) f = lp at *
      unfold F_X9_cassettesInAll_4
      simp only []
      rw [m_gd_t h.o, h.p.1, m_b1_s, m_gd_t h.p.2.1, m_gd_t (q_inl (wi := 5) (i := 5) rfl h.p.2 (by omega) (by omega)), if_neg (show ¬ T.1 (m + 1) (5 : Int32).toNatClampNeg ≤ Int32.ofNat i from by rw [tn5, hn]; exact fun q => absurd ((io_le (by omega) (by omega)).mp q) (by omega)), e_of (wi := 4) h (w := 4) rfl (by omega) (by omega), m_b1_s, m_lt_s, m_lt_s, io_one, show 4 + 56 * i + 4 = 8 + 56 * i by omega]
      exact ih'
  have := key n 0 100000 (by omega) (by omega)
  exact this.trans (hj _)
