/-! finding a cassette by its serial number -/
theorem g_index {Z : m_Z} {S : m_S} {v n : Nat} {s : Int32} (g : q_V Z S.2.2 v) (hn : S.1 v 5 = Int32.ofNat n) (n6 : n ≤ 6) : (∀ k, k < n → S.1 (v + 2 + k) 0 = s → (∀ i, i < k → S.1 (v + 2 + i) 0 ≠ s) → f_X7_indexOf Z S v s = some (Int32.ofNat k)) ∧ ((∀ i, i < n → S.1 (v + 2 + i) 0 ≠ s) → f_X7_indexOf Z S v s = some (-1)) := by
  have step : ∀ (j1 : Unit → Option Int32) (j3 : Int32 → Option Int32) (i f : Nat), i < n → S.1 (v + 2 + i) 0 ≠ s → m_fx (F_X7_indexOf_2 Z S v s j1 j3) (f + 1) (Int32.ofNat i) = m_fx (F_X7_indexOf_2 Z S v s j1 j3) f (Int32.ofNat (i + 1)) := by
    intro j1 j3 i f hi hne
    rw [m_fx_s]
    generalize m_fx (F_X7_indexOf_2 Z S v s j1 j3) f = lp
    unfold F_X7_indexOf_2
    rw [m_gd_t g.1, hn, if_neg (fun q => absurd ((io_le (by omega) (by omega)).mp q) (by omega)), g.2.1.1, m_b1_s, m_gd_t g.2.1.2.1, g.2.1.2.2, if_neg (fun q => absurd ((io_le (by omega) (by omega)).mp q) (by omega)), m_gd_t (io_in (by omega) (by omega)), io_tn (by omega), (g.2.2 i (by omega)).1, m_b1_s, m_gd_t (g.2.2 i (by omega)).2, if_pos hne, m_lt_s, io_one]
  constructor
  · intro k hk hs hlt
    unfold f_X7_indexOf
    refine m_jp_i (fun j1 hj1 => m_jp_i (fun j3 hj3 => ?_))
    have key : ∀ d i fuel, d + i = k → d + 1 < fuel → m_fx (F_X7_indexOf_2 Z S v s j1 j3) fuel (Int32.ofNat i) = j3 (Int32.ofNat k) := by
      intro d
      induction d with
      | zero =>
        intro i fuel h1 h2
        obtain ⟨f, rfl⟩ : ∃ f, fuel = f + 1 := ⟨fuel - 1, by omega⟩
        have : i = k := by omega
        subst this
        rw [m_fx_s]
        unfold F_X7_indexOf_2
        rw [m_gd_t g.1, hn, if_neg (fun q => absurd ((io_le (by omega) (by omega)).mp q) (by omega)), g.2.1.1, m_b1_s, m_gd_t g.2.1.2.1, g.2.1.2.2, if_neg (fun q => absurd ((io_le (by omega) (by omega)).mp q) (by omega)), m_gd_t (io_in (by omega) (by omega)), io_tn (by omega), (g.2.2 i (by omega)).1, m_b1_s, m_gd_t (g.2.2 i (by omega)).2, if_neg (fun q => q hs)]
      | succ d ih =>
        intro i fuel h1 h2
        obtain ⟨f, rfl⟩ : ∃ f, fuel = f + 1 := ⟨fuel - 1, by omega⟩
        rw [step j1 j3 i f (by omega) (hlt i (by omega))]
        exact ih (i + 1) f (by omega) (by omega)
    exact (key k 0 100000 (by omega) (by omega)).trans (hj3 _)
  · intro hne
    unfold f_X7_indexOf
    refine m_jp_i (fun j1 hj1 => m_jp_i (fun j3 hj3 => ?_))
    have key : ∀ d i fuel, d + i = n → d < fuel → m_fx (F_X7_indexOf_2 Z S v s j1 j3) fuel (Int32.ofNat i) = j1 () := by
      intro d
      induction d with
      | zero =>
        intro i fuel h1 h2
        obtain ⟨f, rfl⟩ : ∃ f, fuel = f + 1 := ⟨fuel - 1, by omega⟩
        have : i = n := by omega
        subst this
        rw [m_fx_s]
        unfold F_X7_indexOf_2
        rw [m_gd_t g.1, hn, if_pos ((io_le (by omega) (by omega)).mpr (Nat.le_refl _))]
      | succ d ih =>
        intro i fuel h1 h2
        obtain ⟨f, rfl⟩ : ∃ f, fuel = f + 1 := ⟨fuel - 1, by omega⟩
        rw [step j1 j3 i f (by omega) (hne i (by omega))]
        exact ih (i + 1) f (by omega) (by omega)
    exact (key n 0 100000 (by omega) (by omega)).trans (hj1 _)
theorem io_nm1 {k : Nat} (hk : k < 2147483648) : ¬ Int32.ofNat k = (-1 : Int32) := fun q => by
  have := t_eq.mp q
  rw [t_ofNat hk, show (-1 : Int32).toInt = -1 from rfl] at this; omega
theorem g_holder {Z : m_Z} {S : m_S} {sb nc : Nat} {s : Int32} {cnt : Nat → Nat} (g : q_St Z S.2.2 sb) (hn : S.1 sb 2 = Int32.ofNat nc) (n6 : nc ≤ 6) (h5 : ∀ c, c < nc → S.1 (sb + 4 + 10 * c) 5 = Int32.ofNat (cnt c) ∧ cnt c ≤ 6) : (∀ c k, c < nc → k < cnt c → S.1 (sb + 4 + 10 * c + 2 + k) 0 = s → (∀ i, i < k → S.1 (sb + 4 + 10 * c + 2 + i) 0 ≠ s) → (∀ c', c' < c → ∀ i, i < cnt c' → S.1 (sb + 4 + 10 * c' + 2 + i) 0 ≠ s) → f_X6_holderOf Z S sb s = some (Int32.ofNat c)) ∧ ((∀ c, c < nc → ∀ i, i < cnt c → S.1 (sb + 4 + 10 * c + 2 + i) 0 ≠ s) → f_X6_holderOf Z S sb s = some (-1)) := by
  have k6 : ∀ i, i < 6 → ¬ (6 : Int32) ≤ Int32.ofNat i := fun i hi q => absurd ((io_le (a := 6) (b := i) (by omega) (by omega)).mp q) (by omega)
  have step : ∀ (j1 : Unit → Option Int32) (j3 : Int32 → Option Int32) (c f : Nat), c < nc → (∀ i, i < cnt c → S.1 (sb + 4 + 10 * c + 2 + i) 0 ≠ s) → m_fx (F_X6_holderOf_2 Z S sb s j1 j3) (f + 1) (Int32.ofNat c) = m_fx (F_X6_holderOf_2 Z S sb s j1 j3) f (Int32.ofNat (c + 1)) := by
    intro j1 j3 c f hc hne
    have gi := (g_index (s := s) (g.2.2.2.2 c (by omega)).2.2.1 (h5 c hc).1 (h5 c hc).2).2 hne
    rw [m_fx_s]
    generalize m_fx (F_X6_holderOf_2 Z S sb s j1 j3) f = lp
    unfold F_X6_holderOf_2
    rw [m_gd_t g.1, hn, if_neg (fun q => absurd ((io_le (by omega) (by omega)).mp q) (by omega)), if_neg (k6 c (by omega)), g.2.2.1.1, m_b1_s, m_gd_t g.2.2.1.2.1, m_gd_t (q_inn g.2.2.1.2 (by omega) (by omega)), io_tn (by omega), (g.2.2.2.2 c (by omega)).1, m_b1_s, m_gd_t (g.2.2.2.2 c (by omega)).2.2.1.1, gi, m_b1_s, if_pos rfl, m_lt_s, io_one]
  constructor
  · intro c k hc hk hs hlt hlc
    have gi := (g_index (s := s) (g.2.2.2.2 c (by omega)).2.2.1 (h5 c hc).1 (h5 c hc).2).1 k hk hs hlt
    have := (h5 c hc).2
    unfold f_X6_holderOf
    refine m_jp_i (fun j1 hj1 => m_jp_i (fun j3 hj3 => ?_))
    have key : ∀ d i fuel, d + i = c → d + 1 < fuel → m_fx (F_X6_holderOf_2 Z S sb s j1 j3) fuel (Int32.ofNat i) = j3 (Int32.ofNat c) := by
      intro d
      induction d with
      | zero =>
        intro i fuel h1 h2
        obtain ⟨f, rfl⟩ : ∃ f, fuel = f + 1 := ⟨fuel - 1, by omega⟩
        have : i = c := by omega
        subst this
        rw [m_fx_s]
        unfold F_X6_holderOf_2
        rw [m_gd_t g.1, hn, if_neg (fun q => absurd ((io_le (by omega) (by omega)).mp q) (by omega)), if_neg (k6 i (by omega)), g.2.2.1.1, m_b1_s, m_gd_t g.2.2.1.2.1, m_gd_t (q_inn g.2.2.1.2 (by omega) (by omega)), io_tn (by omega), (g.2.2.2.2 i (by omega)).1, m_b1_s, m_gd_t (g.2.2.2.2 i (by omega)).2.2.1.1, gi, m_b1_s, if_neg (io_nm1 (by omega))]
      | succ d ih =>
        intro i fuel h1 h2
        obtain ⟨f, rfl⟩ : ∃ f, fuel = f + 1 := ⟨fuel - 1, by omega⟩
        rw [step j1 j3 i f (by omega) (hlc i (by omega))]
        exact ih (i + 1) f (by omega) (by omega)
    exact (key c 0 100000 (by omega) (by omega)).trans (hj3 _)
  · intro hne
    unfold f_X6_holderOf
    refine m_jp_i (fun j1 hj1 => m_jp_i (fun j3 hj3 => ?_))
    have key : ∀ d i fuel, d + i = nc → d < fuel → m_fx (F_X6_holderOf_2 Z S sb s j1 j3) fuel (Int32.ofNat i) = j1 () := by
      intro d
      induction d with
      | zero =>
        intro i fuel h1 h2
        obtain ⟨f, rfl⟩ : ∃ f, fuel = f + 1 := ⟨fuel - 1, by omega⟩
        have : i = nc := by omega
        subst this
        rw [m_fx_s]
        unfold F_X6_holderOf_2
        rw [m_gd_t g.1, hn, if_pos ((io_le (by omega) (by omega)).mpr (Nat.le_refl _))]
      | succ d ih =>
        intro i fuel h1 h2
        obtain ⟨f, rfl⟩ : ∃ f, fuel = f + 1 := ⟨fuel - 1, by omega⟩
        rw [step j1 j3 i f (by omega) (hne i (by omega))]
        exact ih (i + 1) f (by omega) (by omega)
    exact (key nc 0 100000 (by omega) (by omega)).trans (hj1 _)
/-- the reference's, in one case -/
theorem e_fi_none {Z : m_Z} {m c n : Nat} {s : Int32} {j21 : m_S → Option (Int32 × m_S)} (hc : c < 6) (n6 : n ≤ 6) {T : m_S} (h : q_M Z T.2.2 m) (hn : T.1 (m + 3) (8 + 56 * c) = Int32.ofNat n) : ∀ d i fuel, d + i = n → d < fuel → (∀ k, i ≤ k → k < n → T.1 (m + 3) (12 + 56 * c + 4 * k) ≠ s) → m_fx (F_X9_finds_19 Z m s (Int32.ofNat c) j21) fuel (Int32.ofNat i, T) = j21 T := by
  intro d
  induction d with
  | zero =>
    intro i fuel h1 h2 hne
    obtain ⟨f, rfl⟩ : ∃ f, fuel = f + 1 := ⟨fuel - 1, by omega⟩
    have : i = n := by omega
    subst this
    rw [m_fx_s]
    unfold F_X9_finds_19
    simp only []
    rw [e_of (wi := 4) h (w := 4) rfl hc (by omega), show 4 + 56 * c + 4 = 8 + 56 * c by omega, hn, m_b1_s, if_pos ((io_le (by omega) (by omega)).mpr (Nat.le_refl _))]
  | succ d ih =>
    intro i fuel h1 h2 hne
    obtain ⟨f, rfl⟩ : ∃ f, fuel = f + 1 := ⟨fuel - 1, by omega⟩
    have ih' := ih (i + 1) f (by omega) (by omega) (fun k k1 k2 => hne k (by omega) k2)
    rw [m_fx_s]
    generalize m_fx (F_X9_finds_19 Z m s (Int32.ofNat c) j21) f = lp at *
    unfold F_X9_finds_19
    simp only []
    rw [e_of (wi := 4) h (w := 4) rfl hc (by omega), show 4 + 56 * c + 4 = 8 + 56 * c by omega, hn, m_b1_s, if_neg (fun q => absurd ((io_le (by omega) (by omega)).mp q) (by omega)), e_its (wi := 0) h (w := 0) rfl hc (by omega) (by omega), m_b1_s, if_neg (show ¬ T.1 (m + 3) (12 + 56 * c + 4 * i + 0) = s from hne i (Nat.le_refl _) (by omega)), m_lt_s, io_one]
    exact ih'
def q_fnd (m : Nat) (T : m_S) (c k : Nat) : m_S := m_pI (m_pI T m 23 (Int32.ofNat c)) m 24 (Int32.ofNat k)
theorem e_fi_one {Z : m_Z} {m c n k0 : Nat} {s : Int32} {j21 : m_S → Option (Int32 × m_S)} (hc : c < 6) (n6 : n ≤ 6) {T : m_S} (h : q_M Z T.2.2 m) (hn : T.1 (m + 3) (8 + 56 * c) = Int32.ofNat n) (hk0 : k0 < n) (hs : T.1 (m + 3) (12 + 56 * c + 4 * k0) = s) (hne : ∀ k, k ≠ k0 → k < n → T.1 (m + 3) (12 + 56 * c + 4 * k) ≠ s) : ∀ d i fuel, d + i = n → d < fuel → i ≤ k0 → m_fx (F_X9_finds_19 Z m s (Int32.ofNat c) j21) fuel (Int32.ofNat i, T) = j21 (q_fnd m T c k0) := by
  intro d
  induction d with
  | zero => intro i fuel h1 h2 h3; omega
  | succ d ih =>
    intro i fuel h1 h2 h3
    obtain ⟨f, rfl⟩ : ∃ f, fuel = f + 1 := ⟨fuel - 1, by omega⟩
    by_cases e : i = k0
    · subst e
      have ih' := e_fi_none (Z := Z) (m := m) (c := c) (n := n) (s := s) (j21 := j21) hc n6 (T := q_fnd m T c i) h (by unfold q_fnd; rw [pI_ne (by omega), pI_ne (by omega)]; exact hn) d (i + 1) f (by omega) (by omega) (fun k k1 k2 => by unfold q_fnd; rw [pI_ne (by omega), pI_ne (by omega)]; exact hne k (by omega) k2)
      rw [m_fx_s]
      generalize m_fx (F_X9_finds_19 Z m s (Int32.ofNat c) j21) f = lp at *
      unfold F_X9_finds_19
      simp only []
      rw [e_of (wi := 4) h (w := 4) rfl hc (by omega), show 4 + 56 * c + 4 = 8 + 56 * c by omega, hn, m_b1_s, if_neg (fun q => absurd ((io_le (by omega) (by omega)).mp q) (by omega)), e_its (wi := 0) h (w := 0) rfl hc (by omega) (by omega), m_b1_s, if_pos (show T.1 (m + 3) (12 + 56 * c + 4 * i + 0) = s from hs), m_lt_s, m_lt_s, m_lt_s, io_one]
      exact ih'
    · have ih' := ih (i + 1) f (by omega) (by omega) (by omega)
      rw [m_fx_s]
      generalize m_fx (F_X9_finds_19 Z m s (Int32.ofNat c) j21) f = lp at *
      unfold F_X9_finds_19
      simp only []
      rw [e_of (wi := 4) h (w := 4) rfl hc (by omega), show 4 + 56 * c + 4 = 8 + 56 * c by omega, hn, m_b1_s, if_neg (fun q => absurd ((io_le (by omega) (by omega)).mp q) (by omega)), e_its (wi := 0) h (w := 0) rfl hc (by omega) (by omega), m_b1_s, if_neg (show ¬ T.1 (m + 3) (12 + 56 * c + 4 * i + 0) = s from hne i e (by omega)), m_lt_s, io_one]
      exact ih'
/-- .. in all cases -/
theorem e_fo_none {Z : m_Z} {m nc : Nat} {s : Int32} {cnt : Nat → Nat} {j6 : m_S → Option (Int32 × m_S)} (n6 : nc ≤ 6) {T : m_S} (h : q_M Z T.2.2 m) (hnc : T.1 (m + 1) 5 = Int32.ofNat nc) (hn : ∀ c, c < nc → T.1 (m + 3) (8 + 56 * c) = Int32.ofNat (cnt c) ∧ cnt c ≤ 6) : ∀ d i fuel, d + i = nc → d < fuel → (∀ c, i ≤ c → c < nc → ∀ k, k < cnt c → T.1 (m + 3) (12 + 56 * c + 4 * k) ≠ s) → m_fx (F_X9_finds_7 Z m s j6) fuel (Int32.ofNat i, T) = j6 T := by
  intro d
  induction d with
  | zero =>
    intro i fuel h1 h2 hne
    obtain ⟨f, rfl⟩ : ∃ f, fuel = f + 1 := ⟨fuel - 1, by omega⟩
    have : i = nc := by omega
    subst this
    rw [m_fx_s]
    unfold F_X9_finds_7
    simp only []
    rw [h.p.1, m_b1_s, m_gd_t h.p.2.1, m_gd_t (q_inl (wi := 5) (i := 5) rfl h.p.2 (by omega) (by omega)), if_pos (show T.1 (m + 1) (5 : Int32).toNatClampNeg ≤ Int32.ofNat i from by rw [tn5, hnc]; exact (io_le (by omega) (by omega)).mpr (Nat.le_refl _))]
  | succ d ih =>
    intro i fuel h1 h2 hne
    obtain ⟨f, rfl⟩ : ∃ f, fuel = f + 1 := ⟨fuel - 1, by omega⟩
    have ih' := ih (i + 1) f (by omega) (by omega) (fun c c1 c2 => hne c (by omega) c2)
    rw [m_fx_s]
    generalize m_fx (F_X9_finds_7 Z m s j6) f = lp at *
    unfold F_X9_finds_7
    simp only []
    rw [h.p.1, m_b1_s, m_gd_t h.p.2.1, m_gd_t (q_inl (wi := 5) (i := 5) rfl h.p.2 (by omega) (by omega)), if_neg (show ¬ T.1 (m + 1) (5 : Int32).toNatClampNeg ≤ Int32.ofNat i from by rw [tn5, hnc]; exact fun q => absurd ((io_le (by omega) (by omega)).mp q) (by omega))]
    refine m_jp_i (fun j21 hj => ?_)
    have := e_fi_none (Z := Z) (m := m) (c := i) (n := cnt i) (s := s) (j21 := j21) (by omega) (hn i (by omega)).2 h (hn i (by omega)).1 (cnt i) 0 100000 (by omega) (by have := (hn i (by omega)).2; omega) (fun k _ k2 => hne i (Nat.le_refl _) (by omega) k k2)
    refine (show m_fx (F_X9_finds_19 Z m s (Int32.ofNat i) j21) 100000 ((0 : Int32), T) = _ from this).trans ?_
    rw [hj, m_lt_s, io_one]
    exact ih'
theorem e_fo_one {Z : m_Z} {m nc c0 k0 : Nat} {s : Int32} {cnt : Nat → Nat} {j6 : m_S → Option (Int32 × m_S)} (n6 : nc ≤ 6) {T : m_S} (h : q_M Z T.2.2 m) (hnc : T.1 (m + 1) 5 = Int32.ofNat nc) (hn : ∀ c, c < nc → T.1 (m + 3) (8 + 56 * c) = Int32.ofNat (cnt c) ∧ cnt c ≤ 6) (hc0 : c0 < nc) (hk0 : k0 < cnt c0) (hs : T.1 (m + 3) (12 + 56 * c0 + 4 * k0) = s) (hne : ∀ c k, c < nc → k < cnt c → ¬ (c = c0 ∧ k = k0) → T.1 (m + 3) (12 + 56 * c + 4 * k) ≠ s) : ∀ d i fuel, d + i = nc → d < fuel → i ≤ c0 → m_fx (F_X9_finds_7 Z m s j6) fuel (Int32.ofNat i, T) = j6 (q_fnd m T c0 k0) := by
  intro d
  induction d with
  | zero => intro i fuel h1 h2 h3; omega
  | succ d ih =>
    intro i fuel h1 h2 h3
    obtain ⟨f, rfl⟩ : ∃ f, fuel = f + 1 := ⟨fuel - 1, by omega⟩
    by_cases e : i = c0
    · subst e
      have qf : ∀ b k, b ≠ m → (q_fnd m T i k0).1 b k = T.1 b k := fun b k hb => by unfold q_fnd; rw [pI_ne (by omega), pI_ne (by omega)]
      have ih' := e_fo_none (Z := Z) (m := m) (nc := nc) (s := s) (cnt := cnt) (j6 := j6) n6 (T := q_fnd m T i k0) h (by rw [qf _ _ (by omega)]; exact hnc) (fun c hc => by rw [qf _ _ (by omega)]; exact hn c hc) d (i + 1) f (by omega) (by omega) (fun c c1 c2 k hk => by rw [qf _ _ (by omega)]; exact hne c k c2 hk (by omega))
      rw [m_fx_s]
      generalize m_fx (F_X9_finds_7 Z m s j6) f = lp at *
      unfold F_X9_finds_7
      simp only []
      rw [h.p.1, m_b1_s, m_gd_t h.p.2.1, m_gd_t (q_inl (wi := 5) (i := 5) rfl h.p.2 (by omega) (by omega)), if_neg (show ¬ T.1 (m + 1) (5 : Int32).toNatClampNeg ≤ Int32.ofNat i from by rw [tn5, hnc]; exact fun q => absurd ((io_le (by omega) (by omega)).mp q) (by omega))]
      refine m_jp_i (fun j21 hj => ?_)
      have := e_fi_one (Z := Z) (m := m) (c := i) (n := cnt i) (k0 := k0) (s := s) (j21 := j21) (by omega) (hn i (by omega)).2 h (hn i (by omega)).1 hk0 hs (fun k k1 k2 => hne i k hc0 k2 (by omega)) (cnt i) 0 100000 (by omega) (by have := (hn i (by omega)).2; omega) (by omega)
      refine (show m_fx (F_X9_finds_19 Z m s (Int32.ofNat i) j21) 100000 ((0 : Int32), T) = _ from this).trans ?_
      rw [hj, m_lt_s, io_one]
      exact ih'
    · have ih' := ih (i + 1) f (by omega) (by omega) (by omega)
      rw [m_fx_s]
      generalize m_fx (F_X9_finds_7 Z m s j6) f = lp at *
      unfold F_X9_finds_7
      simp only []
      rw [h.p.1, m_b1_s, m_gd_t h.p.2.1, m_gd_t (q_inl (wi := 5) (i := 5) rfl h.p.2 (by omega) (by omega)), if_neg (show ¬ T.1 (m + 1) (5 : Int32).toNatClampNeg ≤ Int32.ofNat i from by rw [tn5, hnc]; exact fun q => absurd ((io_le (by omega) (by omega)).mp q) (by omega))]
      refine m_jp_i (fun j21 hj => ?_)
      have := e_fi_none (Z := Z) (m := m) (c := i) (n := cnt i) (s := s) (j21 := j21) (by omega) (hn i (by omega)).2 h (hn i (by omega)).1 (cnt i) 0 100000 (by omega) (by have := (hn i (by omega)).2; omega) (fun k _ k2 => hne i k (by omega) k2 (by omega))
      refine (show m_fx (F_X9_finds_19 Z m s (Int32.ofNat i) j21) 100000 ((0 : Int32), T) = _ from this).trans ?_
      rw [hj, m_lt_s, io_one]
      exact ih'
section FIND
variable {Z : m_Z} {x m N pb ns nk nc : Nat} {S T : m_S} {cnt : Nat → Nat} {t : Nat}
theorem q_find (h : q_Rel Z x m N pb ns nk nc S T) (z : T.1 m 0 = 0) (c5 : ∀ c, c < nc → cnt c ≤ 5) (hser : q_ser (T.1 (m + 3)) nc cnt N) (hst : q_state (pb + 6) nk nc cnt S (x + 137) (T.1 (m + 1)) (T.1 (m + 3)) (T.2.1 (m + 7)) t) (s : Int32) :
    (∃ c k T1, c < nc ∧ k < cnt c ∧ T.1 (m + 3) (12 + 56 * c + 4 * k) = s ∧ f_X8_caseOf Z S x s = some (.ok (Int32.ofNat c)) ∧ f_X7_indexOf Z S (x + 141 + 10 * c) s = some (Int32.ofNat k) ∧ f_X9_finds Z T m s = some (1, T1) ∧ T1.1 m 23 = Int32.ofNat c ∧ T1.1 m 24 = Int32.ofNat k ∧ T1.1 m 0 = 0 ∧ q_fY m T T1 ∧ q_Rel Z x m N pb ns nk nc S T1 ∧ (∀ b j, b ≠ m → T1.1 b j = T.1 b j) ∧ T1.2 = T.2)
    ∨ ∃ T1, f_X8_caseOf Z S x s = some (.error "java/util/NoSuchElementException") ∧ f_X9_finds Z T m s = some (0, T1) ∧ T1.1 m 0 = 0 ∧ q_fY m T T1 ∧ q_Rel Z x m N pb ns nk nc S T1 := by
  have h6 := h.nc6
  have hM := h.M
  have hcell : ∀ c k, c < nc → k < cnt c → S.1 (x + 137 + 4 + 10 * c + 2 + k) 0 = T.1 (m + 3) (12 + 56 * c + 4 * k) := fun c k hc hk => ((hst.2.2.2.2.2 c hc).1.2.2.2.2.2.2.2 k hk).1
  have hcnt : ∀ c, c < nc → S.1 (x + 137 + 4 + 10 * c) 5 = Int32.ofNat (cnt c) ∧ cnt c ≤ 6 := fun c hc => ⟨(hst.2.2.2.2.2 c hc).1.2.2.2.2.2.1, by have := c5 c hc; omega⟩
  have hcnt' : ∀ c, c < nc → T.1 (m + 3) (8 + 56 * c) = Int32.ofNat (cnt c) ∧ cnt c ≤ 6 := fun c hc => ⟨(hst.2.2.2.2.2 c hc).1.2.2.2.2.2.2.1, by have := c5 c hc; omega⟩
  obtain ⟨T2, hT2⟩ : ∃ q, q = m_pI T m 23 (-1) := ⟨_, rfl⟩
  have hM2 : q_M Z T2.2.2 m := by rw [hT2]; exact hM
  have e2 : ∀ b j, b ≠ m → T2.1 b j = T.1 b j := fun b j hb => by rw [hT2, pI_ne (by omega)]
  have h2 : q_Rel Z x m N pb ns nk nc S T2 := by rw [hT2]; exact q_Rel_t h (by omega) (by omega) (by omega)
  have f2 : q_fY m T T2 := by rw [hT2]; exact q_ag_I (q_ag_refl _ _) (by omega)
  have z2 : T2.1 m 0 = 0 := by rw [hT2, pI_ne (by omega)]; exact z
  by_cases hex : ∃ c k, c < nc ∧ k < cnt c ∧ T.1 (m + 3) (12 + 56 * c + 4 * k) = s
  · obtain ⟨c, k, hc, hk, hs⟩ := hex
    obtain ⟨q, q1, q2, q3, q4⟩ := hser
    have uniq : ∀ c' k', c' < nc → k' < cnt c' → ¬ (c' = c ∧ k' = k) → T.1 (m + 3) (12 + 56 * c' + 4 * k') ≠ s := fun c' k' hc' hk' hne e => hne (q4 c' k' c k hc' hk' hc hk (e.trans hs.symm))
    have hc9 := c5 c hc
    have T1r : q_Rel Z x m N pb ns nk nc S (q_fnd m T2 c k) := q_Rel_t (q_Rel_t h2 (by omega) (by omega) (by omega)) (by omega) (by omega) (by omega)
    refine Or.inl ⟨c, k, q_fnd m T2 c k, hc, hk, hs, ?_, ?_, ?_, ?_, ?_, ?_, ?_, T1r, fun b j hb => ?_, ?_⟩
    · have gh := (g_holder (s := s) (cnt := cnt) h.st hst.2.2.2.2.1 h6 hcnt).1 c k hc hk ((hcell c k hc hk).trans hs) (fun i hi => by rw [hcell c i hc (by omega)]; exact uniq c i hc (by omega) (by omega)) (fun c' hc' i hi => by rw [hcell c' i (by omega) hi]; exact uniq c' i (by omega) hi (by omega))
      unfold f_X8_caseOf
      rw [m_gd_t h.ox, h.r3, m_b1_s, m_gd_t h.o137, gh, m_b1_s, if_pos (io_nm1 (by omega))]
    · have gi := (g_index (s := s) (h.st.2.2.2.2 c (by omega)).2.2.1 (hcnt c hc).1 (hcnt c hc).2).1 k hk ((hcell c k hc hk).trans hs) (fun i hi => by rw [hcell c i hc (by omega)]; exact uniq c i hc (by omega) (by omega))
      rw [show x + 141 + 10 * c = x + 137 + 4 + 10 * c by omega]
      exact gi
    · unfold f_X9_finds
      rw [m_gd_t hM.o, m_lt_s, ← hT2]
      refine m_jp_i (fun j6 hj => ?_)
      have := e_fo_one (Z := Z) (m := m) (nc := nc) (c0 := c) (k0 := k) (s := s) (cnt := cnt) (j6 := j6) h6 hM2 h2.n5 (fun c' hc' => by rw [e2 _ _ (by omega)]; exact hcnt' c' hc') hc hk (by rw [e2 _ _ (by omega)]; exact hs) (fun c' k' hc' hk' hne => by rw [e2 _ _ (by omega)]; exact uniq c' k' hc' hk' hne) nc 0 100000 (by omega) (by omega) (by omega)
      refine (show m_fx (F_X9_finds_7 Z m s j6) 100000 ((0 : Int32), T2) = _ from this).trans ?_
      rw [hj]
      have e23 : (q_fnd m T2 c k).1 m 23 = Int32.ofNat c := by unfold q_fnd; rw [pI_ne (by omega), pI_same]
      rw [e23, if_neg (io_nm1 (by omega))]
    · unfold q_fnd; rw [pI_ne (by omega), pI_same]
    · unfold q_fnd; rw [pI_same]
    · unfold q_fnd; rw [pI_ne (by omega), pI_ne (by omega)]; exact z2
    · exact q_ag_trans f2 (q_ag_I (q_ag_I (q_ag_refl _ _) (by omega)) (by omega))
    · unfold q_fnd; rw [pI_ne (by omega), pI_ne (by omega)]; exact e2 b j hb
    · rw [hT2]; rfl
  · have none' : ∀ c k, c < nc → k < cnt c → T.1 (m + 3) (12 + 56 * c + 4 * k) ≠ s := fun c k hc hk e => hex ⟨c, k, hc, hk, e⟩
    refine Or.inr ⟨T2, ?_, ?_, z2, f2, h2⟩
    · have gh := (g_holder (s := s) (cnt := cnt) h.st hst.2.2.2.2.1 h6 hcnt).2 (fun c hc i hi => by rw [hcell c i hc hi]; exact none' c i hc hi)
      unfold f_X8_caseOf
      rw [m_gd_t h.ox, h.r3, m_b1_s, m_gd_t h.o137, gh, m_b1_s, if_neg (fun q => q rfl)]
    · unfold f_X9_finds
      rw [m_gd_t hM.o, m_lt_s, ← hT2]
      refine m_jp_i (fun j6 hj => ?_)
      have := e_fo_none (Z := Z) (m := m) (nc := nc) (s := s) (cnt := cnt) (j6 := j6) h6 hM2 h2.n5 (fun c' hc' => by rw [e2 _ _ (by omega)]; exact hcnt' c' hc') nc 0 100000 (by omega) (by omega) (fun c _ hc k hk => by rw [e2 _ _ (by omega)]; exact none' c k hc hk)
      refine (show m_fx (F_X9_finds_7 Z m s j6) 100000 ((0 : Int32), T2) = _ from this).trans ?_
      rw [hj]
      have e23 : T2.1 m 23 = -1 := by rw [hT2]; exact pI_same _ _ _ _
      rw [e23, if_pos rfl]
theorem J_caseOf (h : q_Rel Z x m N pb ns nk nc S T) (s : Int32) : q_JR Z x m (N + 1) [("java/util/NoSuchElementException", 1)] (fun a b => a = b) S T (f_X8_caseOf Z S x s) (f_X9_caseOf Z T m s) := by
  obtain ⟨T0, e0, z0, f0, h0⟩ := q_zero h
  have hM := h0.M
  obtain ⟨cnt, t, t9, c5, hg, hser, hst⟩ := h0.sta
  rcases q_find h0 z0 c5 hser hst s with ⟨c, k, T1, hc, hk, hs, g1, g2, r1, r23, r24, z1, f1, h1, -, -⟩ | ⟨T1, g1, r1, z1, f1, h1⟩
  · refine q_JR_ok h1 (q_ag_trans f0 f1) z1 (a := Int32.ofNat c) (b := Int32.ofNat c) g1 ?_ rfl
    unfold f_X9_caseOf
    rw [m_gd_t hM.o, m_lt_s, e0, r1, m_bw_s, e_may1 hM.o z10 z1, m_bw_s, if_neg z10, r23]
  · refine q_JR_er h1 (q_ag_trans f0 f1) (s := "java/util/NoSuchElementException") (b := 0) (k := 1) g1 ?_ (by simp)
    unfold f_X9_caseOf
    rw [m_gd_t hM.o, m_lt_s, e0, r1, m_bw_s, e_may0 hM.o z1 z10, m_bw_s, if_pos z00]
end FIND
