/-! halving steps and single steps find the same place -/
theorem q_cut (P : Nat → Prop) (mono : ∀ a b, a ≤ b → b ≤ 1000 → P b → P a) : ∃ r, r ≤ 1001 ∧ ∀ h, h ≤ 1000 → (P h ↔ h < r) := by
  have key : ∀ n, n ≤ 1001 → ∃ r, r ≤ n ∧ ∀ h, h < n → (P h ↔ h < r) := by
    intro n
    induction n with
    | zero => exact fun _ => ⟨0, Nat.le_refl _, fun h hh => absurd hh (Nat.not_lt_zero _)⟩
    | succ n ih =>
      intro hn
      obtain ⟨r, r1, r2⟩ := ih (by omega)
      by_cases q : P n
      · refine ⟨n + 1, Nat.le_refl _, fun h hh => ⟨fun _ => hh, fun _ => mono h n (by omega) (by omega) q⟩⟩
      · refine ⟨r, by omega, fun h hh => ?_⟩
        by_cases e : h = n
        · subst e
          exact ⟨fun z => absurd z q, fun z => by omega⟩
        · exact r2 h (by omega)
  obtain ⟨r, r1, r2⟩ := key 1001 (Nat.le_refl _)
  exact ⟨r, r1, fun h hh => r2 h (by omega)⟩
theorem io_pred {u : Nat} (hu : u < 2147483648) {v : Nat} (hv : v < 2147483648) (h1 : 1 ≤ u + v) : (Int32.ofNat u - 1) + Int32.ofNat v = Int32.ofNat (u + v - 1) := by
  by_cases h : u + v < 2147483648
  · rw [t_eq, t_ofNat (by omega), t_add (by rw [t_sub (by rw [t_ofNat hu, i32_1]; omega) (by rw [t_ofNat hu, i32_1]; omega), t_ofNat hu, t_ofNat hv, i32_1]; omega) (by rw [t_sub (by rw [t_ofNat hu, i32_1]; omega) (by rw [t_ofNat hu, i32_1]; omega), t_ofNat hu, t_ofNat hv, i32_1]; omega), t_sub (by rw [t_ofNat hu, i32_1]; omega) (by rw [t_ofNat hu, i32_1]; omega), t_ofNat hu, t_ofNat hv, i32_1]
    omega
  · have e : Int32.ofNat (u + v - 1) = Int32.ofNat (u + v) - Int32.ofNat 1 := (io_sub (by omega)).symm
    rw [e, ← io_add]
    show Int32.ofNat u - Int32.ofNat 1 + Int32.ofNat v = _
    rw [Int32.sub_eq_add_neg, Int32.sub_eq_add_neg, Int32.add_assoc, Int32.add_assoc, Int32.add_comm (-Int32.ofNat 1)]
theorem io_half (j : Nat) (hj : j < 30) : Int32.ofNat (2 ^ (j + 1)) / (2 : Int32) = Int32.ofNat (2 ^ j) := by
  have h : 2 ^ (j + 1) < 2147483648 := by
    have := Nat.pow_lt_pow_right (a := 2) (by decide) (show j + 1 < 31 by omega)
    omega
  have h2 : 2 ^ j < 2147483648 := by have := Nat.pow_succ (n := 2) (m := j); omega
  have e := Nat.pow_succ (n := 2) (m := j)
  have k2 : (2 : Int32).toInt = 2 := rfl
  rw [t_eq, t_div (by decide), t_ofNat h, t_ofNat h2, k2, d_pos (by omega)]
  omega
section HALF
variable {Z : m_Z} {x m N pb ns nk nc : Nat} {S T : m_S}
theorem g_own {Z : m_Z} {S : m_S} {ca r : Nat} (f : Nat → Int32) (g : m_ok Z ca 0) (hf : ∀ h, h ≤ 1000 → f_X0_moistureAt Z S ca (Int32.ofNat h) = some (f h)) (hr : r ≤ 1001) (hP : ∀ h, h ≤ 1000 → (f h ≤ S.1 ca 3 ↔ h < r)) : f_X0_ownHumidity Z S ca = some (Int32.ofNat r - 1) := by
  unfold f_X0_ownHumidity
  refine m_jp_i (fun j2 hj => ?_)
  have fin : ∀ (u fuel : Nat), 0 < fuel → u = r → m_fx (F_X0_ownHumidity_6 Z S ca j2) fuel (Int32.ofNat u - 1, Int32.ofNat 0) = j2 (Int32.ofNat r - 1) := by
    intro u fuel hf0 hu
    obtain ⟨fu, rfl⟩ : ∃ f, fuel = f + 1 := ⟨fuel - 1, by omega⟩
    subst hu
    rw [m_fx_s]
    unfold F_X0_ownHumidity_6
    simp only []
    rw [if_pos (show Int32.ofNat 0 ≤ 0 from Int32.le_refl _)]
  have nxt : ∀ j, j < 10 → Int32.ofNat (2 ^ j) / (2 : Int32) = Int32.ofNat (if j = 0 then 0 else 2 ^ (j - 1)) := by
    intro j hj
    cases j with
    | zero => rfl
    | succ j => rw [io_half j (by omega)]; rfl
  have key : ∀ (j u fuel : Nat), j < 10 → j + 1 < fuel → u ≤ r → r < u + 2 * 2 ^ j → m_fx (F_X0_ownHumidity_6 Z S ca j2) fuel (Int32.ofNat u - 1, Int32.ofNat (2 ^ j)) = j2 (Int32.ofNat r - 1) := by
    intro j
    induction j with
    | zero =>
      intro u fuel hj0 hfu hu1 hu2
      obtain ⟨fu, rfl⟩ : ∃ f, fuel = f + 1 := ⟨fuel - 1, by omega⟩
      rw [m_fx_s]
      have f1 := fin u fu (by omega)
      have f2 := fin (u + 1) fu (by omega)
      generalize m_fx (F_X0_ownHumidity_6 Z S ca j2) fu = lp at *
      unfold F_X0_ownHumidity_6
      simp only []
      rw [if_neg (show ¬ Int32.ofNat (2 ^ 0) ≤ 0 by decide), m_lt_s, io_pred (by omega) (by omega) (by omega)]
      have e0 : Int32.ofNat (2 ^ 0) / (2 : Int32) = Int32.ofNat 0 := nxt 0 (by omega)
      have eu : u + 2 ^ 0 - 1 = u := by omega
      rw [eu]
      by_cases c1 : u ≤ 1000
      · rw [if_neg (show ¬ (1000 : Int32) < Int32.ofNat u from fun z => absurd ((io_lt (a := 1000) (by omega) (by omega)).mp z) (by omega)), m_gd_t g, hf u c1, m_b1_s]
        by_cases c2 : u < r
        · rw [if_neg (Int32.not_lt.mpr ((hP u c1).mpr c2)), m_lt_s, e0, show Int32.ofNat u = Int32.ofNat (u + 1) - 1 from by
            rw [show (1 : Int32) = Int32.ofNat 1 from rfl, io_sub (by omega)]; rfl]
          exact f2 (by omega)
        · rw [if_pos (Int32.not_le.mp (fun z => c2 ((hP u c1).mp z))), m_lt_s, e0]
          exact f1 (by omega)
      · rw [if_pos (show (1000 : Int32) < Int32.ofNat u from (io_lt (a := 1000) (by omega) (by omega)).mpr (by omega)), m_lt_s, e0]
        exact f1 (by omega)
    | succ j ih =>
      intro u fuel hj0 hfu hu1 hu2
      obtain ⟨fu, rfl⟩ : ∃ f, fuel = f + 1 := ⟨fuel - 1, by omega⟩
      have p1 := Nat.pow_succ (n := 2) (m := j)
      have p2 : 2 ^ (j + 1) ≤ 512 := Nat.pow_le_pow_right (n := 2) (by decide) (show j + 1 ≤ 9 by omega)
      have p3 := Nat.two_pow_pos j
      rw [m_fx_s]
      have f1 := ih u fu (by omega) (by omega)
      have f2 := ih (u + 2 ^ (j + 1)) fu (by omega) (by omega)
      generalize m_fx (F_X0_ownHumidity_6 Z S ca j2) fu = lp at *
      unfold F_X0_ownHumidity_6
      simp only []
      rw [if_neg (show ¬ Int32.ofNat (2 ^ (j + 1)) ≤ 0 from fun z => by
        rw [t_le, t_ofNat (by omega), i32_0] at z; omega), m_lt_s, io_pred (by omega) (by omega) (by omega), io_half j (by omega)]
      by_cases c1 : u + 2 ^ (j + 1) - 1 ≤ 1000
      · rw [if_neg (show ¬ (1000 : Int32) < Int32.ofNat (u + 2 ^ (j + 1) - 1) from fun z => absurd ((io_lt (a := 1000) (by omega) (by omega)).mp z) (by omega)), m_gd_t g, hf _ c1, m_b1_s]
        by_cases c2 : u + 2 ^ (j + 1) - 1 < r
        · rw [if_neg (Int32.not_lt.mpr ((hP _ c1).mpr c2)), m_lt_s, show Int32.ofNat (u + 2 ^ (j + 1) - 1) = Int32.ofNat (u + 2 ^ (j + 1)) - 1 from by
            rw [show (1 : Int32) = Int32.ofNat 1 from rfl, io_sub (by omega)]]
          exact f2 (by omega) (by omega)
        · rw [if_pos (Int32.not_le.mp (fun z => c2 ((hP _ c1).mp z))), m_lt_s]
          exact f1 (by omega) (by omega)
      · rw [if_pos (show (1000 : Int32) < Int32.ofNat (u + 2 ^ (j + 1) - 1) from (io_lt (a := 1000) (by omega) (by omega)).mpr (by omega)), m_lt_s]
        exact f1 (by omega) (by omega)
  have := key 9 0 100000 (by omega) (by omega) (by omega) (by omega)
  exact (show m_fx (F_X0_ownHumidity_6 Z S ca j2) 100000 ((-1 : Int32), (512 : Int32)) = _ from this).trans (hj _)
theorem e_own {Z : m_Z} {T : m_S} {m c k r : Nat} {kd : Nat} {mass mo : Int32} (h : q_M Z T.2.2 m) (hc : c < 6) (hk : k < 6) (h1 : T.1 (m + 3) (12 + 56 * c + 4 * k + 1) = Int32.ofNat kd) (h2 : T.1 (m + 3) (12 + 56 * c + 4 * k + 2) = mass) (h3 : T.1 (m + 3) (12 + 56 * c + 4 * k + 3) = mo) (kd4 : kd < 4) (hw : q_wk (T.1 (m + 1)) kd) (hr : r ≤ 1001) (hP : ∀ h, h ≤ 1000 → (q_mp (T.1 (m + 1)) kd mass (Int32.ofNat h) ≤ mo ↔ h < r)) : f_X9_ownHumidity Z T m (Int32.ofNat c) (Int32.ofNat k) = some (Int32.ofNat r - 1) := by
  unfold f_X9_ownHumidity
  refine m_jp_i (fun j2 hj => ?_)
  have key : ∀ (d u fuel : Nat), u = r + d → u ≤ 1001 → d + 1 < fuel → m_fx (F_X9_ownHumidity_4 Z T m (Int32.ofNat c) (Int32.ofNat k) j2) fuel (Int32.ofNat u - 1) = j2 (Int32.ofNat r - 1) := by
    intro d
    induction d with
    | zero =>
      intro u fuel hu u9 hfu
      obtain ⟨fu, rfl⟩ : ∃ f, fuel = f + 1 := ⟨fuel - 1, by omega⟩
      have : u = r := by omega
      subst this
      rw [m_fx_s]
      unfold F_X9_ownHumidity_4
      by_cases c0 : u = 0
      · subst c0
        rw [if_pos (by decide)]
      · have e1 : Int32.ofNat u - 1 = Int32.ofNat (u - 1) := by rw [show (1 : Int32) = Int32.ofNat 1 from rfl, io_sub (by omega)]
        rw [e1, if_neg (io_nn (n := 1001) (by omega) (by omega)), m_gd_t h.o, e_its (wi := 1) h (w := 1) rfl hc hk (by omega), h1, m_b1_s, e_its (wi := 2) h (w := 2) rfl hc hk (by omega), h2, m_b1_s, e_would h kd4 hw, m_b1_s, e_its (wi := 3) h (w := 3) rfl hc hk (by omega), h3, m_b1_s, if_pos ((hP (u - 1) (by omega)).mpr (by omega))]
    | succ d ih =>
      intro u fuel hu u9 hfu
      obtain ⟨fu, rfl⟩ : ∃ f, fuel = f + 1 := ⟨fuel - 1, by omega⟩
      have f1 := ih (u - 1) fu (by omega) (by omega) (by omega)
      rw [m_fx_s]
      generalize m_fx (F_X9_ownHumidity_4 Z T m (Int32.ofNat c) (Int32.ofNat k) j2) fu = lp at *
      unfold F_X9_ownHumidity_4
      have e1 : Int32.ofNat u - 1 = Int32.ofNat (u - 1) := by rw [show (1 : Int32) = Int32.ofNat 1 from rfl, io_sub (by omega)]
      have e2 : Int32.ofNat (u - 1) + (-1 : Int32) = Int32.ofNat (u - 1) - 1 := (Int32.sub_eq_add_neg _ _).symm
      rw [e1, if_neg (io_nn (n := 1001) (by omega) (by omega)), m_gd_t h.o, e_its (wi := 1) h (w := 1) rfl hc hk (by omega), h1, m_b1_s, e_its (wi := 2) h (w := 2) rfl hc hk (by omega), h2, m_b1_s, e_would h kd4 hw, m_b1_s, e_its (wi := 3) h (w := 3) rfl hc hk (by omega), h3, m_b1_s, if_neg (fun z => absurd ((hP (u - 1) (by omega)).mp z) (by omega)), m_lt_s, e2]
      exact f1
  have := key (1001 - r) 1001 100000 (by omega) (by omega) (by omega)
  exact (show m_fx (F_X9_ownHumidity_4 Z T m (Int32.ofNat c) (Int32.ofNat k) j2) 100000 (1000 : Int32) = _ from this).trans (hj _)
end HALF
