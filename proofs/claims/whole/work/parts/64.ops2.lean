/-! .. of the class -/
def q_put (S : m_S) (v n kd : Nat) (s mass mo : Int32) : m_S := m_pI (m_pI (m_pI (m_pR (m_pI S (v + 2 + n) 0 s) (v + 2 + n) 1 (some kd)) (v + 2 + n) 2 mass) (v + 2 + n) 3 mo) v 5 (Int32.ofNat (n + 1))
theorem g_put {Z : m_Z} {S : m_S} {v n kd : Nat} {s mass mo : Int32} (g : q_V Z S.2.2 v) (hn : S.1 v 5 = Int32.ofNat n) (n6 : n < 6) : f_X7_put Z S v s kd mass mo = some ((), q_put S v n kd s mass mo) := by
  unfold f_X7_put
  rw [m_gd_t g.1, g.2.1.1, m_b1_s, m_gd_t g.2.1.2.1, g.2.1.2.2, hn, if_neg (fun q => absurd ((io_le (by omega) (by omega)).mp q) (by omega)), m_gd_t (io_in (by omega) (by omega)), io_tn (by omega), (g.2.2 n n6).1, m_b1_s, m_gd_t (g.2.2 n n6).2]
  unfold f_X0_begin
  rw [m_gd_t (g.2.2 n n6).2, m_lt_s, m_lt_s, m_lt_s, m_lt_s, m_bw_s, m_lt_s]
  have e : (m_pI (m_pI (m_pR (m_pI S (v + 2 + n) 0 s) (v + 2 + n) 1 (some kd)) (v + 2 + n) 2 mass) (v + 2 + n) 3 mo).1 v 5 = Int32.ofNat n := by
    rw [pI_ne (by omega), pI_ne (by omega)]
    show (m_pI S (v + 2 + n) 0 s).1 v 5 = _
    rw [pI_ne (by omega)]; exact hn
  rw [e, io_one]
  rfl
theorem q_put_ag (S : m_S) (v n kd : Nat) (s mass mo : Int32) : q_ag (fun y k => ¬ y = v + 2 + n ∧ ¬ (y = v ∧ k = 5)) S (q_put S v n kd s mass mo) := q_ag_I (q_ag_I (q_ag_I (q_ag_R (q_ag_I (q_ag_refl _ S) (by omega)) (by omega)) (by omega)) (by omega)) (by omega)
theorem q_put_c {S : m_S} {v n kd : Nat} {s mass mo : Int32} : (q_put S v n kd s mass mo).1 v 5 = Int32.ofNat (n + 1) ∧ (q_put S v n kd s mass mo).1 (v + 2 + n) 0 = s ∧ (q_put S v n kd s mass mo).2.2 (v + 2 + n) 1 = some kd ∧ (q_put S v n kd s mass mo).1 (v + 2 + n) 2 = mass ∧ (q_put S v n kd s mass mo).1 (v + 2 + n) 3 = mo := by
  unfold q_put
  refine ⟨pI_same _ _ _ _, ?_, ?_, ?_, ?_⟩
  · rw [pI_ne (by omega), pI_ne (by omega), pI_ne (by omega)]
    show (m_pI S (v + 2 + n) 0 s).1 (v + 2 + n) 0 = s
    exact pI_same _ _ _ _
  · show (m_pR (m_pI S (v + 2 + n) 0 s) (v + 2 + n) 1 (some kd)).2.2 (v + 2 + n) 1 = some kd
    exact pR_same _ _ _ _
  · rw [pI_ne (by omega), pI_ne (by omega), pI_same]
  · rw [pI_ne (by omega), pI_same]
theorem g_moOf {Z : m_Z} {S : m_S} {v k : Nat} (g : q_V Z S.2.2 v) (k6 : k < 6) : f_X7_moistureOf Z S v (Int32.ofNat k) = some (S.1 (v + 2 + k) 3) := by
  unfold f_X7_moistureOf
  rw [if_neg (io_nn k6 (by omega)), m_gd_t g.1, g.2.1.1, m_b1_s, m_gd_t g.2.1.2.1, g.2.1.2.2, if_pos ((io_lt (by omega) (by omega)).mpr k6), m_gd_t (io_in (by omega) (by omega)), io_tn (by omega), (g.2.2 k k6).1, m_b1_s, m_gd_t (g.2.2 k k6).2]
theorem g_full {Z : m_Z} {S : m_S} {v n : Nat} (g : q_V Z S.2.2 v) (hn : S.1 v 5 = Int32.ofNat n) (n6 : n ≤ 6) : f_X7_isFull Z S v = some (if n < 5 then 0 else 1) := by
  unfold f_X7_isFull
  rw [m_gd_t g.1, hn]
  by_cases q : n < 5
  · rw [if_pos (show Int32.ofNat n < 5 from (io_lt (b := 5) (by omega) (by omega)).mpr q), if_pos q]
  · rw [if_neg (show ¬ Int32.ofNat n < 5 from fun z => q ((io_lt (b := 5) (by omega) (by omega)).mp z)), if_neg q]
/-- a cassette's copy -/
def q_cpc (S : m_S) (a b : Nat) : m_S := m_pI (m_pI (m_pR (m_pI S a 0 (S.1 b 0)) a 1 (S.2.2 b 1)) a 2 (S.1 b 2)) a 3 (S.1 b 3)
theorem g_copyC {Z : m_Z} {S : m_S} {a b kd : Nat} (ga : m_ok Z a 0) (gb : m_ok Z b 0) (hr : S.2.2 b 1 = some kd) (hab : a ≠ b) : f_X0_copyFrom Z S a b = some ((), q_cpc S a b) := by
  unfold f_X0_copyFrom
  rw [m_gd_t gb, m_gd_t ga, m_lt_s]
  show m_b1 (S.2.2 b 1) _ = _
  rw [hr, m_b1_s, m_lt_s]
  have e2 : (m_pR (m_pI S a 0 (S.1 b 0)) a 1 (some kd)).1 b 2 = S.1 b 2 := by
    show (m_pI S a 0 (S.1 b 0)).1 b 2 = _
    rw [pI_ne (by omega)]
  rw [e2, m_lt_s]
  have e3 : (m_pI (m_pR (m_pI S a 0 (S.1 b 0)) a 1 (some kd)) a 2 (S.1 b 2)).1 b 3 = S.1 b 3 := by
    rw [pI_ne (by omega)]
    show (m_pI S a 0 (S.1 b 0)).1 b 3 = _
    rw [pI_ne (by omega)]
  rw [e3, m_lt_s]
  unfold q_cpc
  rw [hr]
theorem q_cpc_ag (S : m_S) (a b : Nat) : q_ag (fun y _ => ¬ y = a) S (q_cpc S a b) := q_ag_I (q_ag_I (q_ag_R (q_ag_I (q_ag_refl _ S) (by omega)) (by omega)) (by omega)) (by omega)
theorem q_cpc_c {S : m_S} {a b : Nat} (hab : a ≠ b) : (∀ k, k < 4 → k ≠ 1 → (q_cpc S a b).1 a k = S.1 b k) ∧ (q_cpc S a b).1 a 1 = S.1 a 1 ∧ (q_cpc S a b).2.2 a 1 = S.2.2 b 1 := by
  unfold q_cpc
  refine ⟨fun k hk h1 => ?_, ?_, ?_⟩
  · have : k = 0 ∨ k = 2 ∨ k = 3 := by omega
    rcases this with rfl | rfl | rfl
    · rw [pI_ne (by omega), pI_ne (by omega)]
      show (m_pI S a 0 (S.1 b 0)).1 a 0 = _
      exact pI_same _ _ _ _
    · rw [pI_ne (by omega), pI_same]
    · rw [pI_same]
  · rw [pI_ne (by omega), pI_ne (by omega)]
    show (m_pI S a 0 (S.1 b 0)).1 a 1 = _
    rw [pI_ne (by omega)]
  · show (m_pR (m_pI S a 0 (S.1 b 0)) a 1 (S.2.2 b 1)).2.2 a 1 = S.2.2 b 1
    exact pR_same _ _ _ _
/-- taking out: S with the cassettes behind k0 moved up as far as place i -/
def q_mv (v n k0 i : Nat) (S S' : m_S) : Prop := q_ag (fun y _ => ¬ (v + 2 ≤ y ∧ y < v + 2 + n)) S S' ∧ ∀ j, j < n → (∀ k, k < 4 → k ≠ 1 → S'.1 (v + 2 + j) k = S.1 (v + 2 + (if k0 ≤ j ∧ j < i then j + 1 else j)) k) ∧ S'.2.2 (v + 2 + j) 1 = S.2.2 (v + 2 + (if k0 ≤ j ∧ j < i then j + 1 else j)) 1
theorem q_V_cg {Z : m_Z} {R R' : Nat → Nat → Option Nat} {v : Nat} (g : q_V Z R v) (h : ∀ b, b < v + 2 → R' b = R b) : q_V Z R' v := by
  refine ⟨g.1, ⟨?_, g.2.1.2⟩, fun k hk => ⟨?_, (g.2.2 k hk).2⟩⟩
  · rw [h v (by omega)]; exact g.2.1.1
  · rw [h (v + 1) (by omega)]; exact (g.2.2 k hk).1
theorem g_takeOut {Z : m_Z} {S : m_S} {v n k0 : Nat} (g : q_V Z S.2.2 v) (hn : S.1 v 5 = Int32.ofNat n) (n6 : n ≤ 6) (hk0 : k0 < n) (hkind : ∀ j, j < n → ∃ d, S.2.2 (v + 2 + j) 1 = some d) : ∃ S', f_X7_takeOut Z S v (Int32.ofNat k0) = some ((), S') ∧ S'.1 v 5 = Int32.ofNat (n - 1) ∧ (q_ag (fun y k => ¬ (v + 2 ≤ y ∧ y < v + 2 + n) ∧ ¬ (y = v ∧ k = 5)) S S' ∧ ∀ b j, ¬ (v + 2 ≤ b ∧ b < v + 2 + n) → S'.2.2 b j = S.2.2 b j) ∧ ∀ i, i < n - 1 → (∀ k, k < 4 → k ≠ 1 → S'.1 (v + 2 + i) k = S.1 (v + 2 + (if i < k0 then i else i + 1)) k) ∧ S'.2.2 (v + 2 + i) 1 = S.2.2 (v + 2 + (if i < k0 then i else i + 1)) 1 := by
  have hV : ∀ R : Nat → Nat → Option Nat, (∀ b, b < v + 2 → R b = S.2.2 b) → q_V Z R v := fun R hR => q_V_cg g hR
  have key : ∀ (j7 : m_S → Option (Unit × m_S)) (d i fuel : Nat) (U : m_S), d + i = n - 1 → d < fuel → k0 ≤ i → q_mv v n k0 i S U → ∃ U', q_mv v n k0 (n - 1) S U' ∧ m_fx (F_X7_takeOut_15 Z v j7) fuel (Int32.ofNat i, U) = j7 U' := by
    intro j7 d
    induction d with
    | zero =>
      intro i fuel U h1 h2 h3 hm
      obtain ⟨f, rfl⟩ : ∃ f, fuel = f + 1 := ⟨fuel - 1, by omega⟩
      have : i = n - 1 := by omega
      subst this
      refine ⟨U, hm, ?_⟩
      rw [m_fx_s]
      unfold F_X7_takeOut_15
      simp only []
      rw [(hm.1 v 5 (by omega)).1, hn, io_one, if_pos ((io_le (by omega) (by omega)).mpr (by omega))]
    | succ d ih =>
      intro i fuel U h1 h2 h3 hm
      obtain ⟨f, rfl⟩ : ∃ f, fuel = f + 1 := ⟨fuel - 1, by omega⟩
      have gU : q_V Z U.2.2 v := hV U.2.2 (fun b hb => funext fun k => (hm.1 b k (by omega)).2.2)
      obtain ⟨dd, hdd⟩ := hkind (i + 1) (by omega)
      have hdU : U.2.2 (v + 2 + (i + 1)) 1 = some dd := by
        rw [(hm.2 (i + 1) (by omega)).2, if_neg (by omega)]; exact hdd
      have hc := q_cpc_c (S := U) (a := v + 2 + i) (b := v + 2 + (i + 1)) (by omega)
      have ha := q_cpc_ag U (v + 2 + i) (v + 2 + (i + 1))
      have hm' : q_mv v n k0 (i + 1) S (q_cpc U (v + 2 + i) (v + 2 + (i + 1))) := by
        refine ⟨q_ag_trans hm.1 (fun b k hb => ha b k (by omega)), fun j hj => ⟨fun k hk hk1 => ?_, ?_⟩⟩
        · by_cases e : j = i
          · subst e
            rw [hc.1 k hk hk1, (hm.2 (j + 1) (by omega)).1 k hk hk1, if_neg (by omega), if_pos (by omega)]
          · rw [(ha _ _ (by omega)).1, (hm.2 j hj).1 k hk hk1]
            by_cases e2 : k0 ≤ j ∧ j < i
            · rw [if_pos e2, if_pos (by omega)]
            · rw [if_neg e2, if_neg (by omega)]
        · by_cases e : j = i
          · subst e
            rw [hc.2.2, (hm.2 (j + 1) (by omega)).2, if_neg (by omega), if_pos (by omega)]
          · rw [(ha _ _ (by omega)).2.2, (hm.2 j hj).2]
            by_cases e2 : k0 ≤ j ∧ j < i
            · rw [if_pos e2, if_pos (by omega)]
            · rw [if_neg e2, if_neg (by omega)]
      obtain ⟨U', hU', ih'⟩ := ih (i + 1) f _ (by omega) (by omega) (by omega) hm'
      refine ⟨U', hU', ?_⟩
      rw [m_fx_s]
      generalize m_fx (F_X7_takeOut_15 Z v j7) f = lp at *
      unfold F_X7_takeOut_15
      simp only []
      rw [(hm.1 v 5 (by omega)).1, hn, io_one, if_neg (fun q => absurd ((io_le (by omega) (by omega)).mp q) (by omega)), gU.2.1.1, m_b1_s, m_gd_t gU.2.1.2.1, gU.2.1.2.2, if_neg (fun q => absurd ((io_le (by omega) (by omega)).mp q) (by omega)), m_gd_t (io_in (by omega) (by omega)), io_tn (by omega), (gU.2.2 i (by omega)).1, m_b1_s, m_lt_s, m_gd_t (io_in (by omega) (by omega)), io_tn (by omega), (gU.2.2 (i + 1) (by omega)).1, m_b1_s, m_gd_t (gU.2.2 i (by omega)).2, g_copyC (gU.2.2 i (by omega)).2 (gU.2.2 (i + 1) (by omega)).2 hdU (by omega), m_bw_s, m_lt_s]
      exact ih'
  have hm0 : q_mv v n k0 k0 S S := ⟨q_ag_refl _ S, fun j hj => ⟨fun k _ _ => by rw [if_neg (by omega)], by rw [if_neg (by omega)]⟩⟩
  unfold f_X7_takeOut
  rw [if_neg (io_nn hk0 (by omega)), m_gd_t g.1, hn, if_pos ((io_lt (by omega) (by omega)).mpr hk0)]
  obtain ⟨j7, hj7⟩ : ∃ j : m_S → Option (Unit × m_S), j = (fun (S4 : m_S) => m_lt (m_pI S4 v 5 ((S4.1 v 5) - (1 : Int32))) (fun S5 => some ((), S5))) := ⟨_, rfl⟩
  obtain ⟨U, hU, hr⟩ := key j7 (n - 1 - k0) k0 100000 S (by omega) (by omega) (Nat.le_refl _) hm0
  refine ⟨m_pI U v 5 (Int32.ofNat (n - 1)), ?_, pI_same _ _ _ _, ⟨?_, fun b j hb => (hU.1 b j hb).2.2⟩, fun i hi => ⟨fun k hk hk1 => ?_, ?_⟩⟩
  · rw [m_jp_s, ← hj7, hr, hj7]
    show m_lt _ _ = _
    rw [m_lt_s, (hU.1 v 5 (by omega)).1, hn, show (1 : Int32) = Int32.ofNat 1 from rfl, io_sub (by omega)]
  · exact q_ag_I (fun b k hb => hU.1 b k hb.1) (by omega)
  · rw [pI_ne (by omega), (hU.2 i (by omega)).1 k hk hk1]
    by_cases e : i < k0
    · rw [if_neg (by omega), if_pos e]
    · rw [if_pos (by omega), if_neg e]
  · show U.2.2 (v + 2 + i) 1 = _
    rw [(hU.2 i (by omega)).2]
    by_cases e : i < k0
    · rw [if_neg (by omega), if_pos e]
    · rw [if_pos (by omega), if_neg e]
