/-! where a case comes to rest -/
def q_sa (a : Int32) (g : Nat → Int32) : Nat → Int32
  | 0 => a
  | n + 1 => q_sa a g n + g n
def q_sl (a : Int64) (g : Nat → Int32) : Nat → Int64
  | 0 => a
  | n + 1 => q_sl a g n + (g n).toInt64
theorem q_sa_t {a : Int32} {g : Nat → Int32} (ha : 0 ≤ a.toInt ∧ a.toInt ≤ 9999) : ∀ {n : Nat}, n ≤ 6 → (∀ i, i < n → 0 ≤ (g i).toInt ∧ (g i).toInt ≤ 9989) → (0 ≤ (q_sa a g n).toInt ∧ (q_sa a g n).toInt ≤ 9999 + 9989 * n) ∧ q_sl a.toInt64 g n = (q_sa a g n).toInt64
  | 0, _, _ => ⟨by show 0 ≤ a.toInt ∧ a.toInt ≤ _; omega, rfl⟩
  | n + 1, h6, h => by
    obtain ⟨h1, h2⟩ := q_sa_t (g := g) ha (n := n) (by omega) (fun i hi => h i (by omega))
    have hn := h n (by omega)
    have e : (q_sa a g n + g n).toInt = (q_sa a g n).toInt + (g n).toInt := t_add (by omega) (by omega)
    refine ⟨?_, ?_⟩
    · show 0 ≤ (q_sa a g n + g n).toInt ∧ (q_sa a g n + g n).toInt ≤ _
      rw [e]; omega
    · show q_sl a.toInt64 g n + (g n).toInt64 = (q_sa a g n + g n).toInt64
      rw [h2, l_eq, l_of, e, l_add (by rw [l_of, l_of]; omega) (by rw [l_of, l_of]; omega), l_of, l_of]
theorem q_sa_mono {a a' : Int32} {g g' : Nat → Int32} (ha : 0 ≤ a.toInt ∧ a.toInt ≤ 9999) (ha' : 0 ≤ a'.toInt ∧ a'.toInt ≤ 9999) (haa : a.toInt ≤ a'.toInt) : ∀ {n : Nat}, n ≤ 6 → (∀ i, i < n → 0 ≤ (g i).toInt ∧ (g i).toInt ≤ 9989) → (∀ i, i < n → 0 ≤ (g' i).toInt ∧ (g' i).toInt ≤ 9989) → (∀ i, i < n → (g i).toInt ≤ (g' i).toInt) → (q_sa a g n).toInt ≤ (q_sa a' g' n).toInt
  | 0, _, _, _, _ => haa
  | n + 1, h6, h, h', hle => by
    have h1 := (q_sa_t (g := g) ha (n := n) (by omega) (fun i hi => h i (by omega))).1
    have h1' := (q_sa_t (g := g') ha' (n := n) (by omega) (fun i hi => h' i (by omega))).1
    have ih := q_sa_mono ha ha' haa (n := n) (by omega) (fun i hi => h i (by omega)) (fun i hi => h' i (by omega)) (fun i hi => hle i (by omega))
    have hn := h n (by omega)
    have hn' := h' n (by omega)
    have hl := hle n (by omega)
    show (q_sa a g n + g n).toInt ≤ (q_sa a' g' n + g' n).toInt
    rw [t_add (by omega) (by omega), t_add (by omega) (by omega)]; omega
theorem g_moAt {Z : m_Z} {S : m_S} {v n : Nat} {hum : Int32} (f : Nat → Int32) (g : q_V Z S.2.2 v) (hn : S.1 v 5 = Int32.ofNat n) (n6 : n ≤ 6) (hf : ∀ i, i < n → f_X0_moistureAt Z S (v + 2 + i) hum = some (f i)) : f_X7_moistureAt Z S v hum = some (q_sa (S.1 v 0 * hum / (1000 : Int32)) f n) := by
  unfold f_X7_moistureAt f_X7_airAt
  rw [m_gd_t g.1, m_gd_t g.1, m_b1_s]
  refine m_jp_i (fun j5 hj => ?_)
  have key : ∀ d i fuel, d + i = n → d < fuel → m_fx (F_X7_moistureAt_8 Z S v hum j5) fuel (q_sa (S.1 v 0 * hum / (1000 : Int32)) f i, Int32.ofNat i) = j5 (q_sa (S.1 v 0 * hum / (1000 : Int32)) f n) := by
    intro d
    induction d with
    | zero =>
      intro i fuel h1 h2
      obtain ⟨fu, rfl⟩ : ∃ f, fuel = f + 1 := ⟨fuel - 1, by omega⟩
      have : i = n := by omega
      subst this
      rw [m_fx_s]
      unfold F_X7_moistureAt_8
      simp only []
      rw [hn, if_pos ((io_le (by omega) (by omega)).mpr (Nat.le_refl _))]
    | succ d ih =>
      intro i fuel h1 h2
      obtain ⟨fu, rfl⟩ : ∃ f, fuel = f + 1 := ⟨fuel - 1, by omega⟩
      have ih' := ih (i + 1) fu (by omega) (by omega)
      rw [m_fx_s]
      generalize m_fx (F_X7_moistureAt_8 Z S v hum j5) fu = lp at *
      unfold F_X7_moistureAt_8
      simp only [io_tn (show i < 2147483648 by omega)]
      rw [hn, if_neg (fun q => absurd ((io_le (by omega) (by omega)).mp q) (by omega)), g.2.1.1, m_b1_s, m_gd_t g.2.1.2.1, if_neg (show ¬ Int32.ofNat (Z.2.2 (v + 1)) ≤ Int32.ofNat i from by rw [g.2.1.2.2]; exact fun q => absurd ((io_le (by omega) (by omega)).mp q) (by omega)), m_gd_t (q_inn g.2.1.2 (by omega) (by omega)), (g.2.2 i (by omega)).1, m_b1_s, m_gd_t (g.2.2 i (by omega)).2, hf i (by omega), m_b1_s, m_lt_s, m_lt_s, io_one]
      exact ih'
  have := key n 0 100000 (by omega) (by omega)
  exact this.trans (hj _)
theorem g_rest {Z : m_Z} {S : m_S} {v r : Nat} {W : Int32} (f : Nat → Int32) (g : m_ok Z v 7) (hW : f_X7_moisture Z S v = some W) (hf : ∀ h, h ≤ 1000 → f_X7_moistureAt Z S v (Int32.ofNat h) = some (f h)) (hr : r ≤ 1001) (hP : ∀ h, h ≤ 1000 → (f h < W ↔ h < r)) : f_X7_restHumidity Z S v = some (if r ≤ 1000 then Int32.ofNat r else -1) := by
  unfold f_X7_restHumidity
  rw [m_gd_t g, hW, m_b1_s]
  refine m_jp_i (fun j6 hj => ?_)
  have fin : ∀ (u fuel : Nat), 0 < fuel → u = r → m_fx (F_X7_restHumidity_11 Z S v W j6) fuel (Int32.ofNat u - 1, Int32.ofNat 0) = j6 (Int32.ofNat r - 1) := by
    intro u fuel hf0 hu
    obtain ⟨fu, rfl⟩ : ∃ f, fuel = f + 1 := ⟨fuel - 1, by omega⟩
    subst hu
    rw [m_fx_s]
    unfold F_X7_restHumidity_11
    simp only []
    rw [if_pos (show Int32.ofNat 0 ≤ 0 from Int32.le_refl _)]
  have key : ∀ (j u fuel : Nat), j < 10 → j + 1 < fuel → u ≤ r → r < u + 2 * 2 ^ j → m_fx (F_X7_restHumidity_11 Z S v W j6) fuel (Int32.ofNat u - 1, Int32.ofNat (2 ^ j)) = j6 (Int32.ofNat r - 1) := by
    intro j
    induction j with
    | zero =>
      intro u fuel hj0 hfu hu1 hu2
      obtain ⟨fu, rfl⟩ : ∃ f, fuel = f + 1 := ⟨fuel - 1, by omega⟩
      rw [m_fx_s]
      have f1 := fin u fu (by omega)
      have f2 := fin (u + 1) fu (by omega)
      generalize m_fx (F_X7_restHumidity_11 Z S v W j6) fu = lp at *
      unfold F_X7_restHumidity_11
      simp only []
      rw [if_neg (show ¬ Int32.ofNat (2 ^ 0) ≤ 0 by decide), m_lt_s, io_pred (by omega) (by omega) (by omega)]
      have e0 : Int32.ofNat (2 ^ 0) / (2 : Int32) = Int32.ofNat 0 := rfl
      have eu : u + 2 ^ 0 - 1 = u := by omega
      rw [eu]
      by_cases c1 : u ≤ 1000
      · rw [if_neg (show ¬ (1000 : Int32) < Int32.ofNat u from fun z => absurd ((io_lt (a := 1000) (by omega) (by omega)).mp z) (by omega)), hf u c1, m_b1_s]
        by_cases c2 : u < r
        · rw [if_neg (Int32.not_le.mpr ((hP u c1).mpr c2)), m_lt_s, e0, show Int32.ofNat u = Int32.ofNat (u + 1) - 1 from by
            rw [show (1 : Int32) = Int32.ofNat 1 from rfl, io_sub (by omega)]; rfl]
          exact f2 (by omega)
        · rw [if_pos (Int32.not_lt.mp (fun z => c2 ((hP u c1).mp z))), m_lt_s, e0]
          exact f1 (by omega)
      · rw [if_pos (show (1000 : Int32) < Int32.ofNat u from (io_lt (a := 1000) (by omega) (by omega)).mpr (by omega)), m_lt_s, e0]
        exact f1 (by omega)
    | succ j ih =>
      intro u fuel hj0 hfu hu1 hu2
      obtain ⟨fu, rfl⟩ : ∃ f, fuel = f + 1 := ⟨fuel - 1, by omega⟩
      have p1 := Nat.pow_succ (n := 2) (m := j)
      have p2 : 2 ^ (j + 1) ≤ 512 := Nat.pow_le_pow_right (n := 2) (by decide) (show j + 1 ≤ 9 by omega)
      have p3 := Nat.two_pow_pos j
      rw [m_fx_s]
      have f1 := ih u fu (by omega) (by omega)
      have f2 := ih (u + 2 ^ (j + 1)) fu (by omega) (by omega)
      generalize m_fx (F_X7_restHumidity_11 Z S v W j6) fu = lp at *
      unfold F_X7_restHumidity_11
      simp only []
      rw [if_neg (show ¬ Int32.ofNat (2 ^ (j + 1)) ≤ 0 from fun z => by
        rw [t_le, t_ofNat (by omega), i32_0] at z; omega), m_lt_s, io_pred (by omega) (by omega) (by omega), io_half j (by omega)]
      by_cases c1 : u + 2 ^ (j + 1) - 1 ≤ 1000
      · rw [if_neg (show ¬ (1000 : Int32) < Int32.ofNat (u + 2 ^ (j + 1) - 1) from fun z => absurd ((io_lt (a := 1000) (by omega) (by omega)).mp z) (by omega)), hf _ c1, m_b1_s]
        by_cases c2 : u + 2 ^ (j + 1) - 1 < r
        · rw [if_neg (Int32.not_le.mpr ((hP _ c1).mpr c2)), m_lt_s, show Int32.ofNat (u + 2 ^ (j + 1) - 1) = Int32.ofNat (u + 2 ^ (j + 1)) - 1 from by
            rw [show (1 : Int32) = Int32.ofNat 1 from rfl, io_sub (by omega)]]
          exact f2 (by omega) (by omega)
        · rw [if_pos (Int32.not_lt.mp (fun z => c2 ((hP _ c1).mp z))), m_lt_s]
          exact f1 (by omega) (by omega)
      · rw [if_pos (show (1000 : Int32) < Int32.ofNat (u + 2 ^ (j + 1) - 1) from (io_lt (a := 1000) (by omega) (by omega)).mpr (by omega)), m_lt_s]
        exact f1 (by omega) (by omega)
  have := key 9 0 100000 (by omega) (by omega) (by omega) (by omega)
  refine (show m_fx (F_X7_restHumidity_11 Z S v W j6) 100000 ((-1 : Int32), (512 : Int32)) = _ from this).trans ?_
  rw [hj]
  have k1 : (1 : Int32).toInt = 1 := rfl
  have kk : (1000 : Int32).toInt = 1000 := rfl
  have et : (Int32.ofNat r - 1).toInt = (r : Int) - 1 := by
    rw [t_sub (by rw [t_ofNat (by omega), k1]; omega) (by rw [t_ofNat (by omega), k1]; omega), t_ofNat (by omega), k1]
  by_cases c : r ≤ 1000
  · rw [if_pos c, if_pos (fun z => by have := t_eq.mp z; rw [et, kk] at this; omega)]
    congr 1
    rw [Int32.sub_add_cancel]
  · rw [if_neg c, if_neg (fun z => z (t_eq.mpr (by rw [et, kk]; omega)))]
theorem e_restSum {Z : m_Z} {T : m_S} {m c n : Nat} {hum : Int32} {kd : Nat → Nat} {j48 : Int64 → Option (Int32 × m_S)} (h : q_M Z T.2.2 m) (hc : c < 6) (hn : T.1 (m + 3) (8 + 56 * c) = Int32.ofNat n) (n6 : n ≤ 6) (hk : ∀ i, i < n → T.1 (m + 3) (12 + 56 * c + 4 * i + 1) = Int32.ofNat (kd i) ∧ kd i < 4 ∧ q_wk (T.1 (m + 1)) (kd i)) (w : Int64) : ∀ d i fuel, d + i = n → d < fuel → m_fx (F_X9_restOf_56 Z m (Int32.ofNat c) T hum j48) fuel (q_sl w (fun i => q_mp (T.1 (m + 1)) (kd i) (T.1 (m + 3) (12 + 56 * c + 4 * i + 2)) hum) i, Int32.ofNat i) = j48 (q_sl w (fun i => q_mp (T.1 (m + 1)) (kd i) (T.1 (m + 3) (12 + 56 * c + 4 * i + 2)) hum) n) := by
  intro d
  induction d with
  | zero =>
    intro i fuel h1 h2
    obtain ⟨fu, rfl⟩ : ∃ f, fuel = f + 1 := ⟨fuel - 1, by omega⟩
    have : i = n := by omega
    subst this
    rw [m_fx_s]
    unfold F_X9_restOf_56
    simp only []
    rw [e_of (wi := 4) h (w := 4) rfl hc (by omega), show 4 + 56 * c + 4 = 8 + 56 * c by omega, hn, m_b1_s, if_pos ((io_le (by omega) (by omega)).mpr (Nat.le_refl _))]
  | succ d ih =>
    intro i fuel h1 h2
    obtain ⟨fu, rfl⟩ : ∃ f, fuel = f + 1 := ⟨fuel - 1, by omega⟩
    have ih' := ih (i + 1) fu (by omega) (by omega)
    have hki := hk i (by omega)
    rw [m_fx_s]
    generalize m_fx (F_X9_restOf_56 Z m (Int32.ofNat c) T hum j48) fu = lp at *
    unfold F_X9_restOf_56
    simp only []
    rw [e_of (wi := 4) h (w := 4) rfl hc (by omega), show 4 + 56 * c + 4 = 8 + 56 * c by omega, hn, m_b1_s, if_neg (fun q => absurd ((io_le (by omega) (by omega)).mp q) (by omega)), e_its (wi := 1) h (w := 1) rfl hc (by omega) (by omega), hki.1, m_b1_s, e_its (wi := 2) h (w := 2) rfl hc (by omega) (by omega), m_b1_s, e_would h hki.2.1 hki.2.2, m_b1_s, m_lt_s, m_lt_s, io_one]
    exact ih'
theorem e_rest {Z : m_Z} {T : m_S} {m c n r : Nat} {W : Int32} {kd : Nat → Nat} {j20 : Int32 → Option (Int32 × m_S)} (f : Nat → Int32) (h : q_M Z T.2.2 m) (hc : c < 6) (hn : T.1 (m + 3) (8 + 56 * c) = Int32.ofNat n) (n6 : n ≤ 6) (hk : ∀ i, i < n → T.1 (m + 3) (12 + 56 * c + 4 * i + 1) = Int32.ofNat (kd i) ∧ kd i < 4 ∧ q_wk (T.1 (m + 1)) (kd i)) (hW : f_X9_moistureOf Z T m (Int32.ofNat c) = some W.toInt64) (hf : ∀ h, h ≤ 1000 → q_sl (T.1 (m + 1) (110 + c) * Int32.ofNat h / (1000 : Int32)).toInt64 (fun i => q_mp (T.1 (m + 1)) (kd i) (T.1 (m + 3) (12 + 56 * c + 4 * i + 2)) (Int32.ofNat h)) n = (f h).toInt64) (hr : r ≤ 1001) (hP : ∀ h, h ≤ 1000 → (f h < W ↔ h < r)) : m_fx (F_X9_restOf_24 Z m (Int32.ofNat c) T j20) 100000 ((0 : Int32), (0 : Int32)) = j20 (Int32.ofNat r) := by
  have e110 : (110 : Int32) + Int32.ofNat c = Int32.ofNat (110 + c) := io_add 110 c
  have last : ∀ fuel, 0 < fuel → m_fx (F_X9_restOf_24 Z m (Int32.ofNat c) T j20) fuel (Int32.ofNat r, (1 : Int32)) = j20 (Int32.ofNat r) := by
    intro fuel hf0
    obtain ⟨fu, rfl⟩ : ∃ f, fuel = f + 1 := ⟨fuel - 1, by omega⟩
    rw [m_fx_s]
    unfold F_X9_restOf_24
    simp only []
    by_cases q : (1000 : Int32) < Int32.ofNat r
    · rw [if_pos q]
    · rw [if_neg q, if_pos z10]
  have key : ∀ (d u fuel : Nat), d + u = r → d + 1 < fuel → m_fx (F_X9_restOf_24 Z m (Int32.ofNat c) T j20) fuel (Int32.ofNat u, (0 : Int32)) = j20 (Int32.ofNat r) := by
    intro d
    have body : ∀ u fu, u ≤ 1000 → m_fx (F_X9_restOf_24 Z m (Int32.ofNat c) T j20) (fu + 1) (Int32.ofNat u, (0 : Int32)) = if u < r then m_fx (F_X9_restOf_24 Z m (Int32.ofNat c) T j20) fu (Int32.ofNat (u + 1), 0) else m_fx (F_X9_restOf_24 Z m (Int32.ofNat c) T j20) fu (Int32.ofNat u, 1) := by
      intro u fu hu
      rw [m_fx_s]
      generalize m_fx (F_X9_restOf_24 Z m (Int32.ofNat c) T j20) fu = lp
      unfold F_X9_restOf_24
      simp only [e110, io_tn (show 110 + c < 2147483648 by omega)]
      rw [if_neg (show ¬ (1000 : Int32) < Int32.ofNat u from fun z => absurd ((io_lt (a := 1000) (by omega) (by omega)).mp z) (by omega)), if_neg (show ¬ ¬ True from fun z => z trivial), h.p.1, m_b1_s, m_gd_t h.p.2.1, m_lt_s, m_gd_t (q_inn h.p.2 (by omega) (by omega)), io_tn (show 110 + c < 2147483648 by omega), m_lt_s]
      refine m_jp_i (fun j48 hj => ?_)
      have hs := e_restSum (hum := Int32.ofNat u) (j48 := j48) h hc hn n6 hk (T.1 (m + 1) (110 + c) * Int32.ofNat u / (1000 : Int32)).toInt64 n 0 100000 (by omega) (by omega)
      refine (show m_fx (F_X9_restOf_56 Z m (Int32.ofNat c) T (Int32.ofNat u) j48) 100000 (_, (0 : Int32)) = _ from hs).trans ?_
      rw [hj, hf u hu, hW, m_b1_s]
      have hcmp : lg_cmp (f u).toInt64 W.toInt64 < 0 ↔ u < r := by
        rw [← hP u hu]
        unfold lg_cmp
        constructor
        · intro z
          by_cases q1 : (f u).toInt64 > W.toInt64
          · rw [if_pos q1] at z; exact absurd z (by decide)
          · rw [if_neg q1] at z
            by_cases q2 : (f u).toInt64 = W.toInt64
            · rw [if_pos q2] at z; exact absurd z (by decide)
            · have q1' : ¬ W.toInt64 < (f u).toInt64 := q1
              rw [l_lt, l_of, l_of] at q1'
              rw [l_eq, l_of, l_of] at q2
              rw [t_lt]; omega
        · intro z
          rw [t_lt] at z
          have q1 : ¬ (f u).toInt64 > W.toInt64 := by
            show ¬ W.toInt64 < (f u).toInt64
            rw [l_lt, l_of, l_of]; omega
          have q2 : ¬ (f u).toInt64 = W.toInt64 := by rw [l_eq, l_of, l_of]; omega
          rw [if_neg q1, if_neg q2]; decide
      by_cases q : u < r
      · rw [if_pos q, m_jp_s, if_pos (hcmp.mpr q)]
        simp only [m_lt_s]
        rw [if_pos trivial, io_one]
      · rw [if_neg q, m_jp_s, if_neg (fun z => q (hcmp.mp z))]
        simp only [m_lt_s]
        rw [if_neg z10, show Int32.ofNat u + (0 : Int32) = Int32.ofNat u from io_add u 0]
    induction d with
    | zero =>
      intro u fuel h1 h2
      obtain ⟨fu, rfl⟩ : ∃ f, fuel = f + 1 := ⟨fuel - 1, by omega⟩
      have : u = r := by omega
      subst this
      by_cases q : u ≤ 1000
      · rw [body u fu q, if_neg (Nat.lt_irrefl _)]
        exact last fu (by omega)
      · rw [m_fx_s]
        unfold F_X9_restOf_24
        simp only []
        rw [if_pos (show (1000 : Int32) < Int32.ofNat u from (io_lt (a := 1000) (by omega) (by omega)).mpr (by omega))]
    | succ d ih =>
      intro u fuel h1 h2
      obtain ⟨fu, rfl⟩ : ∃ f, fuel = f + 1 := ⟨fuel - 1, by omega⟩
      rw [body u fu (by omega), if_pos (by omega)]
      exact ih (u + 1) fu (by omega) (by omega)
  exact key r 0 100000 (by omega) (by omega)
section REST
variable {Z : m_Z} {x m N pb ns nk nc : Nat} {S T : m_S}
theorem J_restOf (h : q_Rel Z x m N pb ns nk nc S T) (p : Int32) : q_JR Z x m (N + 1) [("java/lang/IndexOutOfBoundsException", 1), ("java/util/NoSuchElementException", 2)] (fun a b => a = b) S T (f_X8_restOf Z S x p) (f_X9_restOf Z T m p) := by
  obtain ⟨T0, e0, z0, f0, h0⟩ := q_zero h
  have hM := h0.M
  have h6 := h0.nc6
  have h4 := h0.nk4
  obtain ⟨cnt, t, t9, c5, hg, hser, hst⟩ := h0.sta
  rcases q_cdec h0.cs p with ⟨c, hc, rfl⟩ | hp
  · have hcs := hst.2.2.2.2.2 c hc
    have hV := (h0.st.2.2.2.2 c (by omega)).2.2.1
    rw [show x + 137 + 4 + 10 * c = x + 141 + 10 * c by omega] at hcs hV
    have hn5 := c5 c hc
    obtain ⟨n, hn⟩ : ∃ n, n = cnt c := ⟨_, rfl⟩
    have v1 := hcs.1
    have v2 := hcs.2.1
    rw [← hn] at v1 v2 hn5
    obtain ⟨s1, s2, s3⟩ := q_sum9 (Z := Z) v1 v2 h0.ks
    have k := v2.2.2.1
    obtain ⟨vv0, vv1⟩ := v2.1
    obtain ⟨W, hW⟩ : ∃ y, y = T0.1 (m + 3) (7 + 56 * c) + q_sm (fun i => T0.1 (m + 3) (15 + 56 * c + 4 * i)) n := ⟨_, rfl⟩
    have gW : f_X7_moisture Z S (x + 141 + 10 * c) = some W := by
      rw [g_moist hV v1.2.2.2.2.2.1 (by omega), s1, v1.2.2.2.2.1, hW]
    have eW : f_X9_moistureOf Z T0 m (Int32.ofNat c) = some W.toInt64 := by
      rw [e_moist hM (c := c) (by omega) v1.2.2.2.2.2.2.1 (by omega), hW]
      congr 1
      rw [l_eq, l_of, l_add (by rw [l_of, l_of]; omega) (by rw [l_of, l_of]; omega), l_of, l_of, t_add (by omega) (by omega)]
    obtain ⟨kd, hkd⟩ : ∃ y : Nat → Nat, y = fun i => q_kn (T0.1 (m + 3)) (12 + 56 * c + 4 * i) := ⟨_, rfl⟩
    have ck : ∀ i, i < n → kd i < nk ∧ T0.1 (m + 3) (12 + 56 * c + 4 * i + 1) = Int32.ofNat (kd i) ∧ S.2.2 (x + 141 + 10 * c + 2 + i) 1 = some (pb + 6 + 3 * kd i) := fun i hi => by rw [hkd]; exact (v1.2.2.2.2.2.2.2 i hi).2.1
    obtain ⟨G, hG⟩ : ∃ y : Nat → Nat → Int32, y = fun hh i => q_mp (T0.1 (m + 1)) (kd i) (T0.1 (m + 3) (12 + 56 * c + 4 * i + 2)) (Int32.ofNat hh) := ⟨_, rfl⟩
    have mb : ∀ i, i < n → 1 ≤ (T0.1 (m + 3) (12 + 56 * c + 4 * i + 2)).toInt ∧ (T0.1 (m + 3) (12 + 56 * c + 4 * i + 2)).toInt ≤ 999 := fun i hi => by
      have := (v2.2.2.2.2 i hi).1
      rw [show 14 + 56 * c + 4 * i = 12 + 56 * c + 4 * i + 2 by omega] at this; exact this
    have gb : ∀ hh i, i < n → 0 ≤ (G hh i).toInt ∧ (G hh i).toInt ≤ 9989 := fun hh i hi => by
      rw [hG]
      have := q_mp_t (h0.ks.2 _ (ck i hi).1).2.2 (mb i hi).1 (mb i hi).2 (Int32.ofNat hh)
      exact ⟨this.1, this.2.1⟩
    obtain ⟨A, hA⟩ : ∃ y : Nat → Int32, y = fun hh => T0.1 (m + 1) (110 + c) * Int32.ofNat hh / (1000 : Int32) := ⟨_, rfl⟩
    have at' : ∀ hh, hh ≤ 1000 → (A hh).toInt = (T0.1 (m + 1) (110 + c)).toInt * (hh : Int) / 1000 ∧ 0 ≤ (T0.1 (m + 1) (110 + c)).toInt * (hh : Int) ∧ (T0.1 (m + 1) (110 + c)).toInt * (hh : Int) ≤ 9999000 := fun hh hhh => by
      have b0 : 0 ≤ (T0.1 (m + 1) (110 + c)).toInt * (hh : Int) := Int.mul_nonneg (by omega) (by omega)
      have b1 : (T0.1 (m + 1) (110 + c)).toInt * (hh : Int) ≤ 9999 * 1000 := Int.mul_le_mul vv1 (by omega) (by omega) (by omega)
      refine ⟨?_, b0, by omega⟩
      rw [hA]
      show (T0.1 (m + 1) (110 + c) * Int32.ofNat hh / (1000 : Int32)).toInt = _
      rw [t_div (by decide), t_mul (by rw [t_ofNat (by omega)]; omega) (by rw [t_ofNat (by omega)]; omega), k1000, t_ofNat (by omega), d_pos b0]
    have ab : ∀ hh, hh ≤ 1000 → 0 ≤ (A hh).toInt ∧ (A hh).toInt ≤ 9999 := fun hh hhh => by
      obtain ⟨e1, e2, e3⟩ := at' hh hhh
      rw [e1]; omega
    have amono : ∀ a b, a ≤ b → b ≤ 1000 → (A a).toInt ≤ (A b).toInt := fun a b hab hb => by
      rw [(at' a (by omega)).1, (at' b hb).1]
      have : (T0.1 (m + 1) (110 + c)).toInt * (a : Int) ≤ (T0.1 (m + 1) (110 + c)).toInt * (b : Int) := Int.mul_le_mul_of_nonneg_left (by omega) (by omega)
      omega
    have n6 : n ≤ 6 := by omega
    obtain ⟨r, r1, r2⟩ := q_cut (fun hh => q_sa (A hh) (G hh) n < W) (fun a b hab hb hP => by
      rw [t_lt] at hP ⊢
      have := q_sa_mono (ab a (by omega)) (ab b hb) (amono a b hab hb) n6 (gb a) (gb b) (fun i hi => by
        rw [hG]
        exact q_mo_mono (h0.ks.2 _ (ck i hi).1).2.2.2.1 (by have := mb i hi; omega) (mb i hi).2 (by rw [t_ofNat (by omega), t_ofNat (by omega)]; omega))
      omega)
    have gR := g_rest (fun hh => q_sa (A hh) (G hh) n) hV.1 gW (fun hh hhh => by
      rw [g_moAt (G hh) hV v1.2.2.2.2.2.1 n6 (fun i hi => by
        obtain ⟨k1, k2, k3⟩ := h0.ks.2 _ (ck i hi).1
        rw [g_moistAt (hV.2.2 i (by omega)).2 (ck i hi).2.2 k1 k2 k3, (v1.2.2.2.2.2.2.2 i hi).2.2.1, hG]), v1.1, hA]) r1 r2
    have eR := fun j20 => e_rest (j20 := j20) (fun hh => q_sa (A hh) (G hh) n) hM (c := c) (by omega) v1.2.2.2.2.2.2.1 n6 (kd := kd) (fun i hi => ⟨(ck i hi).2.1, by have := (ck i hi).1; omega, (h0.ks.2 _ (ck i hi).1).2.2⟩) eW (fun hh hhh => by
      have := (q_sa_t (ab hh hhh) n6 (gb hh)).2
      rw [hA, hG] at this ⊢
      exact this) r1 r2
    by_cases cr : r ≤ 1000
    · refine q_JR_ok h0 f0 z0 (a := Int32.ofNat r) (b := Int32.ofNat r) ?_ ?_ rfl
      · unfold f_X8_restOf
        rw [m_gd_t h.ox, g_vitAt h hc, m_bt_s, m_gd_t hV.1, gR, if_pos cr, m_b1_s, if_pos (io_nm1 (by omega))]
      · unfold f_X9_restOf
        rw [m_gd_t hM.o, m_lt_s, e0, e_isCase hM h0.n5 h0.cs, m_b1_s, e_may hM.o z0 z10, if_pos (q_yes hc (by omega)), if_pos z10]
        refine m_jp_i (fun j20 hj => ?_)
        rw [eR j20, hj, if_neg (show ¬ (1000 : Int32) < Int32.ofNat r from fun z => absurd ((io_lt (a := 1000) (by omega) (by omega)).mp z) (by omega)), e_may1 hM.o z10 z0, m_bw_s, if_neg z10]
    · refine q_JR_er h0 f0 (s := "java/util/NoSuchElementException") (b := 0) (k := 2) ?_ ?_ (by simp)
      · unfold f_X8_restOf
        rw [m_gd_t h.ox, g_vitAt h hc, m_bt_s, m_gd_t hV.1, gR, if_neg cr, m_b1_s, if_neg (fun z => z rfl)]
      · unfold f_X9_restOf
        rw [m_gd_t hM.o, m_lt_s, e0, e_isCase hM h0.n5 h0.cs, m_b1_s, e_may hM.o z0 z10, if_pos (q_yes hc (by omega)), if_pos z10]
        refine m_jp_i (fun j20 hj => ?_)
        rw [eR j20, hj, if_pos (show (1000 : Int32) < Int32.ofNat r from (io_lt (a := 1000) (by omega) (by omega)).mpr (by omega)), e_may0 hM.o z0 z20, m_bw_s, if_pos z00]
  · refine q_JR_er h0 f0 (s := "java/lang/IndexOutOfBoundsException") (b := 0) (k := 1) ?_ ?_ (by simp)
    · unfold f_X8_restOf
      rw [m_gd_t h.ox, g_vitNo h hp, m_bt_e]
    · unfold f_X9_restOf
      rw [m_gd_t hM.o, m_lt_s, e0, e_isCase hM h0.n5 h0.cs, m_b1_s, e_may hM.o z0 z10, if_neg (q_no hp), if_neg nz0]
end REST
