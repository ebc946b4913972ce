/-! .. of the reference -/
def q_pc (m c k : Nat) (T : m_S) (s kd mass mo : Int32) : m_S := m_pI (m_pI (m_pI (m_pI T (m + 3) (12 + 56 * c + 4 * k + 0) s) (m + 3) (12 + 56 * c + 4 * k + 1) kd) (m + 3) (12 + 56 * c + 4 * k + 2) mass) (m + 3) (12 + 56 * c + 4 * k + 3) mo
theorem q_pc_ag (m c k : Nat) (T : m_S) (s kd mass mo : Int32) : q_ag (fun y j => ¬ (y = m + 3 ∧ 12 + 56 * c + 4 * k ≤ j ∧ j < 16 + 56 * c + 4 * k)) T (q_pc m c k T s kd mass mo) := q_ag_I (q_ag_I (q_ag_I (q_ag_I (q_ag_refl _ T) (by omega)) (by omega)) (by omega)) (by omega)
theorem q_pc_c {m c k : Nat} {T : m_S} {s kd mass mo : Int32} : (q_pc m c k T s kd mass mo).1 (m + 3) (12 + 56 * c + 4 * k) = s ∧ (q_pc m c k T s kd mass mo).1 (m + 3) (12 + 56 * c + 4 * k + 1) = kd ∧ (q_pc m c k T s kd mass mo).1 (m + 3) (12 + 56 * c + 4 * k + 2) = mass ∧ (q_pc m c k T s kd mass mo).1 (m + 3) (12 + 56 * c + 4 * k + 3) = mo := by
  unfold q_pc
  refine ⟨?_, ?_, ?_, ?_⟩
  · rw [pI_ne (by omega), pI_ne (by omega), pI_ne (by omega)]; exact pI_same _ _ _ _
  · rw [pI_ne (by omega), pI_ne (by omega), pI_same]
  · rw [pI_ne (by omega), pI_same]
  · rw [pI_same]
theorem e_puts {Z : m_Z} {T : m_S} {m c k : Nat} {s kd mass mo : Int32} (h : q_M Z T.2.2 m) (hc : c < 6) (hk : k < 6) : f_X9_puts Z T m (Int32.ofNat c) (Int32.ofNat k) s kd mass mo = some ((), m_pJ (q_pc m c k T s kd mass mo) (m + 7) (5 * c + 3) (T.2.1 (m + 7) (5 * c + 3) + mo.toInt64)) := by
  unfold f_X9_puts
  rw [m_gd_t h.o, e_cassettes (wi := 0) h (w := 0) rfl hc hk (by omega), m_bw_s, e_cassettes (wi := 1) (S := m_pI T (m + 3) (12 + 56 * c + 4 * k + 0) s) h (w := 1) rfl hc hk (by omega), m_bw_s, e_cassettes (wi := 2) (S := m_pI (m_pI T (m + 3) (12 + 56 * c + 4 * k + 0) s) (m + 3) (12 + 56 * c + 4 * k + 1) kd) h (w := 2) rfl hc hk (by omega), m_bw_s, e_cassettes (wi := 3) (S := m_pI (m_pI (m_pI T (m + 3) (12 + 56 * c + 4 * k + 0) s) (m + 3) (12 + 56 * c + 4 * k + 1) kd) (m + 3) (12 + 56 * c + 4 * k + 2) mass) h (w := 3) rfl hc hk (by omega), m_bw_s]
  show m_bw (f_X9_counts Z (q_pc m c k T s kd mass mo) m (Int32.ofNat c) 3 mo.toInt64) _ = _
  rw [e_counts (wi := 3) (S := q_pc m c k T s kd mass mo) h (w := 3) rfl hc (by omega), m_bw_s]
  rfl
theorem e_addsTo {Z : m_Z} {T : m_S} {m c n : Nat} {s kd mass mo : Int32} (h : q_M Z T.2.2 m) (hc : c < 6) (hn : T.1 (m + 3) (8 + 56 * c) = Int32.ofNat n) (n6 : n < 6) : f_X9_addsTo Z T m (Int32.ofNat c) s kd mass mo = some ((), m_pJ (q_pc m c n (m_pI T (m + 3) (8 + 56 * c) (Int32.ofNat (n + 1))) s kd mass mo) (m + 7) (5 * c + 3) (T.2.1 (m + 7) (5 * c + 3) + mo.toInt64)) := by
  unfold f_X9_addsTo
  rw [m_gd_t h.o, e_of (wi := 4) h (w := 4) rfl hc (by omega), show 4 + 56 * c + 4 = 8 + 56 * c by omega, hn, m_b1_s, io_one, e_lays (wi := 4) h (w := 4) rfl hc (by omega), show 4 + 56 * c + 4 = 8 + 56 * c by omega, m_bw_s, e_puts (T := m_pI T (m + 3) (8 + 56 * c) (Int32.ofNat (n + 1))) h hc n6, m_bw_s]
  rfl
theorem e_newSer {Z : m_Z} {T : m_S} {m : Nat} (h : q_M Z T.2.2 m) : f_X9_newSerial Z T m = some (T.1 (m + 3) 3, m_pI T (m + 3) 3 (T.1 (m + 3) 3 + 1)) := by
  unfold f_X9_newSerial
  rw [m_gd_t h.o, h.a.1, m_b1_s, m_gd_t h.a.2.1, m_gd_t (q_inl (wi := 3) (i := 3) rfl h.a.2 (by omega) (by omega)), m_gd_t (q_inl (wi := 3) (i := 3) rfl h.a.2 (by omega) (by omega)), m_lt_s]
  show m_b1 (T.2.2 m 3) _ = _
  rw [h.a.1, m_b1_s, m_gd_t h.a.2.1, m_gd_t (q_inl (wi := 3) (i := 3) rfl h.a.2 (by omega) (by omega)), tn3, pI_same, Int32.add_sub_cancel]
theorem q_M_cg {Z : m_Z} {R R' : Nat → Nat → Option Nat} {m : Nat} (h : q_M Z R m) (e : ∀ j, R' m j = R m j) : q_M Z R' m := by
  unfold q_M at h ⊢
  simp only [e]
  exact h
/-- taking out: the cells from 4 k0 on are moved up as far as place i -/
def q_mvT (m c k0 i : Nat) (T T' : m_S) : Prop := q_ag (fun y j => ¬ (y = m + 3 ∧ 12 + 56 * c + 4 * k0 ≤ j ∧ j < 12 + 56 * c + i)) T T' ∧ (∀ j, 4 * k0 ≤ j → j < i → T'.1 (m + 3) (12 + 56 * c + j) = T.1 (m + 3) (12 + 56 * c + j + 4)) ∧ T'.2.2 = T.2.2
theorem e_goes {Z : m_Z} {T : m_S} {m c n k0 : Nat} (h : q_M Z T.2.2 m) (hc : c < 6) (hn : T.1 (m + 3) (8 + 56 * c) = Int32.ofNat n) (n6 : n ≤ 6) (hk0 : k0 < n) : ∃ T', f_X9_goes Z T m (Int32.ofNat c) (Int32.ofNat k0) = some (T.1 (m + 3) (12 + 56 * c + 4 * k0 + 3), T') ∧ T'.1 (m + 3) (8 + 56 * c) = Int32.ofNat (n - 1) ∧ q_ag (fun y j => ¬ (y = m + 3 ∧ j = 8 + 56 * c) ∧ ¬ (y = m + 3 ∧ 12 + 56 * c + 4 * k0 ≤ j ∧ j < 12 + 56 * c + 4 * (n - 1)) ∧ ¬ (y = m + 7 ∧ j = 5 * c + 4)) T T' ∧ T'.2.1 (m + 7) (5 * c + 4) = T.2.1 (m + 7) (5 * c + 4) + (T.1 (m + 3) (12 + 56 * c + 4 * k0 + 3)).toInt64 ∧ T'.2.2 = T.2.2 ∧ ∀ i w, i < n - 1 → w < 4 → T'.1 (m + 3) (12 + 56 * c + 4 * i + w) = T.1 (m + 3) (12 + 56 * c + 4 * (if i < k0 then i else i + 1) + w) := by
  obtain ⟨T1, hT1⟩ : ∃ q, q = m_pI (m_pJ T (m + 7) (5 * c + 4) (T.2.1 (m + 7) (5 * c + 4) + (T.1 (m + 3) (12 + 56 * c + 4 * k0 + 3)).toInt64)) (m + 3) (8 + 56 * c) (Int32.ofNat (n - 1)) := ⟨_, rfl⟩
  have hM1 : q_M Z T1.2.2 m := by rw [hT1]; exact h
  have n1 : T1.1 (m + 3) (8 + 56 * c) = Int32.ofNat (n - 1) := by rw [hT1]; exact pI_same _ _ _ _
  have a1 : ∀ b j, ¬ (b = m + 3 ∧ j = 8 + 56 * c) → T1.1 b j = T.1 b j := fun b j hb => by rw [hT1, pI_ne hb]; rfl
  have key : ∀ (j13 : m_S → Option (Int32 × m_S)) (d i fuel : Nat) (U : m_S), d + i = 4 * (n - 1) → d < fuel → 4 * k0 ≤ i → q_mvT m c k0 i T1 U → ∃ U', q_mvT m c k0 (4 * (n - 1)) T1 U' ∧ m_fx (F_X9_goes_35 Z m (Int32.ofNat c) j13) fuel (Int32.ofNat i, U) = j13 U' := by
    intro j13 d
    induction d with
    | zero =>
      intro i fuel U h1 h2 h3 hm
      obtain ⟨f, rfl⟩ : ∃ f, fuel = f + 1 := ⟨fuel - 1, by omega⟩
      have : i = 4 * (n - 1) := by omega
      subst this
      refine ⟨U, hm, ?_⟩
      have hMU : q_M Z U.2.2 m := q_M_cg hM1 (fun j => (hm.1 m j (by omega)).2.2)
      rw [m_fx_s]
      unfold F_X9_goes_35
      simp only []
      rw [e_of (wi := 4) hMU (w := 4) rfl hc (by omega), show 4 + 56 * c + 4 = 8 + 56 * c by omega, (hm.1 _ _ (by omega)).1, n1, m_b1_s, show (4 : Int32) * Int32.ofNat (n - 1) = Int32.ofNat (4 * (n - 1)) from io_mul 4 _, if_pos (Int32.le_refl _)]
    | succ d ih =>
      intro i fuel U h1 h2 h3 hm
      obtain ⟨f, rfl⟩ : ∃ f, fuel = f + 1 := ⟨fuel - 1, by omega⟩
      have hMU : q_M Z U.2.2 m := q_M_cg hM1 (fun j => (hm.1 m j (by omega)).2.2)
      have hm' : q_mvT m c k0 (i + 1) T1 (m_pI U (m + 3) (4 + 56 * c + (8 + i)) (U.1 (m + 3) (4 + 56 * c + (8 + i + 4)))) := by
        refine ⟨q_ag_I (fun b j hb => hm.1 b j (by omega)) (by omega), fun j j1 j2 => ?_, hm.2.2⟩
        by_cases e : j = i
        · subst e
          rw [show 12 + 56 * c + j = 4 + 56 * c + (8 + j) by omega, pI_same, (hm.1 _ _ (by omega)).1]
          exact congrArg (T1.1 (m + 3)) (by omega)
        · rw [pI_ne (by omega)]; exact hm.2.1 j j1 (by omega)
      obtain ⟨U', hU', ih'⟩ := ih (i + 1) f _ (by omega) (by omega) (by omega) hm'
      refine ⟨U', hU', ?_⟩
      have e1 : (8 : Int32) + Int32.ofNat i = Int32.ofNat (8 + i) := io_add 8 i
      have e2 : Int32.ofNat (8 + i) + (4 : Int32) = Int32.ofNat (8 + i + 4) := io_add (8 + i) 4
      rw [m_fx_s]
      generalize m_fx (F_X9_goes_35 Z m (Int32.ofNat c) j13) f = lp at *
      unfold F_X9_goes_35
      simp only []
      rw [e_of (wi := 4) hMU (w := 4) rfl hc (by omega), show 4 + 56 * c + 4 = 8 + 56 * c by omega, (hm.1 _ _ (by omega)).1, n1, m_b1_s, show (4 : Int32) * Int32.ofNat (n - 1) = Int32.ofNat (4 * (n - 1)) from io_mul 4 _, if_neg (fun q => absurd ((io_le (by omega) (by omega)).mp q) (by omega)), e1, e2, e_of (w := 8 + i + 4) hMU rfl hc (by omega), m_b1_s, e_lays (w := 8 + i) hMU rfl hc (by omega), m_bw_s, m_lt_s, io_one]
      exact ih'
  have hm0 : q_mvT m c k0 (4 * k0) T1 T1 := ⟨q_ag_refl _ _, fun j j1 j2 => by omega, rfl⟩
  obtain ⟨U, hU, hr⟩ := key (fun (S12 : m_S) => some (T.1 (m + 3) (12 + 56 * c + 4 * k0 + 3), S12)) (4 * (n - 1) - 4 * k0) (4 * k0) 100000 T1 (by omega) (by omega) (Nat.le_refl _) hm0
  refine ⟨U, ?_, ?_, ?_, ?_, hU.2.2.trans (by rw [hT1]; rfl), fun i w hi hw => ?_⟩
  · unfold f_X9_goes
    rw [m_gd_t h.o, e_its (wi := 3) h (w := 3) rfl hc (by omega) (by omega), m_b1_s, e_counts (wi := 4) h (w := 4) rfl hc (by omega), m_bw_s]
    have h' : q_M Z (m_pJ T (m + 7) (5 * c + 4) (T.2.1 (m + 7) (5 * c + 4) + (T.1 (m + 3) (12 + 56 * c + 4 * k0 + 3)).toInt64)).2.2 m := h
    rw [e_of (wi := 4) h' (w := 4) rfl hc (by omega), show 4 + 56 * c + 4 = 8 + 56 * c by omega]
    show m_b1 (some (T.1 (m + 3) (8 + 56 * c))) _ = _
    rw [hn, m_b1_s, show (1 : Int32) = Int32.ofNat 1 from rfl, io_sub (by omega), e_lays (wi := 4) h' (w := 4) rfl hc (by omega), show 4 + 56 * c + 4 = 8 + 56 * c by omega, m_bw_s, ← hT1, m_lt_s, show (4 : Int32) * Int32.ofNat k0 = Int32.ofNat (4 * k0) from io_mul 4 _, m_jp_s]
    exact hr
  · rw [(hU.1 _ _ (by omega)).1]; exact n1
  · intro b j hb
    have u := hU.1 b j (by omega)
    refine ⟨u.1.trans (a1 b j hb.1), u.2.1.trans ?_, u.2.2.trans ?_⟩
    · rw [hT1]; exact pJ_ne hb.2.2
    · rw [hT1]; rfl
  · rw [(hU.1 _ _ (by omega)).2.1, hT1]; exact pJ_same _ _ _ _
  · by_cases e : i < k0
    · rw [if_pos e, (hU.1 _ _ (by omega)).1, a1 _ _ (by omega)]
    · rw [if_neg e, show 12 + 56 * c + 4 * i + w = 12 + 56 * c + (4 * i + w) by omega, hU.2.1 (4 * i + w) (by omega) (by omega), a1 _ _ (by omega)]
      exact congrArg (T.1 (m + 3)) (by omega)
theorem e_exchs {Z : m_Z} {T : m_S} {m c k kd : Nat} {s hum : Int32} (h : q_M Z T.2.2 m) (hc : c < 6) (hk : k < 6) (hkd : T.1 (m + 3) (12 + 56 * c + 4 * k + 1) = Int32.ofNat kd) (kd4 : kd < 4) (hw : q_wk (T.1 (m + 1)) kd) : f_X9_exchanges Z T m (Int32.ofNat c) (Int32.ofNat k) s hum = some ((), m_pJ (q_pc m c k (m_pJ T (m + 7) (5 * c + 4) (T.2.1 (m + 7) (5 * c + 4) + (T.1 (m + 3) (12 + 56 * c + 4 * k + 3)).toInt64)) s (Int32.ofNat kd) (T.1 (m + 3) (12 + 56 * c + 4 * k + 2)) (q_mp (T.1 (m + 1)) kd (T.1 (m + 3) (12 + 56 * c + 4 * k + 2)) hum)) (m + 7) (5 * c + 3) (T.2.1 (m + 7) (5 * c + 3) + (q_mp (T.1 (m + 1)) kd (T.1 (m + 3) (12 + 56 * c + 4 * k + 2)) hum).toInt64)) := by
  obtain ⟨T1, hT1⟩ : ∃ q, q = m_pJ T (m + 7) (5 * c + 4) (T.2.1 (m + 7) (5 * c + 4) + (T.1 (m + 3) (12 + 56 * c + 4 * k + 3)).toInt64) := ⟨_, rfl⟩
  have h1 : q_M Z T1.2.2 m := by rw [hT1]; exact h
  have i1 : T1.1 = T.1 := by rw [hT1]; rfl
  have j1 : T1.2.1 (m + 7) (5 * c + 3) = T.2.1 (m + 7) (5 * c + 3) := by rw [hT1]; exact pJ_ne (by omega)
  unfold f_X9_exchanges
  rw [m_gd_t h.o, e_its (wi := 3) h (w := 3) rfl hc hk (by omega), m_b1_s, e_counts (wi := 4) h (w := 4) rfl hc (by omega), m_bw_s, ← hT1, e_its (wi := 1) h1 (w := 1) rfl hc hk (by omega), i1, hkd, m_b1_s, e_its (wi := 2) h1 (w := 2) rfl hc hk (by omega), i1, m_b1_s, e_would h1 kd4 (by rw [i1]; exact hw), m_b1_s, e_puts h1 hc hk, m_bw_s, i1, j1]
