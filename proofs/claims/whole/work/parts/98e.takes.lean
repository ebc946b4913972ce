/-! what is read becomes what is: takes() and begin() -/
theorem q_loopA {β : Type} {F : (m_S → Option β) → (Int32 × m_S → Option β) → Int32 × m_S → Option β} {N : Nat} (Inv : Nat → m_S → Prop) (hN : N < 100000) (step : ∀ i U, i < N → Inv i U → ∃ U', Inv (i + 1) U' ∧ ∀ j lp, F j lp (Int32.ofNat i, U) = lp (Int32.ofNat (i + 1), U')) (fin : ∀ U, Inv N U → ∀ j lp, F j lp (Int32.ofNat N, U) = j U) (U : m_S) (h0 : Inv 0 U) : ∃ U', Inv N U' ∧ ∀ j, m_fx (F j) 100000 ((0 : Int32), U) = j U' := by
  have key : ∀ (d i fuel : Nat) (U : m_S), d + i = N → d < fuel → Inv i U → ∃ U', Inv N U' ∧ ∀ j, m_fx (F j) fuel (Int32.ofNat i, U) = j U' := by
    intro d
    induction d with
    | zero =>
      intro i fuel U h1 h2 hI
      obtain ⟨f, rfl⟩ : ∃ f, fuel = f + 1 := ⟨fuel - 1, by omega⟩
      have : i = N := by omega
      subst this
      exact ⟨U, hI, fun j => by rw [m_fx_s]; exact fin U hI _ _⟩
    | succ d ih =>
      intro i fuel U h1 h2 hI
      obtain ⟨f, rfl⟩ : ∃ f, fuel = f + 1 := ⟨fuel - 1, by omega⟩
      obtain ⟨U1, hU1, hs⟩ := step i U (by omega) hI
      obtain ⟨U', hU', hr⟩ := ih (i + 1) f U1 (by omega) (by omega) hU1
      exact ⟨U', hU', fun j => by rw [m_fx_s, hs]; exact hr j⟩
  exact key N 0 100000 U (by omega) (by omega) h0
section TAKES
variable {Z : m_Z} {m : Nat}
theorem e_takes_in {U : m_S} {c n : Nat} (h : q_M Z U.2.2 m) (hc : c < 6) (n5 : n ≤ 5) (hn : U.1 (m + 3) (8 + 56 * c) = Int32.ofNat n) (hk : ∀ k, k < n → ∃ kd, U.1 (m + 3) (12 + 56 * c + 4 * k + 1) = Int32.ofNat kd ∧ kd < 4 ∧ q_wk (U.1 (m + 1)) kd) : ∃ U', (∀ j46 : m_S → Option (Unit × m_S), m_fx (F_X9_takes_88 Z m (Int32.ofNat c) j46) 100000 ((0 : Int32), U) = j46 U') ∧ (∀ k, k < n → U'.1 (m + 3) (15 + 56 * c + 4 * k) = q_mp (U.1 (m + 1)) (q_kn (U.1 (m + 3)) (12 + 56 * c + 4 * k)) (U.1 (m + 3) (14 + 56 * c + 4 * k)) (U.1 (m + 3) (15 + 56 * c + 4 * k))) ∧ (∀ b j, ¬ (b = m + 3 ∧ ∃ k, k < n ∧ j = 15 + 56 * c + 4 * k) → U'.1 b j = U.1 b j) ∧ U'.2 = U.2 := by
  obtain ⟨U', hU', hr⟩ := q_loopA (F := F_X9_takes_88 Z m (Int32.ofNat c)) (N := n) (fun i V => (∀ k, k < i → V.1 (m + 3) (15 + 56 * c + 4 * k) = q_mp (U.1 (m + 1)) (q_kn (U.1 (m + 3)) (12 + 56 * c + 4 * k)) (U.1 (m + 3) (14 + 56 * c + 4 * k)) (U.1 (m + 3) (15 + 56 * c + 4 * k))) ∧ (∀ b j, ¬ (b = m + 3 ∧ ∃ k, k < i ∧ j = 15 + 56 * c + 4 * k) → V.1 b j = U.1 b j) ∧ V.2 = U.2) (by omega) (fun i V hi hV => by
      obtain ⟨h1, h2, h3⟩ := hV
      have hMV : q_M Z V.2.2 m := by rw [h3]; exact h
      obtain ⟨kd, k1, k2, k3⟩ := hk i hi
      have p1 : V.1 (m + 1) = U.1 (m + 1) := funext fun j => h2 _ _ (by omega)
      have v8 : V.1 (m + 3) (4 + 56 * c + 4) = Int32.ofNat n := by rw [h2 _ _ (by rintro ⟨-, k, -, e⟩; omega), show 4 + 56 * c + 4 = 8 + 56 * c by omega]; exact hn
      have v1 : V.1 (m + 3) (12 + 56 * c + 4 * i + 1) = Int32.ofNat kd := by rw [h2 _ _ (by rintro ⟨-, k, -, e⟩; omega)]; exact k1
      have v2 : V.1 (m + 3) (12 + 56 * c + 4 * i + 2) = U.1 (m + 3) (14 + 56 * c + 4 * i) := by rw [h2 _ _ (by rintro ⟨-, k, -, e⟩; omega)]; exact congrArg _ (by omega)
      have v3 : V.1 (m + 3) (12 + 56 * c + 4 * i + 3) = U.1 (m + 3) (15 + 56 * c + 4 * i) := by rw [h2 _ _ (by rintro ⟨-, k, q, e⟩; omega)]; exact congrArg _ (by omega)
      have kn : q_kn (U.1 (m + 3)) (12 + 56 * c + 4 * i) = kd := q_kn_of k1 k2
      refine ⟨m_pI V (m + 3) (12 + 56 * c + 4 * i + 3) (q_mp (V.1 (m + 1)) kd (U.1 (m + 3) (14 + 56 * c + 4 * i)) (U.1 (m + 3) (15 + 56 * c + 4 * i))), ⟨fun k hk => ?_, fun b j hb => ?_, h3⟩, fun _j lp => ?_⟩
      · by_cases e : k = i
        · rw [e, show 15 + 56 * c + 4 * i = 12 + 56 * c + 4 * i + 3 by omega, pI_same, kn, p1]
        · rw [pI_ne (by omega)]; exact h1 k (by omega)
      · rw [pI_ne (fun e => hb ⟨e.1, i, by omega, by omega⟩)]
        exact h2 b j (fun e => hb ⟨e.1, e.2.elim fun k hk => ⟨k, by omega, hk.2⟩⟩)
      · unfold F_X9_takes_88
        simp only []
        rw [e_of (wi := 4) hMV (w := 4) rfl hc (by omega), v8, m_b1_s, if_neg (fun q => absurd ((io_le (by omega) (by omega)).mp q) (by omega)), e_its (wi := 1) hMV (w := 1) rfl hc (by omega) (by omega), v1, m_b1_s, e_its (wi := 2) hMV (w := 2) rfl hc (by omega) (by omega), v2, m_b1_s, e_its (wi := 3) hMV (w := 3) rfl hc (by omega) (by omega), v3, m_b1_s, e_would hMV k2 (by rw [p1]; exact k3), m_b1_s, e_cassettes (wi := 3) hMV (w := 3) rfl hc (by omega) (by omega), m_bw_s, io_one, m_lt_s])
    (fun V hV _j lp => by
      obtain ⟨h1, h2, h3⟩ := hV
      have hMV : q_M Z V.2.2 m := by rw [h3]; exact h
      have v8 : V.1 (m + 3) (4 + 56 * c + 4) = Int32.ofNat n := by rw [h2 _ _ (by rintro ⟨-, k, -, e⟩; omega), show 4 + 56 * c + 4 = 8 + 56 * c by omega]; exact hn
      unfold F_X9_takes_88
      simp only []
      rw [e_of (wi := 4) hMV (w := 4) rfl hc (by omega), v8, m_b1_s, if_pos (Int32.le_refl _)]) U ⟨fun k hk => absurd hk (Nat.not_lt_zero _), fun _ _ _ => rfl, rfl⟩
  exact ⟨U', hr, hU'⟩
/-- the four loops -/
theorem e_takes {T : m_S} {nc : Nat} {cnt : Nat → Nat} (hM : q_M Z T.2.2 m) (nc6 : nc ≤ 6) (hnc : T.1 (m + 2) 5 = Int32.ofNat nc) (hcnt : ∀ c, c < nc → cnt c ≤ 5 ∧ T.1 (m + 6) (8 + 56 * c) = Int32.ofNat (cnt c)) (hk : ∀ c k, c < nc → k < cnt c → ∃ kd, T.1 (m + 6) (12 + 56 * c + 4 * k + 1) = Int32.ofNat kd ∧ kd < 4 ∧ q_wk (T.1 (m + 2)) kd) : ∃ T', f_X9_takes Z T m = some ((), T') ∧ (∀ j, j < 116 → T'.1 (m + 1) j = T.1 (m + 2) j) ∧ (∀ c, c < nc → ∀ k, 4 + 56 * c ≤ k → k < 36 + 56 * c → k ≠ 10 + 56 * c → k ≠ 11 + 56 * c → T'.1 (m + 3) k = q_row (T.1 (m + 2)) (T.1 (m + 6)) k) ∧ (∀ c, c < nc → T'.1 (m + 3) (10 + 56 * c) = -1 ∧ T'.1 (m + 3) (11 + 56 * c) = -1) ∧ (∀ k, k < 4 → T'.1 (m + 3) k = T.1 (m + 6) k) ∧ (∀ c, c < nc → T'.2.1 (m + 7) (5 * c + 1) = (T'.1 (m + 3) (7 + 56 * c)).toInt64 + (q_sm (fun i => T'.1 (m + 3) (15 + 56 * c + 4 * i)) (cnt c)).toInt64) ∧ (∀ c w, c < nc → w < 5 → w ≠ 1 → T'.2.1 (m + 7) (5 * c + w) = 0) ∧ (T'.1 (m + 10) 0 = 0 ∧ T'.1 (m + 10) 1 = 0) ∧ q_ag (fun b _ => ¬ b = m + 1 ∧ ¬ b = m + 3 ∧ ¬ b = m + 7 ∧ ¬ b = m + 10) T T' ∧ T'.2.2 = T.2.2 := by
  obtain ⟨T1, h1, e1⟩ := q_loopA (F := F_X9_takes_2 Z m) (N := 116) (q_icp (m + 1) 0 (m + 2) 0 116 T) (by omega) (fun i U hi hU => by
      have hMU : q_M Z U.2.2 m := by rw [hU.2.2]; exact hM
      refine ⟨_, q_icp_s hU hi (by omega), fun _j lp => ?_⟩
      unfold F_X9_takes_2
      simp only [io_tn (show i < 2147483648 by omega)]
      rw [if_neg (show ¬ (116 : Int32) ≤ Int32.ofNat i from fun q => absurd ((io_le (a := 116) (by omega) (by omega)).mp q) (by omega)), m_gd_t hMU.o, hMU.p.1, m_b1_s, hMU.told.1, m_b1_s, m_gd_t hMU.told.2.1, m_gd_t (q_inn hMU.told.2 (by omega) (by omega)), m_gd_t hMU.p.2.1, m_gd_t (q_inn hMU.p.2 (by omega) (by omega)), m_lt_s, m_lt_s, io_one, Nat.zero_add])
    (fun U hU _j lp => by
      unfold F_X9_takes_2
      simp only []
      rw [if_pos (show (116 : Int32) ≤ Int32.ofNat 116 from Int32.le_refl _)]) T (q_icp_0 _ _ _ _ _ T)
  obtain ⟨T2, h2, e2⟩ := q_loopA (F := F_X9_takes_28 Z m) (N := 340) (q_icp (m + 3) 0 (m + 6) 0 340 T1) (by omega) (fun i U hi hU => by
      have hMU : q_M Z U.2.2 m := by rw [hU.2.2, h1.2.2]; exact hM
      refine ⟨_, q_icp_s hU hi (by omega), fun _j lp => ?_⟩
      unfold F_X9_takes_28
      simp only [io_tn (show i < 2147483648 by omega)]
      rw [if_neg (k340 hi), m_gd_t hMU.o, hMU.a.1, m_b1_s, hMU.fresh.1, m_b1_s, m_gd_t hMU.fresh.2.1, m_gd_t (q_inn hMU.fresh.2 (by omega) (by omega)), m_gd_t hMU.a.2.1, m_gd_t (q_inn hMU.a.2 (by omega) (by omega)), m_lt_s, m_lt_s, io_one, Nat.zero_add])
    (fun U hU _j lp => by
      unfold F_X9_takes_28
      simp only []
      rw [if_pos (show (340 : Int32) ≤ Int32.ofNat 340 from Int32.le_refl _)]) T1 (q_icp_0 _ _ _ _ _ T1)
  obtain ⟨T3, h3, e3⟩ := q_loopA (F := F_X9_takes_55 Z m) (N := 30) (fun i U => (∀ j, j < i → U.2.1 (m + 7) j = 0) ∧ q_ag (fun b _ => ¬ b = m + 7) T2 U ∧ U.1 = T2.1 ∧ U.2.2 = T2.2.2) (by omega) (fun i U hi hU => by
      obtain ⟨x1, x2, x3, x4⟩ := hU
      have hMU : q_M Z U.2.2 m := by rw [x4, h2.2.2, h1.2.2]; exact hM
      refine ⟨m_pJ U (m + 7) i 0, ⟨fun j hj => ?_, q_ag_J x2 (by omega), x3, x4⟩, fun _j lp => ?_⟩
      · by_cases e : j = i
        · rw [e, pJ_same]
        · rw [pJ_ne (by omega)]; exact x1 j (by omega)
      · unfold F_X9_takes_55
        simp only [io_tn (show i < 2147483648 by omega)]
        rw [if_neg (k30 hi), m_gd_t hMU.o, hMU.b.1, m_b1_s, m_gd_t hMU.b.2.1, m_gd_t (q_inn hMU.b.2 (by omega) (by omega)), m_lt_s, m_lt_s, io_one])
    (fun U hU _j lp => by
      unfold F_X9_takes_55
      simp only []
      rw [if_pos (show (30 : Int32) ≤ Int32.ofNat 30 from Int32.le_refl _)]) T2 ⟨fun j hj => absurd hj (Nat.not_lt_zero _), q_ag_refl _ _, rfl, rfl⟩
  obtain ⟨y1, y2, y3, y4⟩ := h3
  have hM3 : q_M Z T3.2.2 m := by rw [y4, h2.2.2, h1.2.2]; exact hM
  have a3 : ∀ k, k < 340 → T3.1 (m + 3) k = T.1 (m + 6) k := fun k hk => by
    have := h2.1 k hk
    rw [Nat.zero_add] at this
    rw [y3, this, (h1.2.1 _ _ (by omega)).1]
  have p3 : ∀ k, k < 116 → T3.1 (m + 1) k = T.1 (m + 2) k := fun k hk => by
    have := h1.1 k hk
    rw [Nat.zero_add] at this
    rw [y3, (h2.2.1 _ _ (by omega)).1, this]
  have wk3 : ∀ kd, kd < 4 → q_wk (T.1 (m + 2)) kd → q_wk (T3.1 (m + 1)) kd ∧ ∀ mass hum, q_mp (T3.1 (m + 1)) kd mass hum = q_mp (T.1 (m + 2)) kd mass hum := fun kd h4 hw => by
    obtain ⟨w1, ⟨⟨w2, w2'⟩, w3, w4⟩, w5, w6⟩ := id hw
    have nn : q_nn (T3.1 (m + 1)) kd = q_nn (T.1 (m + 2)) kd := by unfold q_nn; rw [p3 _ (by omega)]
    have xy : ∀ j, j < q_nn (T.1 (m + 2)) kd → q_x (T3.1 (m + 1)) kd j = q_x (T.1 (m + 2)) kd j ∧ q_y (T3.1 (m + 1)) kd j = q_y (T.1 (m + 2)) kd j := fun j hj => by
      unfold q_x q_y
      exact ⟨p3 _ (by omega), p3 _ (by omega)⟩
    refine ⟨⟨by rw [nn, p3 _ (by omega)]; exact w1, by rw [nn]; exact q_iso_congr xy hw.2.1, by rw [p3 _ (by omega)]; exact w5, by rw [p3 _ (by omega)]; exact w6⟩, fun mass hum => ?_⟩
    unfold q_mp q_mo
    rw [nn, q_ct_congr xy (by omega)]
  have v5 : T3.1 (m + 1) 5 = Int32.ofNat nc := by rw [p3 _ (by omega)]; exact hnc
  obtain ⟨T4, h4, e4⟩ := q_loopA (F := F_X9_takes_76 Z m) (N := nc) (fun i U => (∀ c, c < i → ∀ k, 4 + 56 * c ≤ k → k < 36 + 56 * c → k ≠ 10 + 56 * c → k ≠ 11 + 56 * c → U.1 (m + 3) k = q_row (T.1 (m + 2)) (T.1 (m + 6)) k) ∧ (∀ c, c < i → U.1 (m + 3) (10 + 56 * c) = -1 ∧ U.1 (m + 3) (11 + 56 * c) = -1) ∧ (∀ k, k < 340 → (k < 4 ∨ 4 + 56 * i ≤ k) → U.1 (m + 3) k = T.1 (m + 6) k) ∧ (∀ c, c < i → U.2.1 (m + 7) (5 * c + 1) = (U.1 (m + 3) (7 + 56 * c)).toInt64 + (q_sm (fun i => U.1 (m + 3) (15 + 56 * c + 4 * i)) (cnt c)).toInt64) ∧ (∀ j, j < 30 → (∀ c, c < i → j ≠ 5 * c + 1) → U.2.1 (m + 7) j = 0) ∧ q_ag (fun b _ => ¬ b = m + 3 ∧ ¬ b = m + 7) T3 U ∧ U.2.2 = T3.2.2) (by omega) (fun i U hi hU => by
      obtain ⟨g1, g2, g3, g4, g5, g6, g7⟩ := hU
      have hMU : q_M Z U.2.2 m := by rw [g7]; exact hM3
      have pU : U.1 (m + 1) = T3.1 (m + 1) := funext fun j => (g6 _ _ (by omega)).1
      obtain ⟨n5, hn⟩ := hcnt i hi
      have hnU : U.1 (m + 3) (8 + 56 * i) = Int32.ofNat (cnt i) := by rw [g3 _ (by omega) (by omega)]; exact hn
      have kU : ∀ k, k < cnt i → ∃ kd, U.1 (m + 3) (12 + 56 * i + 4 * k + 1) = Int32.ofNat kd ∧ kd < 4 ∧ q_wk (U.1 (m + 1)) kd := fun k hk' => by
        obtain ⟨kd, k1, k2, k3⟩ := hk i k hi hk'
        exact ⟨kd, by rw [g3 _ (by omega) (by omega)]; exact k1, k2, by rw [pU]; exact (wk3 kd k2 k3).1⟩
      obtain ⟨V, same, v1, v2, v3⟩ := e_takes_in hMU (c := i) (by omega) n5 hnU kU
      have hMV : q_M Z V.2.2 m := by rw [v3]; exact hMU
      obtain ⟨W, hW⟩ : ∃ y, y = m_pI (m_pI V (m + 3) (4 + 56 * i + 6) (-1)) (m + 3) (4 + 56 * i + 7) (-1) := ⟨_, rfl⟩
      have hMW : q_M Z W.2.2 m := by rw [hW]; exact hMV
      have W1 : ∀ b j, ¬ (b = m + 3 ∧ (j = 10 + 56 * i ∨ j = 11 + 56 * i)) → W.1 b j = V.1 b j := fun b j hb => by rw [hW, pI_ne (by omega), pI_ne (by omega)]
      have hnW : W.1 (m + 3) (8 + 56 * i) = Int32.ofNat (cnt i) := by rw [W1 _ _ (by omega), v2 _ _ (by rintro ⟨-, k, -, e⟩; omega)]; exact hnU
      have em := e_moist hMW (c := i) (by omega) hnW (by omega)
      obtain ⟨w, hw⟩ : ∃ w, w = (W.1 (m + 3) (7 + 56 * i)).toInt64 + (q_sm (fun k => W.1 (m + 3) (15 + 56 * i + 4 * k)) (cnt i)).toInt64 := ⟨_, rfl⟩
      rw [← hw] at em
      have e51 : ((5 : Int32) * Int32.ofNat i) + (1 : Int32) = Int32.ofNat (5 * i + 1) := by
        show Int32.ofNat 5 * Int32.ofNat i + Int32.ofNat 1 = _
        rw [io_mul, io_add]
      have X1 : ∀ b j, ¬ (b = m + 3 ∧ (j = 10 + 56 * i ∨ j = 11 + 56 * i)) → ¬ (b = m + 3 ∧ ∃ k, k < cnt i ∧ j = 15 + 56 * i + 4 * k) → W.1 b j = U.1 b j := fun b j h1 h2 => by rw [W1 b j h1, v2 b j h2]
      refine ⟨m_pJ W (m + 7) (5 * i + 1) w, ⟨fun c hc k k1 k2 k3 k4 => ?_, fun c hc => ?_, fun k k1 k2 => ?_, fun c hc => ?_, fun j j1 j2 => ?_, ?_, ?_⟩, fun _j lp => ?_⟩
      · show W.1 (m + 3) k = _
        by_cases e : c = i
        · subst e
          by_cases q : ∃ l, l < cnt c ∧ k = 15 + 56 * c + 4 * l
          · obtain ⟨l, l1, rfl⟩ := q
            rw [W1 _ _ (by omega), v1 l l1]
            obtain ⟨kd, kd1, kd2, kd3⟩ := hk c l hi l1
            have kn1 : q_kn (U.1 (m + 3)) (12 + 56 * c + 4 * l) = kd := q_kn_of (by rw [g3 _ (by omega) (by omega)]; exact kd1) kd2
            have kn2 : q_kn (T.1 (m + 6)) (12 + 56 * c + 4 * l) = kd := q_kn_of kd1 kd2
            unfold q_row
            rw [show (15 + 56 * c + 4 * l - 15) / 56 = c by omega, hn, io_tn (by omega), if_pos ⟨by omega, by omega, by omega, by omega⟩, show 15 + 56 * c + 4 * l - 3 = 12 + 56 * c + 4 * l by omega, show 15 + 56 * c + 4 * l - 1 = 14 + 56 * c + 4 * l by omega, kn1, kn2, pU, (wk3 kd kd2 kd3).2, g3 _ (by omega) (by omega), g3 _ (by omega) (by omega)]
          · rw [X1 _ _ (by omega) (fun z => q z.2), g3 _ (by omega) (by omega)]
            unfold q_row
            rw [if_neg (fun z => q ?_)]
            obtain ⟨z1, z2, z3, z4⟩ := z
            rw [show (k - 15) / 56 = c by omega, hn, io_tn (by omega)] at z4
            exact ⟨(k - 15) % 56 / 4, z4, by omega⟩
        · rw [X1 _ _ (by omega) (by rintro ⟨-, l, l1, q⟩; omega)]
          exact g1 c (by omega) k k1 k2 k3 k4
      · show W.1 (m + 3) (10 + 56 * c) = -1 ∧ W.1 (m + 3) (11 + 56 * c) = -1
        by_cases e : c = i
        · subst e
          exact ⟨by rw [hW, pI_ne (by omega), show 10 + 56 * c = 4 + 56 * c + 6 by omega, pI_same], by rw [hW, show 11 + 56 * c = 4 + 56 * c + 7 by omega, pI_same]⟩
        · rw [X1 _ _ (by omega) (by rintro ⟨-, l, l1, q⟩; omega), X1 _ _ (by omega) (by rintro ⟨-, l, l1, q⟩; omega)]
          exact g2 c (by omega)
      · show W.1 (m + 3) k = _
        rw [X1 _ _ (by omega) (by rintro ⟨-, l, l1, q⟩; omega)]
        exact g3 k k1 (by omega)
      · show (m_pJ W (m + 7) (5 * i + 1) w).2.1 (m + 7) (5 * c + 1) = (W.1 (m + 3) (7 + 56 * c)).toInt64 + (q_sm (fun i => W.1 (m + 3) (15 + 56 * c + 4 * i)) (cnt c)).toInt64
        by_cases e : c = i
        · subst e
          rw [pJ_same]; exact hw
        · rw [pJ_ne (by omega), X1 _ _ (by omega) (by rintro ⟨-, l, l1, q⟩; omega), q_sm_congr (g' := fun j => U.1 (m + 3) (15 + 56 * c + 4 * j)) (fun j hj => X1 _ _ (by have := (hcnt c (by omega)).1; omega) (by have := (hcnt c (by omega)).1; rintro ⟨-, l, l1, q⟩; omega)), hW]
          show V.2.1 (m + 7) (5 * c + 1) = _
          rw [v3]; exact g4 c (by omega)
      · rw [pJ_ne (fun e => j2 i (by omega) e.2), hW]
        show V.2.1 (m + 7) j = 0
        rw [v3]; exact g5 j j1 (fun c hc => j2 c (by omega))
      · refine fun b j hb => ⟨?_, ?_, ?_⟩
        · show W.1 b j = _
          rw [X1 _ _ (by omega) (by rintro ⟨q, -⟩; omega)]; exact (g6 b j hb).1
        · rw [pJ_ne (by omega), hW]; show V.2.1 b j = _; rw [v3]; exact (g6 b j hb).2.1
        · rw [hW]; show V.2.2 b j = _; rw [v3]; exact (g6 b j hb).2.2
      · rw [hW]; show V.2.2 = _; rw [v3]; exact g7
      · unfold F_X9_takes_76
        simp only []
        rw [m_gd_t hMU.o, hMU.p.1, m_b1_s, m_gd_t hMU.p.2.1, m_gd_t (q_inl (wi := 5) (i := 5) rfl hMU.p.2 (by omega) (by omega)), if_neg (show ¬ U.1 (m + 1) (5 : Int32).toNatClampNeg ≤ Int32.ofNat i from by rw [tn5, pU, v5]; exact fun q => absurd ((io_le (by omega) (by omega)).mp q) (by omega)), m_jp_s, same]
        rw [e_lays (wi := 6) hMV (w := 6) rfl (by omega) (by omega), m_bw_s, e_lays (wi := 7) (S := m_pI V (m + 3) (4 + 56 * i + 6) (-1)) hMV (w := 7) rfl (by omega) (by omega), m_bw_s, ← hW, hMW.b.1, m_b1_s, em, m_b1_s, m_gd_t hMW.b.2.1, e51, m_gd_t (q_inn hMW.b.2 (by omega) (by omega)), io_tn (by omega), m_lt_s, io_one, m_lt_s])
    (fun U hU _j lp => by
      obtain ⟨g1, g2, g3, g4, g5, g6, g7⟩ := hU
      have hMU : q_M Z U.2.2 m := by rw [g7]; exact hM3
      unfold F_X9_takes_76
      simp only []
      rw [m_gd_t hMU.o, hMU.p.1, m_b1_s, m_gd_t hMU.p.2.1, m_gd_t (q_inl (wi := 5) (i := 5) rfl hMU.p.2 (by omega) (by omega)), if_pos (show U.1 (m + 1) (5 : Int32).toNatClampNeg ≤ Int32.ofNat nc from by rw [tn5, (g6 _ _ (by omega)).1, v5]; exact Int32.le_refl _)]) T3 ⟨fun c hc => absurd hc (Nat.not_lt_zero _), fun c hc => absurd hc (Nat.not_lt_zero _), fun k hk _ => a3 k hk, fun c hc => absurd hc (Nat.not_lt_zero _), fun j hj _ => y1 j hj, q_ag_refl _ _, rfl⟩
  obtain ⟨g1, g2, g3, g4, g5, g6, g7⟩ := h4
  have hM4 : q_M Z T4.2.2 m := by rw [g7]; exact hM3
  have bn : vp_nar .boolean (0 : Int32) = 0 := by decide
  obtain ⟨T5, hT5⟩ : ∃ y, y = m_pI (m_pI T4 (m + 10) 0 0) (m + 10) 1 0 := ⟨_, rfl⟩
  have t0 : (0 : Int32).toNatClampNeg = 0 := rfl
  have t1 : (1 : Int32).toNatClampNeg = 1 := rfl
  have b5 : q_ag (fun b _ => ¬ b = m + 10) T4 T5 := by rw [hT5]; exact q_ag_I (q_ag_I (q_ag_refl _ _) (by omega)) (by omega)
  have j5 : T5.2 = T4.2 := by rw [hT5]; rfl
  refine ⟨T5, ?_, fun j hj => ?_, fun c hc k k1 k2 k3 k4 => ?_, fun c hc => ?_, fun k hk => ?_, fun c hc => ?_, fun c w hc hw hw1 => ?_, ⟨?_, ?_⟩, ?_, ?_⟩
  · unfold f_X9_takes
    rw [m_jp_s, e1, m_jp_s, e2, m_jp_s, e3, m_jp_s, e4, m_gd_t hM.o, hM4.isSaved.1, m_b1_s, m_gd_t hM4.isSaved.2.1, m_gd_t (q_inl (wi := 0) (i := 0) rfl hM4.isSaved.2 (by omega) (by omega)), m_lt_s, t0, bn, show (m_pI T4 (m + 10) 0 0).2.2 m 10 = some (m + 10) from hM4.isSaved.1, m_b1_s, m_gd_t hM4.isSaved.2.1, m_gd_t (q_inl (wi := 1) (i := 1) rfl hM4.isSaved.2 (by omega) (by omega)), t1, ← hT5, m_lt_s]
  · rw [(b5 _ _ (by omega)).1, (g6 _ _ (by omega)).1]; exact p3 j hj
  · rw [(b5 _ _ (by omega)).1]; exact g1 c hc k k1 k2 k3 k4
  · rw [(b5 _ _ (by omega)).1, (b5 _ _ (by omega)).1]; exact g2 c hc
  · rw [(b5 _ _ (by omega)).1]; exact g3 k (by omega) (Or.inl hk)
  · rw [j5, (b5 _ _ (by omega)).1, q_sm_congr (g' := fun i => T4.1 (m + 3) (15 + 56 * c + 4 * i)) (fun j _ => (b5 _ _ (by omega)).1)]; exact g4 c hc
  · rw [j5]; exact g5 _ (by omega) (fun c' _ => by omega)
  · rw [hT5, pI_ne (by omega), pI_same]
  · rw [hT5, pI_same]
  · refine q_ag_trans (q_ag_sub h1.2.1 (fun b k hb => by omega)) (q_ag_trans (q_ag_sub h2.2.1 (fun b k hb => by omega)) (q_ag_trans (q_ag_sub y2 (fun b k hb => by omega)) (q_ag_trans (q_ag_sub g6 (fun b k hb => by omega)) (q_ag_sub b5 (fun b k hb => by omega)))))
  · rw [j5, g7, y4, h2.2.2, h1.2.2]
end TAKES
