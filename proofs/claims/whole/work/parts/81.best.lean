section BEST
variable {Z : m_Z} {x m N pb ns nk nc : Nat} {S T : m_S}
theorem J_bestFor (h : q_Rel Z x m N pb ns nk nc S T) (s hours : Int32) : q_JW Z x m (N + 1) [("java/util/NoSuchElementException", 1), ("java/lang/IllegalArgumentException", 2)] (fun a b => a = b) S T (f_X8_bestFor Z S x s hours) (f_X9_bestFor Z T m s hours) := by
  obtain ⟨T0, e0, z0, f0, h0⟩ := q_zero h
  have hM := h0.M
  have hm := h0.em
  have h6 := h0.nc6
  have h4 := h0.nk4
  have hpb := h0.pbr
  obtain ⟨cnt, t, t9, c5, hg, hser, hst⟩ := h0.sta
  rcases q_find h0 z0 c5 hser hst s with ⟨c, k, T1, hc, hk, hs, g1, g2, r1, r23, r24, z1, f1, h1, fa, fb⟩ | ⟨T1, g1, r1, z1, f1, h1⟩
  · have hM1 := h1.M
    by_cases c3 : 1 ≤ hours ∧ hours ≤ 72
    · obtain ⟨H, rfl, H1, H2⟩ := q_nat (n := 72) (by omega) c3
      obtain ⟨qq, qq1, qq2, qq3, uq⟩ := hser
      have p1 : T1.1 (m + 1) = T0.1 (m + 1) := funext fun j => fa _ _ (by omega)
      have p3 : T1.1 (m + 3) = T0.1 (m + 3) := funext fun j => fa _ _ (by omega)
      have hst1 : q_state (pb + 6) nk nc cnt S (x + 137) (T1.1 (m + 1)) (T1.1 (m + 3)) (T1.2.1 (m + 7)) t := by rw [p1, p3, fb]; exact hst
      have hcs := hst1.2.2.2.2.2 c hc
      have hV := (h0.st.2.2.2.2 c (by omega)).2.2.1
      rw [show x + 137 + 4 + 10 * c = x + 141 + 10 * c by omega] at hcs hV
      have hn5 := c5 c hc
      obtain ⟨n, hn⟩ : ∃ n, n = cnt c := ⟨_, rfl⟩
      have v1 := hcs.1
      have v2 := hcs.2.1
      rw [← hn] at v1 v2 hn5
      have hkn : k < n := by omega
      have hca := v1.2.2.2.2.2.2.2 k hkn
      obtain ⟨kd, hkd⟩ : ∃ y, y = q_kn (T1.1 (m + 3)) (12 + 56 * c + 4 * k) := ⟨_, rfl⟩
      have ckd := hca.2.1
      rw [← hkd] at ckd
      obtain ⟨k1, k2, k3⟩ := h1.ks.2 kd ckd.1
      obtain ⟨mass, hmass⟩ : ∃ y, y = T1.1 (m + 3) (12 + 56 * c + 4 * k + 2) := ⟨_, rfl⟩
      have w3 := v2.2.2.2.2 k hkn
      rw [show 14 + 56 * c + 4 * k = 12 + 56 * c + 4 * k + 2 by omega, ← hmass, ← hkd] at w3
      obtain ⟨S1, g3, s1, s2, s3⟩ := g_foresee (H := H) h1.ox h1.o137 h1.o138 h1.o203 h1.o212 h1.r6 h1.r3 h1.r137 h1.r8 h1.r1 (by omega) h1.s9 hst1.1.1 t9 H2
      rw [show S.1 (x + 138) 1 = T1.1 (m + 3) 1 from hst1.2.1, show S.1 (x + 138) 2 = T1.1 (m + 3) 2 from hst1.2.2.1] at s1
      obtain ⟨TA, rA, ra⟩ := e_aside hM1
      have hb0 : q_btw x m ns t H S T1 S1 TA := ⟨fun b k hb => s2 b k (by omega) (by omega), by rw [s3], fun b j hb => by rw [s3], s1, fun j hj => ⟨(ra.2.2.1 _ _ (by omega)).1, ra.1 j hj⟩, fun j hj => ⟨(ra.2.2.1 _ _ (by omega)).2.1, ra.2.1 j hj⟩, q_ag_sub ra.2.2.1 (fun b k hb => by omega), ra.2.2.2⟩
      obtain ⟨jd, hjd⟩ : ∃ j : Int32 → m_S → Option (Except String Int32 × m_S), j = fun (v17 : Int32) (S18 : m_S) => some ((.ok v17), S18) := ⟨_, rfl⟩
      obtain ⟨jm, hjm⟩ : ∃ j : Int32 → m_S → Option (Int32 × m_S), j = fun (v19 : Int32) (S20 : m_S) => some (v19, S20) := ⟨_, rfl⟩
      have gi : f_X7_indexOf Z S1 (x + 141 + 10 * c) s = some (Int32.ofNat k) := by
        have lw : ∀ j, j < n → S1.1 (x + 141 + 10 * c + 2 + j) 0 = T0.1 (m + 3) (12 + 56 * c + 4 * j) := fun j hj => by rw [s2 _ _ (by omega) (by omega), ← p3]; exact (v1.2.2.2.2.2.2.2 j hj).1
        refine (g_index (s := s) (n := n) (by rw [s3]; exact hV) (by rw [s2 _ _ (by omega) (by omega)]; exact v1.2.2.2.2.2.1) (by omega)).1 k hkn ((lw k hkn).trans hs) (fun i hi e => ?_)
        rw [lw i (by omega)] at e
        have := uq c i c k hc (by omega) hc hk (e.trans hs.symm)
        omega
      -- one trial
      have one : ∀ (hum : Int32) (en : Nat) (U V : m_S), en ≤ 100 → q_btw x m ns t H S T1 U V → ∃ U1 U2 U3 V1 V2 V3 w, f_X7_copyFrom Z U (x + 204) (x + 141 + 10 * c) = some ((), U1) ∧ f_X7_recondition Z U1 (x + 204) (Int32.ofNat k) (T1.1 (m + 3) 3) hum = some ((), U2) ∧ f_X8_unsafeHoursOfTrial Z U2 x (Int32.ofNat H) (Int32.ofNat en) = some (Int32.ofNat (if w < en then w else en), U3) ∧ f_X9_exchanges Z V m (Int32.ofNat c) (Int32.ofNat k) (T1.1 (m + 3) 3) hum = some ((), V1) ∧ f_X9_hours Z V1 m (Int32.ofNat H) (Int32.ofNat c) (Int32.ofNat c) = some (Int32.ofNat w, V2) ∧ f_X9_bringsBack Z V2 m = some ((), V3) ∧ w ≤ H ∧ q_btw x m ns t H S T1 U3 V3 ∧ (∀ j, U1.2.2 x j = S.2.2 x j) ∧ U1.1 (x + 137) 1 = T1.1 (m + 3) 3 ∧ V1.1 m 23 = Int32.ofNat c := by
        intro hum en U V hen hb
        obtain ⟨b1, b2, b3, b4, b5, b6, b7, b8⟩ := id hb
        have hMV : q_M Z V.2.2 m := by rw [b8]; exact hM1
        have rU : q_RS U.2.2 x 0 341 := q_RS_tr h1.rs b3
        have hVU : q_V Z U.2.2 (x + 141 + 10 * c) := q_V_cgr hV (fun b j hb => b3 b j (by omega))
        have trU : q_V Z U.2.2 (x + 204) := q_V_of h1.zl rU (by decide +kernel)
        have vU : q_vit (pb + 6) nk n U (x + 141 + 10 * c) (T1.1 (m + 1)) (T1.1 (m + 3)) c := q_vit_cp v1 (fun k _ => b1 _ _ (by omega)) (fun i hi => ⟨fun k _ _ => b1 _ _ (by omega), b3 _ _ (by omega)⟩) (fun _ _ _ => rfl)
        obtain ⟨U1, eU1, p1, p2, p3, p4, p5⟩ := g_copyV (S := U) (v := x + 204) (w := x + 141 + 10 * c) (n := n) trU hVU vU.2.2.2.2.2.1 (by omega) (by omega) (q_kind_ex vU)
        have v11 : q_vit (pb + 6) nk n U1 (x + 204) (T1.1 (m + 1)) (T1.1 (m + 3)) c := q_vit_cp vU p1 p2 (fun _ _ _ => rfl)
        have trU1 : q_V Z U1.2.2 (x + 204) := q_V_cgr trU (fun b j hb => p4 b j (by omega))
        obtain ⟨mn, hmn⟩ : ∃ y, y = q_mp (T1.1 (m + 1)) kd mass hum := ⟨_, rfl⟩
        have mb := q_mp_t k3 w3.1.1 w3.1.2 hum
        rw [← hmn] at mb
        have low : ∀ b j, b < x + 203 → U1.1 b j = S.1 b j := fun b j hb => by rw [(p3 b j (by omega)).1]; exact b1 b j (by omega)
        have lowR : ∀ b j, b < x + 203 → U1.2.2 b j = S.2.2 b j := fun b j hb => by rw [p4 b j (by omega)]; exact b3 b j (by omega)
        have kK1 : q_Ks Z (pb + 6) nk U1 (T1.1 (m + 1)) := q_Ks_ag h1.ks (fun b j hb => ⟨low b j (by omega), by rw [p5, b2], lowR b j (by omega)⟩)
        obtain ⟨kk1, kk2, kk3⟩ := kK1.2 kd ckd.1
        have hc1 := v11.2.2.2.2.2.2.2 k hkn
        have ck1 := hc1.2.1
        rw [← hkd] at ck1
        obtain ⟨sr, hsr⟩ : ∃ y, y = T1.1 (m + 3) 3 := ⟨_, rfl⟩
        obtain ⟨ca, hcaa⟩ : ∃ y, y = x + 204 + 2 + k := ⟨_, rfl⟩
        obtain ⟨U2, hU2⟩ : ∃ y, y = m_pI (m_pI U1 ca 0 sr) ca 3 mn := ⟨_, rfl⟩
        have sma : U1.1 ca 2 = mass := by rw [hmass, hcaa]; exact hc1.2.2.1
        have a12 : q_ag (fun b j => ¬ (b = ca ∧ (j = 0 ∨ j = 3))) U1 U2 := by rw [hU2]; exact q_ag_I (q_ag_I (q_ag_refl _ _) (by omega)) (by omega)
        have r12 : U2.2 = U1.2 := by rw [hU2]; rfl
        have hok := (trU1.2.2 k (by omega)).2
        have hvr := (trU1.2.2 k (by omega)).1
        rw [← hcaa] at hok hvr
        have kI : ∀ b j, b < x + 137 → (m_pI U1 ca 0 sr).1 b j = U1.1 b j := fun b j hb => by rw [pI_ne (by omega)]
        have kd4 : kd < 4 := by have := ckd.1; omega
        have k2' : q_kin (m_pI U1 ca 0 sr) (pb + 6 + 3 * kd) (T1.1 (m + 1)) kd := by
          refine ⟨?_, ?_, ?_, fun j hj => ⟨?_, ?_⟩⟩
          · rw [kI _ _ (by omega)]; exact kk2.1
          · rw [kI _ _ (by omega)]; exact kk2.2.1
          · rw [kI _ _ (by omega)]; exact kk2.2.2.1
          · rw [kI _ _ (by omega)]; exact (kk2.2.2.2 j hj).1
          · rw [kI _ _ (by omega)]; exact (kk2.2.2.2 j hj).2
        have hren : f_X7_recondition Z U1 (x + 204) (Int32.ofNat k) sr hum = some ((), U2) := by
          unfold f_X7_recondition
          rw [if_neg (io_nn (n := 6) (by omega) (by omega)), m_gd_t trU1.1, trU1.2.1.1, m_b1_s, m_gd_t trU1.2.1.2.1, trU1.2.1.2.2, if_neg (fun q => absurd ((io_le (by omega) (by omega)).mp q) (by omega)), m_gd_t (io_in (by omega) (by omega)), io_tn (by omega), (trU1.2.2 k (by omega)).1, m_b1_s, ← hcaa, m_gd_t hok]
          unfold f_X0_renew
          rw [m_gd_t hok, m_lt_s, g_moistAt (k := kd) (p := T1.1 (m + 1)) hok (show (m_pI U1 ca 0 sr).2.2 ca 1 = some (pb + 6 + 3 * kd) by rw [hcaa]; exact ck1.2.2) (show q_K Z U1.2.2 (pb + 6 + 3 * kd) from kk1) k2' kk3, m_b1_s, pI_ne (by omega), sma, ← hmn, m_lt_s, ← hU2, m_bw_s]
        have pV : V.1 (m + 1) = T1.1 (m + 1) := funext fun j => (b7 _ _ (by omega)).1
        have vk : V.1 (m + 3) (12 + 56 * c + 4 * k + 1) = Int32.ofNat kd := by rw [(b5 _ (by omega)).1]; exact ckd.2.1
        have vm : V.1 (m + 3) (12 + 56 * c + 4 * k + 2) = mass := by rw [(b5 _ (by omega)).1, hmass]
        have ex := e_exchs (c := c) (k := k) (kd := kd) (s := sr) (hum := hum) hMV (by omega) (by omega) vk kd4 (by rw [pV]; exact k3)
        rw [pV, vm, ← hmn] at ex
        obtain ⟨V0, hV0⟩ : ∃ y, y = m_pJ V (m + 7) (5 * c + 4) (V.2.1 (m + 7) (5 * c + 4) + (V.1 (m + 3) (12 + 56 * c + 4 * k + 3)).toInt64) := ⟨_, rfl⟩
        rw [← hV0] at ex
        obtain ⟨V1, hV1⟩ : ∃ y, y = m_pJ (q_pc m c k V0 sr (Int32.ofNat kd) mass mn) (m + 7) (5 * c + 3) (V.2.1 (m + 7) (5 * c + 3) + mn.toInt64) := ⟨_, rfl⟩
        rw [← hV1] at ex
        have pcag := q_pc_ag m c k V0 sr (Int32.ofNat kd) mass mn
        have cT := q_pc_c (m := m) (c := c) (k := k) (T := V0) (s := sr) (kd := Int32.ofNat kd) (mass := mass) (mo := mn)
        have cT1 : V1.1 (m + 3) (12 + 56 * c + 4 * k) = sr ∧ V1.1 (m + 3) (12 + 56 * c + 4 * k + 1) = Int32.ofNat kd ∧ V1.1 (m + 3) (12 + 56 * c + 4 * k + 2) = mass ∧ V1.1 (m + 3) (12 + 56 * c + 4 * k + 3) = mn := by rw [hV1]; exact cT
        have aV : q_ag (fun b j => ¬ (b = m + 3 ∧ 12 + 56 * c + 4 * k ≤ j ∧ j < 16 + 56 * c + 4 * k) ∧ ¬ (b = m + 7 ∧ (j = 5 * c + 3 ∨ j = 5 * c + 4))) V V1 := by
          rw [hV1]
          refine q_ag_J (q_ag_trans ?_ (q_ag_sub pcag (fun b j hb => by omega))) (by omega)
          rw [hV0]; exact q_ag_J (q_ag_refl _ _) (by omega)
        have rV1 : V1.2.2 = V.2.2 := by rw [hV1, hV0]; rfl
        have aV0 : ∀ j, j < 340 → j ≠ 12 + 56 * c + 4 * k → j ≠ 15 + 56 * c + 4 * k → V1.1 (m + 3) j = T1.1 (m + 3) j := fun j j1 j3 j4 => by
          by_cases q1 : j = 12 + 56 * c + 4 * k + 1
          · rw [q1, cT1.2.1]; exact ckd.2.1.symm
          · by_cases q2 : j = 12 + 56 * c + 4 * k + 2
            · rw [q2, cT1.2.2.1, hmass]
            · rw [(aV _ _ (by omega)).1]; exact (b5 j j1).1
        have pV1 : V1.1 (m + 1) = T1.1 (m + 1) := by rw [← pV]; exact funext fun j => (aV _ _ (by omega)).1
        obtain ⟨w1, w2⟩ := q_cs_upd (S' := U2) (a' := V1.1 (m + 3)) (k0 := k) v11 v2 hkn (q_ag_sub a12 (fun b k hb => by omega)) (fun j j1 j2 j3 j4 => aV0 j (by omega) j3 j4)
          (by rw [← hcaa, cT1.1, hU2, pI_ne (by omega), pI_same])
          (by rw [← hcaa, show 15 + 56 * c + 4 * k = 12 + 56 * c + 4 * k + 3 by omega, cT1.2.2.2, hU2, pI_same])
          (by rw [show 15 + 56 * c + 4 * k = 12 + 56 * c + 4 * k + 3 by omega, show 14 + 56 * c + 4 * k = 12 + 56 * c + 4 * k + 2 by omega, cT1.2.2.2, ← hkd, ← hmass]; exact ⟨mb.1, mb.2.2.1⟩)
        have low2 : ∀ b j, ¬ (x + 204 ≤ b ∧ b < x + 212) → U2.1 b j = U.1 b j := fun b j hb => by rw [(a12 b j (by omega)).1]; exact (p3 b j (by omega)).1
        have j2 : U2.2.1 = U.2.1 := by rw [r12]; exact p5
        have rr2 : ∀ b j, ¬ (x + 206 ≤ b ∧ b < x + 212) → U2.2.2 b j = U.2.2 b j := fun b j hb => by rw [r12]; exact p4 b j (by omega)
        have trv : q_trv Z pb ns nk nc n c x m t 0 (T1.1 (m + 3) 1) (T1.1 (m + 3) 2) U2 V1 := by
          refine ⟨by rw [rV1]; exact hMV, by rw [r12]; exact trU1, ?_, ?_, ⟨?_, ?_, ?_⟩, by rw [pV1]; exact w1, by rw [pV1]; exact w2⟩
          · rw [pV1]; exact q_set9_ag h1.s9 (fun b j hb => ⟨by rw [low2 b j (by omega)]; exact b1 b j (by omega), by rw [j2, b2], by rw [rr2 b j (by omega)]; exact b3 b j (by omega)⟩) (fun _ _ => rfl)
          · rw [pV1]; exact q_Ks_ag h1.ks (fun b j hb => ⟨by rw [low2 b j (by omega)]; exact b1 b j (by omega), by rw [j2, b2], by rw [rr2 b j (by omega)]; exact b3 b j (by omega)⟩)
          · rw [aV0 0 (by omega) (by omega) (by omega)]; exact hst1.1.2
          · rw [aV0 1 (by omega) (by omega) (by omega)]; rfl
          · rw [aV0 2 (by omega) (by omega) (by omega)]; rfl
        obtain ⟨U3, V2, w, y1, y2, y3, y4, y5, y6, y7⟩ := q_try_hours (en := en) hpb (by omega) H2 t9 hen h0.ox h0.o204 h0.o212 H 0 100000 100000 (by omega) (by omega) (by omega) U2 V1 0 (by omega) (by omega) trv (fun j hj => by rw [low2 _ _ (by omega), pV1]; exact b4 j hj) (by rw [rr2 _ _ (by omega), b3 _ _ (by omega)]; exact h0.r8) (by rw [rr2 _ _ (by omega), b3 _ _ (by omega)]; exact h0.r7)
        have hMV2 : q_M Z V2.2.2 m := by rw [y1.2.2, rV1]; exact hMV
        obtain ⟨V3, r3, r4⟩ := e_back hMV2
        refine ⟨U1, U2, U3, V1, V2, V3, w, eU1, by rw [← hsr]; exact hren, ?_, by rw [← hsr]; exact ex, ?_, r3, by omega, ?_, fun j => lowR x j (by omega), ?_, ?_⟩
        · unfold f_X8_unsafeHoursOfTrial
          rw [m_jp_s]
          exact y7 _
        · unfold f_X9_hours
          rw [m_jp_s]
          exact y6 _
        · refine q_btw_back (T1 := V1) hb (q_ag_trans (q_ag_sub aV (fun b k hb => by omega)) (q_ag_sub (q_fH_cut y1) (fun b k hb => by omega))) (by rw [y1.2.2, rV1]) r4 (fun b j hb => ?_) ?_ (fun b j hb => ?_)
          · rw [y2 b j (by omega)]; exact low2 b j hb
          · rw [y3]; exact j2
          · rw [y3]; exact rr2 b j hb
        · rw [low _ _ (by omega)]; exact hst1.2.2.2.1
        · rw [(aV m 23 (by omega)).1, (b7 m 23 (by omega)).1]; exact r23
      have k1000 : ∀ i, i < 10000 → ((1000 : Int32) < Int32.ofNat i ↔ 1000 < i) := fun i hi => io_lt (a := 1000) (by omega) (by omega)
      have nm1 : ∀ i, i < 10000 → ¬ Int32.ofNat i = (-1 : Int32) := fun i hi e => by have := t_eq.mp e; rw [t_ofNat (by omega), show (-1 : Int32).toInt = -1 from rfl] at this; omega
      have step : ∀ (i en : Nat) U V, i ≤ 20 → en ≤ 100 → q_btw x m ns t H S T1 U V → ∃ U3 V3 w, w ≤ H ∧ q_btw x m ns t H S T1 U3 V3 ∧ (∀ f b, m_fx (F_X8_bestFor_41 Z x (Int32.ofNat H) (x + 141 + 10 * c) (Int32.ofNat k) jd) (f + 1) (b, Int32.ofNat en, Int32.ofNat (50 * i), U) = m_fx (F_X8_bestFor_41 Z x (Int32.ofNat H) (x + 141 + 10 * c) (Int32.ofNat k) jd) f (if w < en then (Int32.ofNat (50 * i), Int32.ofNat w, Int32.ofNat (50 * (i + 1)), U3) else (b, Int32.ofNat en, Int32.ofNat (50 * (i + 1)), U3))) ∧ (∀ f b, b < 10000 → m_fx (F_X9_bestFor_47 Z m (Int32.ofNat H) jm) (f + 1) (Int32.ofNat b, Int32.ofNat en, Int32.ofNat (50 * i), V) = m_fx (F_X9_bestFor_47 Z m (Int32.ofNat H) jm) f (if w < en then (Int32.ofNat (50 * i), Int32.ofNat w, Int32.ofNat (50 * (i + 1)), V3) else (Int32.ofNat b, Int32.ofNat en, Int32.ofNat (50 * (i + 1)), V3))) ∧ (∀ f e, m_fx (F_X9_bestFor_47 Z m (Int32.ofNat H) jm) (f + 1) ((-1 : Int32), e, Int32.ofNat (50 * i), V) = m_fx (F_X9_bestFor_47 Z m (Int32.ofNat H) jm) f (Int32.ofNat (50 * i), Int32.ofNat w, Int32.ofNat (50 * (i + 1)), V3)) := by
        intro i en U V hi hen hb
        obtain ⟨U1, U2, U3, V1, V2, V3, w, x1, x2, x3, x4, x5, x6, x7, x8, x9, x10, x11⟩ := one (Int32.ofNat (50 * i)) en U V hen hb
        obtain ⟨b1, b2, b3, b4, b5, b6, b7, b8⟩ := id hb
        have hMV : q_M Z V.2.2 m := by rw [b8]; exact hM1
        have e50 : Int32.ofNat (50 * i) + (50 : Int32) = Int32.ofNat (50 * (i + 1)) := by
          show Int32.ofNat (50 * i) + Int32.ofNat 50 = _
          rw [io_add]; exact congrArg Int32.ofNat (by omega)
        have e3 : V.1 (m + 3) (3 : Int32).toNatClampNeg = T1.1 (m + 3) 3 := (b5 3 (by omega)).1
        have e23 : V.1 m 23 = Int32.ofNat c := (b7 m 23 (by omega)).1.trans r23
        have e24 : V.1 m 24 = Int32.ofNat k := (b7 m 24 (by omega)).1.trans r24
        have rx : ∀ j, U.2.2 x j = S.2.2 x j := fun j => b3 _ _ (by omega)
        refine ⟨U3, V3, w, x7, x8, fun f b => ?_, fun f b hb => ?_, fun f e => ?_⟩
        · rw [m_fx_s]
          generalize m_fx (F_X8_bestFor_41 Z x (Int32.ofNat H) (x + 141 + 10 * c) (Int32.ofNat k) jd) f = lp
          unfold F_X8_bestFor_41
          simp only []
          rw [if_neg (fun q => absurd ((k1000 (50 * i) (by omega)).mp q) (by omega)), rx, h0.r7, m_b1_s, m_gd_t h0.o204, x1, m_bw_s, x9, h0.r7, m_b1_s, x9, h0.r3, m_b1_s, m_gd_t h0.o137, m_gd_t h0.o204, x10, x2, m_bw_s, x3, m_bw_s]
          by_cases q : w < en
          · rw [if_pos q, if_pos q, if_neg (show ¬ Int32.ofNat en ≤ Int32.ofNat w from fun z => absurd ((io_le (by omega) (by omega)).mp z) (by omega)), m_lt_s, e50]
          · rw [if_neg q, if_neg q, if_pos (Int32.le_refl _), m_lt_s, e50]
        · rw [m_fx_s]
          generalize m_fx (F_X9_bestFor_47 Z m (Int32.ofNat H) jm) f = lp
          unfold F_X9_bestFor_47
          simp only []
          rw [if_neg (fun q => absurd ((k1000 (50 * i) (by omega)).mp q) (by omega)), hMV.a.1, m_b1_s, m_gd_t hMV.a.2.1, m_gd_t (q_inl (wi := 3) (i := 3) rfl hMV.a.2 (by omega) (by omega)), e23, e24, e3, x4, m_bw_s, x11, x5, m_bw_s, x6, m_bw_s, if_neg (nm1 b hb)]
          by_cases q : w < en
          · rw [if_pos q, if_pos (show Int32.ofNat w < Int32.ofNat en from (io_lt (by omega) (by omega)).mpr q), m_lt_s, e50]
          · rw [if_neg q, if_neg (show ¬ Int32.ofNat w < Int32.ofNat en from fun z => absurd ((io_lt (by omega) (by omega)).mp z) (by omega)), m_lt_s, e50]
        · rw [m_fx_s]
          generalize m_fx (F_X9_bestFor_47 Z m (Int32.ofNat H) jm) f = lp
          unfold F_X9_bestFor_47
          simp only []
          rw [if_neg (fun q => absurd ((k1000 (50 * i) (by omega)).mp q) (by omega)), hMV.a.1, m_b1_s, m_gd_t hMV.a.2.1, m_gd_t (q_inl (wi := 3) (i := 3) rfl hMV.a.2 (by omega) (by omega)), e23, e24, e3, x4, m_bw_s, x11, x5, m_bw_s, x6, m_bw_s, if_pos trivial, m_lt_s, e50]
      have key : ∀ (d i fc fm b en : Nat), d + i = 21 → d < fc → d < fm → b < 10000 → en ≤ 100 → ∀ U V, q_btw x m ns t H S T1 U V → ∃ U' V' b', q_btw x m ns t H S T1 U' V' ∧ m_fx (F_X8_bestFor_41 Z x (Int32.ofNat H) (x + 141 + 10 * c) (Int32.ofNat k) jd) fc (Int32.ofNat b, Int32.ofNat en, Int32.ofNat (50 * i), U) = jd b' U' ∧ m_fx (F_X9_bestFor_47 Z m (Int32.ofNat H) jm) fm (Int32.ofNat b, Int32.ofNat en, Int32.ofNat (50 * i), V) = jm b' V' := by
        intro d
        induction d with
        | zero =>
          intro i fc fm b en h1 h2 h3 hb he U V hbt
          obtain ⟨f, rfl⟩ : ∃ f, fc = f + 1 := ⟨fc - 1, by omega⟩
          obtain ⟨f', rfl⟩ : ∃ f', fm = f' + 1 := ⟨fm - 1, by omega⟩
          refine ⟨U, V, Int32.ofNat b, hbt, ?_, ?_⟩
          · rw [m_fx_s]
            unfold F_X8_bestFor_41
            simp only []
            rw [if_pos ((k1000 (50 * i) (by omega)).mpr (by omega))]
          · rw [m_fx_s]
            unfold F_X9_bestFor_47
            simp only []
            rw [if_pos ((k1000 (50 * i) (by omega)).mpr (by omega))]
        | succ d ih =>
          intro i fc fm b en h1 h2 h3 hb he U V hbt
          obtain ⟨f, rfl⟩ : ∃ f, fc = f + 1 := ⟨fc - 1, by omega⟩
          obtain ⟨f', rfl⟩ : ∃ f', fm = f' + 1 := ⟨fm - 1, by omega⟩
          obtain ⟨U3, V3, w, y1, y2, y3, y4, y5⟩ := step i en U V (by omega) he hbt
          rw [y3, y4 f' b hb]
          by_cases q : w < en
          · rw [if_pos q, if_pos q]
            exact ih (i + 1) f f' (50 * i) w (by omega) (by omega) (by omega) (by omega) (by omega) U3 V3 y2
          · rw [if_neg q, if_neg q]
            exact ih (i + 1) f f' b en (by omega) (by omega) (by omega) hb he U3 V3 y2
      obtain ⟨U3, V3, w, y1, y2, y3, y4, y5⟩ := step 0 (H + 1) S1 TA (by omega) (by omega) hb0
      obtain ⟨U', V', b', n1, n2, n3⟩ := key 20 1 99999 99999 0 w (by omega) (by omega) (by omega) (by omega) (by omega) U3 V3 y2
      have tot1 : m_fx (F_X8_bestFor_41 Z x (Int32.ofNat H) (x + 141 + 10 * c) (Int32.ofNat k) jd) 100000 ((0 : Int32), Int32.ofNat (H + 1), (0 : Int32), S1) = jd b' U' := by
        refine (y3 99999 0).trans ?_
        rw [if_pos (by omega)]
        exact n2
      have tot2 : m_fx (F_X9_bestFor_47 Z m (Int32.ofNat H) jm) 100000 ((-1 : Int32), (0 : Int32), (0 : Int32), TA) = jm b' V' := (y5 99999 0).trans n3
      obtain ⟨b1, b2, b3, b4, b5, b6, b7, b8⟩ := n1
      have zV : V'.1 m 0 = 0 := by rw [(b7 _ _ (by omega)).1]; exact z1
      have aSU : q_ag (fun b j => ¬ (x + 203 ≤ b ∧ b < x + 213)) S U' := fun b j hb => ⟨b1 b j hb, by rw [b2], b3 b j (by omega)⟩
      have rU : q_RS U'.2.2 x 0 341 := q_RS_tr h1.rs b3
      have relV0 : q_Rel Z x m (N + 1) pb ns nk nc U' V' := q_Rel_pr h1 (Nat.le_succ _) (q_ag_sub aSU (fun b k hb => by omega)) rU (q_ag_sub b7 (fun b k hb => by omega)) (by rw [b8]; exact h1.rt) (fun j hj => (b5 j hj).1) (fun j hj => (b6 j hj).1)
      refine ⟨U', V', q_ag_sub aSU (fun b k hb => by omega), q_ag_trans f0 (q_ag_trans f1 (q_ag_sub b7 (fun b k hb => by omega))), ⟨pb, ns, nk, nc, relV0⟩, Or.inl ⟨b', b', ?_, ?_, zV, rfl⟩⟩
      · unfold f_X8_bestFor
        rw [m_gd_t h.ox, g1, m_btw_s, g_vitAt h hc, m_btw_s, g_reqHours, if_pos c3, m_btw_s, g3, m_bw_s, m_gd_t hV.1, gi, m_b1_s, m_lt_s, m_jp_s, ← hjd, io_one]
        rw [tot1, hjd]
      · unfold f_X9_bestFor
        rw [m_gd_t hM.o, m_lt_s, e0, r1, m_bw_s, e_may1 hM1.o z10 z1, m_bw_s, if_neg z10, e_isIn, m_b1_s, if_pos c3, e_may1 hM1.o z10 z1, m_bw_s, if_pos z10, rA, m_bw_s, m_jp_s, ← hjm]
        rw [tot2, hjm]
    · refine q_JW_er (T0 := T1) h1 (q_ag_trans f0 f1) (s := "java/lang/IllegalArgumentException") (b := 0) (k := 2) ?_ ?_ (by simp)
      · unfold f_X8_bestFor
        rw [m_gd_t h.ox, g1, m_btw_s, g_vitAt h hc, m_btw_s, g_reqHours, if_neg c3, m_btw_e]
      · unfold f_X9_bestFor
        rw [m_gd_t hM.o, m_lt_s, e0, r1, m_bw_s, e_may1 hM1.o z10 z1, m_bw_s, if_neg z10, e_isIn, m_b1_s, if_neg c3, e_may0 hM1.o z1 z20, m_bw_s, if_neg nz0]
  · refine q_JW_er (T0 := T1) h1 (q_ag_trans f0 f1) (s := "java/util/NoSuchElementException") (b := 0) (k := 1) ?_ ?_ (by simp)
    · unfold f_X8_bestFor
      rw [m_gd_t h.ox, g1, m_btw_e]
    · unfold f_X9_bestFor
      rw [m_gd_t hM.o, m_lt_s, e0, r1, m_bw_s, e_may0 hM.o z1 z10, m_bw_s, if_pos z00]
end BEST
