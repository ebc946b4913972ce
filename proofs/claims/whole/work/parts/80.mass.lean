section MASS
variable {Z : m_Z} {x m N pb ns nk nc : Nat} {S T : m_S}
/-- what stands between two trials: the original picture, the class's trial aside -/
def q_btw (x m : Nat) (ns t H : Nat) (S T S' T' : m_S) : Prop := (∀ b k, ¬ (x + 203 ≤ b ∧ b < x + 213) → S'.1 b k = S.1 b k) ∧ S'.2.1 = S.2.1 ∧ (∀ b j, ¬ (x + 206 ≤ b ∧ b < x + 212) → S'.2.2 b j = S.2.2 b j) ∧ (∀ j, j < H → S'.1 (x + 212) j = q_rmN (T.1 (m + 1)) ns t (T.1 (m + 3) 1) (T.1 (m + 3) 2) j) ∧ (∀ j, j < 340 → T'.1 (m + 3) j = T.1 (m + 3) j ∧ T'.1 (m + 4) j = T.1 (m + 3) j) ∧ (∀ j, j < 30 → T'.2.1 (m + 7) j = T.2.1 (m + 7) j ∧ T'.2.1 (m + 8) j = T.2.1 (m + 7) j) ∧ q_ag (fun b k => ¬ b = m + 3 ∧ ¬ b = m + 7 ∧ ¬ b = m + 4 ∧ ¬ b = m + 8 ∧ ¬ (b = m ∧ k = 25)) T T' ∧ T'.2.2 = T.2.2
theorem q_btw_back {ns t H : Nat} {S T S' T' T1 T2 T3 : m_S} (h : q_btw x m ns t H S T S' T') (h1 : q_ag (fun b k => b ≠ m + 3 ∧ b ≠ m + 7 ∧ ¬ (b = m ∧ k = 25)) T' T2) (h1r : T2.2.2 = T'.2.2) (h3 : q_rows m (m + 4) (m + 8) (m + 3) (m + 7) T2 T3) {S'' : m_S} (hS : ∀ b k, ¬ (x + 204 ≤ b ∧ b < x + 212) → S''.1 b k = S'.1 b k) (hSj : S''.2.1 = S'.2.1) (hSr : ∀ b j, ¬ (x + 206 ≤ b ∧ b < x + 212) → S''.2.2 b j = S'.2.2 b j) : q_btw x m ns t H S T S'' T3 := by
  obtain ⟨b1, b2, b3, b4, b5, b6, b7, b8⟩ := h
  refine ⟨fun b k hb => (hS b k (by omega)).trans (b1 b k hb), hSj.trans b2, fun b j hb => (hSr b j hb).trans (b3 b j hb), fun j hj => (hS _ _ (by omega)).trans (b4 j hj), fun j hj => ⟨?_, ?_⟩, fun j hj => ⟨?_, ?_⟩, ?_, ?_⟩
  · rw [h3.1 j hj, (h1 _ _ (by omega)).1]; exact (b5 j hj).2
  · rw [(h3.2.2.1 _ _ (by omega)).1, (h1 _ _ (by omega)).1]; exact (b5 j hj).2
  · rw [h3.2.1 j hj, (h1 _ _ (by omega)).2.1]; exact (b6 j hj).2
  · rw [(h3.2.2.1 _ _ (by omega)).2.1, (h1 _ _ (by omega)).2.1]; exact (b6 j hj).2
  · exact q_ag_trans b7 (q_ag_trans (q_ag_sub h1 (fun b k hb => by omega)) (q_ag_sub h3.2.2.1 (fun b k hb => by omega)))
  · rw [h3.2.2.2, h1r, b8]
theorem J_massFor (h : q_Rel Z x m N pb ns nk nc S T) (p q hum hours : Int32) : q_JW Z x m (N + 1) [("java/lang/IndexOutOfBoundsException", 1), ("java/lang/IllegalArgumentException", 2), ("java/util/NoSuchElementException", 3)] (fun a b => a = b) S T (f_X8_massFor Z S x p q hum hours) (f_X9_massFor Z T m p q hum hours) := by
  obtain ⟨T0, e0, z0, f0, h0⟩ := q_zero h
  have hM := h0.M
  have hm := h0.em
  have h6 := h0.nc6
  have h4 := h0.nk4
  have hpb := h0.pbr
  obtain ⟨cnt, t, t9, c5, hg, hser, hst⟩ := h0.sta
  have k9 : (999 : Int32).toInt = 999 := rfl
  have noIdx : (f_X8_massFor Z S x p q hum hours = some (.error "java/lang/IndexOutOfBoundsException", S)) → (f_X9_massFor Z T m p q hum hours = some (0, m_pI T0 m 0 1)) → q_JW Z x m (N + 1) [("java/lang/IndexOutOfBoundsException", 1), ("java/lang/IllegalArgumentException", 2), ("java/util/NoSuchElementException", 3)] (fun a b => a = b) S T (f_X8_massFor Z S x p q hum hours) (f_X9_massFor Z T m p q hum hours) := fun e1 e2 => q_JW_er h0 f0 (b := 0) (k := 1) e1 e2 (by simp)
  have noArg : (f_X8_massFor Z S x p q hum hours = some (.error "java/lang/IllegalArgumentException", S)) → (f_X9_massFor Z T m p q hum hours = some (0, m_pI T0 m 0 2)) → q_JW Z x m (N + 1) [("java/lang/IndexOutOfBoundsException", 1), ("java/lang/IllegalArgumentException", 2), ("java/util/NoSuchElementException", 3)] (fun a b => a = b) S T (f_X8_massFor Z S x p q hum hours) (f_X9_massFor Z T m p q hum hours) := fun e1 e2 => q_JW_er h0 f0 (b := 0) (k := 2) e1 e2 (by simp)
  rcases q_cdec h0.cs p with ⟨c, hc, rfl⟩ | hp
  · have hcs := hst.2.2.2.2.2 c hc
    have hV := (h0.st.2.2.2.2 c (by omega)).2.2.1
    rw [show x + 137 + 4 + 10 * c = x + 141 + 10 * c by omega] at hcs hV
    have hn5 := c5 c hc
    obtain ⟨n, hn⟩ : ∃ n, n = cnt c := ⟨_, rfl⟩
    have v1 := hcs.1
    have v2 := hcs.2.1
    rw [← hn] at v1 v2 hn5
    rcases q_cdec (n := nk) (by omega) q with ⟨k, hk, rfl⟩ | hq
    · obtain ⟨k1, k2, k3⟩ := h0.ks.2 k hk
      by_cases c2 : 0 ≤ hum ∧ hum ≤ 1000
      · by_cases c3 : 1 ≤ hours ∧ hours ≤ 72
        · obtain ⟨H, rfl, H1, H2⟩ := q_nat (n := 72) (by omega) c3
          obtain ⟨S1, g1, s1, s2, s3⟩ := g_foresee (H := H) h0.ox h0.o137 h0.o138 h0.o203 h0.o212 h0.r6 h0.r3 h0.r137 h0.r8 h0.r1 (by omega) h0.s9 hst.1.1 t9 H2
          rw [show S.1 (x + 138) 1 = T0.1 (m + 3) 1 from hst.2.1, show S.1 (x + 138) 2 = T0.1 (m + 3) 2 from hst.2.2.1] at s1
          obtain ⟨T1, r1, r2⟩ := e_aside hM
          have hb0 : q_btw x m ns t H S T0 S1 T1 := ⟨fun b k hb => s2 b k (by omega) (by omega), by rw [s3], fun b j hb => by rw [s3], s1, fun j hj => ⟨(r2.2.2.1 _ _ (by omega)).1, r2.1 j hj⟩, fun j hj => ⟨(r2.2.2.1 _ _ (by omega)).2.1, r2.2.1 j hj⟩, q_ag_sub r2.2.2.1 (fun b k hb => by omega), r2.2.2.2⟩
          obtain ⟨jc, hjc⟩ : ∃ j : m_S → Option (Except String Int32 × m_S), j = fun (S14 : m_S) => some (.error "java/util/NoSuchElementException", S14) := ⟨_, rfl⟩
          obtain ⟨jd, hjd⟩ : ∃ j : Int32 → m_S → Option (Except String Int32 × m_S), j = fun (v16 : Int32) (S17 : m_S) => some ((.ok v16), S17) := ⟨_, rfl⟩
          -- one trial
          have one : ∀ (M : Nat) (U V : m_S), 1 ≤ M → M ≤ 999 → q_btw x m ns t H S T0 U V → ∃ U1 U2 U3 V1 V2 V3 w, f_X7_copyFrom Z U (x + 204) (x + 141 + 10 * c) = some ((), U1) ∧ f_X1_moistureAt Z U1 (pb + 6 + 3 * k) hum (Int32.ofNat M) = some (q_mp (T0.1 (m + 1)) k (Int32.ofNat M) hum) ∧ f_X7_put Z U1 (x + 204) (T0.1 (m + 3) 3) (pb + 6 + 3 * k) (Int32.ofNat M) (q_mp (T0.1 (m + 1)) k (Int32.ofNat M) hum) = some ((), U2) ∧ f_X8_unsafeHoursOfTrial Z U2 x (Int32.ofNat H) 1 = some (Int32.ofNat (if w < 1 then w else 1), U3) ∧ f_X9_wouldHave Z V m (Int32.ofNat k) (Int32.ofNat M) hum = some (q_mp (T0.1 (m + 1)) k (Int32.ofNat M) hum) ∧ f_X9_addsTo Z V m (Int32.ofNat c) (T0.1 (m + 3) 3) (Int32.ofNat k) (Int32.ofNat M) (q_mp (T0.1 (m + 1)) k (Int32.ofNat M) hum) = some ((), V1) ∧ f_X9_hours Z V1 m (Int32.ofNat H) (Int32.ofNat c) (Int32.ofNat c) = some (Int32.ofNat w, V2) ∧ f_X9_bringsBack Z V2 m = some ((), V3) ∧ w ≤ 72 ∧ q_btw x m ns t H S T0 U3 V3 ∧ (∀ j, U1.2.2 x j = S.2.2 x j) ∧ U1.1 (x + 137) 1 = T0.1 (m + 3) 3 := by
            intro M U V M1 M2 hb
            obtain ⟨b1, b2, b3, b4, b5, b6, b7, b8⟩ := id hb
            have hMV : q_M Z V.2.2 m := by rw [b8]; exact hM
            have rU : q_RS U.2.2 x 0 341 := q_RS_tr h0.rs b3
            have hVU : q_V Z U.2.2 (x + 141 + 10 * c) := q_V_cgr hV (fun b j hb => b3 b j (by omega))
            have trU : q_V Z U.2.2 (x + 204) := q_V_of h0.zl rU (by decide +kernel)
            have vU : q_vit (pb + 6) nk n U (x + 141 + 10 * c) (T0.1 (m + 1)) (T0.1 (m + 3)) c := q_vit_cp v1 (fun k _ => b1 _ _ (by omega)) (fun i hi => ⟨fun k _ _ => b1 _ _ (by omega), b3 _ _ (by omega)⟩) (fun _ _ _ => rfl)
            obtain ⟨U1, eU1, p1, p2, p3, p4, p5⟩ := g_copyV (S := U) (v := x + 204) (w := x + 141 + 10 * c) (n := n) trU hVU vU.2.2.2.2.2.1 (by omega) (by omega) (q_kind_ex vU)
            have v11 : q_vit (pb + 6) nk n U1 (x + 204) (T0.1 (m + 1)) (T0.1 (m + 3)) c := q_vit_cp vU p1 p2 (fun _ _ _ => rfl)
            have trU1 : q_V Z U1.2.2 (x + 204) := q_V_cgr trU (fun b j hb => p4 b j (by omega))
            have ms : 1 ≤ (Int32.ofNat M).toInt ∧ (Int32.ofNat M).toInt ≤ 999 := by rw [t_ofNat (by omega)]; omega
            obtain ⟨mo, hmo⟩ : ∃ y, y = q_mp (T0.1 (m + 1)) k (Int32.ofNat M) hum := ⟨_, rfl⟩
            have mb := q_mp_t k3 ms.1 ms.2 hum
            rw [← hmo] at mb
            have low : ∀ b j, b < x + 203 → U1.1 b j = S.1 b j := fun b j hb => by rw [(p3 b j (by omega)).1]; exact b1 b j (by omega)
            have lowR : ∀ b j, b < x + 203 → U1.2.2 b j = S.2.2 b j := fun b j hb => by rw [p4 b j (by omega)]; exact b3 b j (by omega)
            have kK1 : q_Ks Z (pb + 6) nk U1 (T0.1 (m + 1)) := q_Ks_ag h0.ks (fun b j hb => ⟨low b j (by omega), by rw [p5, b2], lowR b j (by omega)⟩)
            obtain ⟨kk1, kk2, kk3⟩ := kK1.2 k hk
            obtain ⟨U2, hU2⟩ : ∃ y, y = q_put U1 (x + 204) n (pb + 6 + 3 * k) (T0.1 (m + 3) 3) (Int32.ofNat M) mo := ⟨_, rfl⟩
            have gput := g_put (s := T0.1 (m + 3) 3) (kd := pb + 6 + 3 * k) (mass := Int32.ofNat M) (mo := mo) trU1 v11.2.2.2.2.2.1 (by omega)
            have aP := q_put_ag U1 (x + 204) n (pb + 6 + 3 * k) (T0.1 (m + 3) 3) (Int32.ofNat M) mo
            have cP := q_put_c (S := U1) (v := x + 204) (n := n) (kd := pb + 6 + 3 * k) (s := T0.1 (m + 3) 3) (mass := Int32.ofNat M) (mo := mo)
            rw [← hU2] at gput aP cP
            have rU2 : ∀ b j, ¬ (x + 206 ≤ b ∧ b < x + 212) → U2.2.2 b j = U1.2.2 b j := fun b j hb => by
              rw [hU2]
              show (m_pR U1 (x + 204 + 2 + n) 1 (some (pb + 6 + 3 * k))).2.2 b j = _
              exact pR_ne (by omega)
            have pV : V.1 (m + 1) = T0.1 (m + 1) := funext fun j => (b7 _ _ (by omega)).1
            have tnV : V.1 (m + 3) (8 + 56 * c) = Int32.ofNat n := by rw [(b5 _ (by omega)).1]; exact v1.2.2.2.2.2.2.1
            have ea := e_addsTo (c := c) (n := n) (s := T0.1 (m + 3) 3) (kd := Int32.ofNat k) (mass := Int32.ofNat M) (mo := mo) hMV (by omega) tnV (by omega)
            obtain ⟨V1, hV1⟩ : ∃ y, y = m_pJ (q_pc m c n (m_pI V (m + 3) (8 + 56 * c) (Int32.ofNat (n + 1))) (T0.1 (m + 3) 3) (Int32.ofNat k) (Int32.ofNat M) mo) (m + 7) (5 * c + 3) (V.2.1 (m + 7) (5 * c + 3) + mo.toInt64) := ⟨_, rfl⟩
            rw [← hV1] at ea
            have pcag := q_pc_ag m c n (m_pI V (m + 3) (8 + 56 * c) (Int32.ofNat (n + 1))) (T0.1 (m + 3) 3) (Int32.ofNat k) (Int32.ofNat M) mo
            have cT := q_pc_c (m := m) (c := c) (k := n) (T := m_pI V (m + 3) (8 + 56 * c) (Int32.ofNat (n + 1))) (s := T0.1 (m + 3) 3) (kd := Int32.ofNat k) (mass := Int32.ofNat M) (mo := mo)
            have cT1 : V1.1 (m + 3) (12 + 56 * c + 4 * n) = T0.1 (m + 3) 3 ∧ V1.1 (m + 3) (12 + 56 * c + 4 * n + 1) = Int32.ofNat k ∧ V1.1 (m + 3) (12 + 56 * c + 4 * n + 2) = Int32.ofNat M ∧ V1.1 (m + 3) (12 + 56 * c + 4 * n + 3) = mo := by rw [hV1]; exact cT
            have aV : q_ag (fun b j => ¬ (b = m + 3 ∧ (j = 8 + 56 * c ∨ (12 + 56 * c + 4 * n ≤ j ∧ j < 16 + 56 * c + 4 * n))) ∧ ¬ (b = m + 7 ∧ j = 5 * c + 3)) V V1 := by
              rw [hV1]
              exact q_ag_J (q_ag_trans (q_ag_I (q_ag_refl _ _) (by omega)) (q_ag_sub pcag (fun b j hb => by omega))) (by omega)
            have t8 : V1.1 (m + 3) (8 + 56 * c) = Int32.ofNat (n + 1) := by
              rw [hV1]
              exact (pcag (m + 3) (8 + 56 * c) (by omega)).1.trans (pI_same _ _ _ _)
            have rV1 : V1.2.2 = V.2.2 := by rw [hV1]; rfl
            have aV0 : ∀ j, j < 340 → ¬ (j = 8 + 56 * c ∨ (12 + 56 * c + 4 * n ≤ j ∧ j < 16 + 56 * c + 4 * n)) → V1.1 (m + 3) j = T0.1 (m + 3) j := fun j hj hj2 => by rw [(aV _ _ (by omega)).1]; exact (b5 j hj).1
            have pV1 : V1.1 (m + 1) = T0.1 (m + 1) := by rw [← pV]; exact funext fun j => (aV _ _ (by omega)).1
            obtain ⟨w1, w2⟩ := q_cs_app (S' := U2) (a' := V1.1 (m + 3)) (kk := k) v11 v2 (by omega) hk h4 (q_ag_sub aP (fun b k hb => by omega)) cP.1 (fun j j1 j2 j3 j4 => aV0 j (by omega) (by omega)) t8
              (by rw [cT1.1]; exact cP.2.1) cT1.2.1 cP.2.2.1 (by rw [cT1.2.2.1]; exact cP.2.2.2.1) (by rw [cT1.2.2.2]; exact cP.2.2.2.2) (by rw [cT1.2.2.1]; exact ms) (by rw [cT1.2.2.1, cT1.2.2.2]; exact ⟨mb.1, mb.2.2.1⟩)
            have low2 : ∀ b j, ¬ (x + 204 ≤ b ∧ b < x + 212) → U2.1 b j = U.1 b j := fun b j hb => by rw [(aP b j (by omega)).1]; exact (p3 b j (by omega)).1
            have j2 : U2.2.1 = U.2.1 := by rw [← p5, hU2]; rfl
            have rr2 : ∀ b j, ¬ (x + 206 ≤ b ∧ b < x + 212) → U2.2.2 b j = U.2.2 b j := fun b j hb => (rU2 b j hb).trans (p4 b j (by omega))
            have trv : q_trv Z pb ns nk nc (n + 1) c x m t 0 (T0.1 (m + 3) 1) (T0.1 (m + 3) 2) U2 V1 := by
              refine ⟨by rw [rV1]; exact hMV, q_V_cgr trU1 (fun b j hb => rU2 b j (by omega)), ?_, ?_, ⟨?_, ?_, ?_⟩, by rw [pV1]; exact w1, by rw [pV1]; exact w2⟩
              · rw [pV1]; exact q_set9_ag h0.s9 (fun b j hb => ⟨by rw [low2 b j (by omega)]; exact b1 b j (by omega), by rw [j2, b2], by rw [rr2 b j (by omega)]; exact b3 b j (by omega)⟩) (fun _ _ => rfl)
              · rw [pV1]; exact q_Ks_ag h0.ks (fun b j hb => ⟨by rw [low2 b j (by omega)]; exact b1 b j (by omega), by rw [j2, b2], by rw [rr2 b j (by omega)]; exact b3 b j (by omega)⟩)
              · rw [aV0 0 (by omega) (by omega)]; exact hst.1.2
              · rw [aV0 1 (by omega) (by omega)]; rfl
              · rw [aV0 2 (by omega) (by omega)]; rfl
            obtain ⟨U3, V2, w, y1, y2, y3, y4, y5, y6, y7⟩ := q_try_hours (en := 1) hpb (by omega) H2 t9 (by omega) h0.ox h0.o204 h0.o212 H 0 100000 100000 (by omega) (by omega) (by omega) U2 V1 0 (by omega) (by omega) trv (fun j hj => by rw [low2 _ _ (by omega), pV1]; exact b4 j hj) (by rw [rr2 _ _ (by omega), b3 _ _ (by omega)]; exact h0.r8) (by rw [rr2 _ _ (by omega), b3 _ _ (by omega)]; exact h0.r7)
            have hMV2 : q_M Z V2.2.2 m := by rw [y1.2.2, rV1]; exact hMV
            obtain ⟨V3, r3, r4⟩ := e_back hMV2
            refine ⟨U1, U2, U3, V1, V2, V3, w, eU1, g_would kk1 kk2 kk3, by rw [← hmo]; exact gput, ?_, ?_, by rw [← hmo]; exact ea, ?_, r3, by omega, ?_, fun j => lowR x j (by omega), ?_⟩
            · unfold f_X8_unsafeHoursOfTrial
              rw [m_jp_s]
              exact y7 _
            · rw [e_would hMV (by omega) (by rw [pV]; exact k3), pV]
            · unfold f_X9_hours
              rw [m_jp_s]
              exact y6 _
            · refine q_btw_back (T1 := V1) hb (q_ag_trans (q_ag_sub aV (fun b k hb => by omega)) (q_ag_sub (q_fH_cut y1) (fun b k hb => by omega))) (by rw [y1.2.2, rV1]) r4 (fun b j hb => ?_) ?_ (fun b j hb => ?_)
              · rw [y2 b j (by omega)]; exact low2 b j hb
              · rw [y3]; exact j2
              · rw [y3]; exact rr2 b j hb
            · rw [low _ _ (by omega)]; exact hst.2.2.2.1
          have key : ∀ (d M fc fm : Nat) (j33 : Int32 → m_S → Option (Int32 × m_S)), d + M = 999 → 1 ≤ M → d + 1 < fc → d + 1 < fm → ∀ U V, q_btw x m ns t H S T0 U V → ∃ U' V' w, q_btw x m ns t H S T0 U' V' ∧ w ≤ 1000 ∧ m_fx (F_X8_massFor_37 Z x hum (Int32.ofNat H) (x + 141 + 10 * c) (pb + 6 + 3 * k) jc jd) fc (Int32.ofNat M, U) = (if w ≤ 999 then jd (Int32.ofNat w) U' else jc U') ∧ m_fx (F_X9_massFor_81 Z m (Int32.ofNat c) (Int32.ofNat k) hum (Int32.ofNat H) j33) fm (Int32.ofNat (M - 1), (0 : Int32), V) = j33 (Int32.ofNat w) V' := by
            have k999 : ∀ i, i < 10000 → ((999 : Int32) < Int32.ofNat i ↔ 999 < i) := fun i hi => io_lt (a := 999) (by omega) (by omega)
            have l999 : ∀ i, i < 10000 → ((999 : Int32) ≤ Int32.ofNat i ↔ 999 ≤ i) := fun i hi => io_le (a := 999) (by omega) (by omega)
            have q999 : ∀ i, i < 10000 → (Int32.ofNat i = (999 : Int32) ↔ i = 999) := fun i hi => ⟨fun e => by have := t_eq.mp e; rw [t_ofNat (by omega), k9] at this; omega, fun e => by rw [e]; rfl⟩
            -- the class's step and the reference's
            have cstep : ∀ M f U V, 1 ≤ M → M ≤ 999 → q_btw x m ns t H S T0 U V → ∃ U3 V3 w, q_btw x m ns t H S T0 U3 V3 ∧ m_fx (F_X8_massFor_37 Z x hum (Int32.ofNat H) (x + 141 + 10 * c) (pb + 6 + 3 * k) jc jd) (f + 1) (Int32.ofNat M, U) = (if w = 0 then jd (Int32.ofNat M) U3 else m_fx (F_X8_massFor_37 Z x hum (Int32.ofNat H) (x + 141 + 10 * c) (pb + 6 + 3 * k) jc jd) f (Int32.ofNat (M + 1), U3)) ∧ ∀ f' j33, m_fx (F_X9_massFor_81 Z m (Int32.ofNat c) (Int32.ofNat k) hum (Int32.ofNat H) j33) (f' + 1) (Int32.ofNat (M - 1), (0 : Int32), V) = m_fx (F_X9_massFor_81 Z m (Int32.ofNat c) (Int32.ofNat k) hum (Int32.ofNat H) j33) f' (if w = 0 then (Int32.ofNat M, 1, V3) else if M = 999 then (Int32.ofNat 1000, 0, V3) else (Int32.ofNat M, 0, V3)) := by
              intro M f U V hM1 hM2 hb
              obtain ⟨U1, U2, U3, V1, V2, V3, w, x1, x2, x3, x4, x5, x6, x7, x8, x9, x10, x11, x12⟩ := one M U V hM1 hM2 hb
              obtain ⟨b1, b2, b3, b4, b5, b6, b7, b8⟩ := id hb
              have hMV : q_M Z V.2.2 m := by rw [b8]; exact hM
              refine ⟨U3, V3, w, x10, ?_, fun f' j33 => ?_⟩
              · have rx : ∀ j, U.2.2 x j = S.2.2 x j := fun j => b3 _ _ (by omega)
                rw [m_fx_s]
                generalize m_fx (F_X8_massFor_37 Z x hum (Int32.ofNat H) (x + 141 + 10 * c) (pb + 6 + 3 * k) jc jd) f = lp
                unfold F_X8_massFor_37
                simp only []
                rw [if_neg (fun q => absurd ((k999 M (by omega)).mp q) (by omega)), rx, h0.r7, m_b1_s, m_gd_t h0.o204, x1, m_bw_s, x11, h0.r7, m_b1_s, x11, h0.r3, m_b1_s, m_gd_t h0.o137, m_gd_t k1.1, x2, m_b1_s, m_gd_t h0.o204, x12, x3, m_bw_s, x4, m_bw_s]
                by_cases q : w = 0
                · subst q
                  rw [if_pos rfl, if_neg (show ¬ ¬ Int32.ofNat (if 0 < 1 then 0 else 1) = 0 from fun z => z rfl)]
                · rw [if_neg q, if_neg (show ¬ w < 1 by omega), if_pos (show ¬ Int32.ofNat 1 = 0 by decide), m_lt_s, io_one]
              · rw [m_fx_s]
                generalize m_fx (F_X9_massFor_81 Z m (Int32.ofNat c) (Int32.ofNat k) hum (Int32.ofNat H) j33) f' = lp
                have e1 : Int32.ofNat (M - 1) + (1 : Int32) = Int32.ofNat M := by rw [io_one]; exact congrArg Int32.ofNat (by omega)
                have e3 : V.1 (m + 3) (3 : Int32).toNatClampNeg = T0.1 (m + 3) 3 := (b5 3 (by omega)).1
                unfold F_X9_massFor_81
                show (if (999 : Int32) ≤ Int32.ofNat (M - 1) then _ else if ¬ (0 : Int32) = 0 then _ else _) = _
                rw [if_neg (fun q => absurd ((l999 (M - 1) (by omega)).mp q) (by omega)), if_neg nz0, e1, m_lt_s, hMV.a.1, m_b1_s, m_gd_t hMV.a.2.1, m_gd_t (q_inl (wi := 3) (i := 3) rfl hMV.a.2 (by omega) (by omega)), x5, m_b1_s, e3, x6, m_bw_s, x7, m_bw_s]
                have body : ∀ v57 : Int32, (fun (v57 : Int32) => m_bw (f_X9_bringsBack Z V2 m) (fun _u S59 => (if ¬ Int32.ofNat M = (999 : Int32) then m_lt (Int32.ofNat M + (0 : Int32)) (fun v61 => lp (v61, v57, S59)) else (if ¬ v57 = 0 then m_lt (Int32.ofNat M + (0 : Int32)) (fun v64 => lp (v64, v57, S59)) else m_lt (Int32.ofNat M + (1 : Int32)) (fun v66 => lp (v66, v57, S59)))))) v57 = if ¬ M = 999 then lp (Int32.ofNat M, v57, V3) else if ¬ v57 = 0 then lp (Int32.ofNat M, v57, V3) else lp (Int32.ofNat (M + 1), v57, V3) := by
                  intro v57
                  show m_bw (f_X9_bringsBack Z V2 m) _ = _
                  rw [x8, m_bw_s, Int32.add_zero, io_one]; simp only [m_lt_s]
                  by_cases q : M = 999
                  · rw [if_neg (show ¬ ¬ Int32.ofNat M = 999 from fun z => z ((q999 M (by omega)).mpr q)), if_neg (show ¬ ¬ M = 999 from fun z => z q)]
                  · rw [if_pos (show ¬ Int32.ofNat M = 999 from fun z => q ((q999 M (by omega)).mp z)), if_pos q]
                rw [m_jp_s]
                by_cases q : w = 0
                · subst q
                  rw [if_neg (show ¬ ¬ Int32.ofNat 0 = 0 from fun z => z rfl), body, if_pos rfl]
                  by_cases q2 : M = 999
                  · rw [if_neg (show ¬ ¬ M = 999 from fun z => z q2), if_pos z10]
                  · rw [if_pos q2]
                · rw [if_pos (show ¬ Int32.ofNat w = 0 from fun z => q (by have := t_eq.mp z; rw [t_ofNat (by omega), i32_0] at this; omega)), body, if_neg q]
                  by_cases q2 : M = 999
                  · subst q2
                    rw [if_neg (show ¬ ¬ 999 = 999 from fun z => z rfl), if_neg nz0, if_pos rfl]
                  · rw [if_pos q2, if_neg q2]
            have rlast : ∀ (w f' : Nat) (e : Int32) (j33 : Int32 → m_S → Option (Int32 × m_S)) V, w ≤ 1000 → (999 ≤ w ∨ ¬ e = 0) → m_fx (F_X9_massFor_81 Z m (Int32.ofNat c) (Int32.ofNat k) hum (Int32.ofNat H) j33) (f' + 1) (Int32.ofNat w, e, V) = j33 (Int32.ofNat w) V := by
              intro w f' e j33 V hw he
              rw [m_fx_s]
              unfold F_X9_massFor_81
              simp only []
              by_cases q : 999 ≤ w
              · rw [if_pos ((l999 w (by omega)).mpr q)]
              · rw [if_neg (fun z => q ((l999 w (by omega)).mp z)), if_pos (he.resolve_left q)]
            intro d
            induction d with
            | zero =>
              intro M fc fm j33 h1 hM1 h2 h3 U V hb
              obtain ⟨f, rfl⟩ : ∃ f, fc = f + 1 + 1 := ⟨fc - 2, by omega⟩
              obtain ⟨f', rfl⟩ : ∃ f', fm = f' + 1 + 1 := ⟨fm - 2, by omega⟩
              obtain ⟨U3, V3, w, y1, y2, y3⟩ := cstep M (f + 1) U V hM1 (by omega) hb
              have hM9 : M = 999 := by omega
              by_cases q : w = 0
              · refine ⟨U3, V3, M, y1, by omega, ?_, ?_⟩
                · rw [y2, if_pos q, if_pos (by omega)]
                · rw [y3, if_pos q]
                  exact rlast M f' 1 j33 V3 (by omega) (Or.inr z10)
              · refine ⟨U3, V3, 1000, y1, by omega, ?_, ?_⟩
                · rw [y2, if_neg q, if_neg (by omega), m_fx_s]
                  unfold F_X8_massFor_37
                  simp only []
                  rw [if_pos ((k999 (M + 1) (by omega)).mpr (by omega))]
                · rw [y3, if_neg q, if_pos hM9]
                  exact rlast 1000 f' 0 j33 V3 (by omega) (Or.inl (by omega))
            | succ d ih =>
              intro M fc fm j33 h1 hM1 h2 h3 U V hb
              obtain ⟨f, rfl⟩ : ∃ f, fc = f + 1 := ⟨fc - 1, by omega⟩
              obtain ⟨f', rfl⟩ : ∃ f', fm = f' + 1 + 1 := ⟨fm - 2, by omega⟩
              obtain ⟨U3, V3, w, y1, y2, y3⟩ := cstep M f U V hM1 (by omega) hb
              by_cases q : w = 0
              · refine ⟨U3, V3, M, y1, by omega, ?_, ?_⟩
                · rw [y2, if_pos q, if_pos (by omega)]
                · rw [y3, if_pos q]
                  exact rlast M f' 1 j33 V3 (by omega) (Or.inr z10)
              · obtain ⟨U', V', w', t1, t2, t3, t4⟩ := ih (M + 1) f (f' + 1) j33 (by omega) (by omega) (by omega) (by omega) U3 V3 y1
                refine ⟨U', V', w', t1, t2, ?_, ?_⟩
                · rw [y2, if_neg q]; exact t3
                · rw [y3, if_neg q, if_neg (by omega)]; exact t4
          obtain ⟨jm, hjm⟩ : ∃ j : Int32 → m_S → Option (Int32 × m_S), j = fun (v22 : Int32) (S23 : m_S) => (if (999 : Int32) < v22 then m_bw (f_X9_may Z S23 m (0 : Int32) (3 : Int32)) (fun v27 S26 => (if v27 = 0 then some ((0 : Int32), S26) else some (v22, S26))) else m_bw (f_X9_may Z S23 m (1 : Int32) (3 : Int32)) (fun v31 S30 => (if v31 = 0 then some ((0 : Int32), S30) else some (v22, S30)))) := ⟨_, rfl⟩
          obtain ⟨U', V', w, y1, y2, y3, y4⟩ := key 998 1 100000 100000 jm (by omega) (by omega) (by omega) (by omega) S1 T1 hb0
          obtain ⟨b1, b2, b3, b4, b5, b6, b7, b8⟩ := y1
          have hMV : q_M Z V'.2.2 m := by rw [b8]; exact hM
          have zV : V'.1 m 0 = 0 := by rw [(b7 _ _ (by omega)).1]; exact z0
          have aSU : q_ag (fun b j => ¬ (x + 203 ≤ b ∧ b < x + 213)) S U' := fun b j hb => ⟨b1 b j hb, by rw [b2], b3 b j (by omega)⟩
          have rU : q_RS U'.2.2 x 0 341 := q_RS_tr h0.rs b3
          have relV : ∀ e : Int32, q_Rel Z x m (N + 1) pb ns nk nc U' (m_pI V' m 0 e) := fun e => q_Rel_t (q_Rel_pr h0 (Nat.le_succ _) (q_ag_sub aSU (fun b k hb => by omega)) rU (q_ag_sub b7 (fun b k hb => by omega)) (by rw [b8]; exact h0.rt) (fun j hj => (b5 j hj).1) (fun j hj => (b6 j hj).1)) (by omega) (by omega) (by omega)
          have relV0 : q_Rel Z x m (N + 1) pb ns nk nc U' V' := q_Rel_pr h0 (Nat.le_succ _) (q_ag_sub aSU (fun b k hb => by omega)) rU (q_ag_sub b7 (fun b k hb => by omega)) (by rw [b8]; exact h0.rt) (fun j hj => (b5 j hj).1) (fun j hj => (b6 j hj).1)
          have gC : f_X8_massFor Z S x (Int32.ofNat c) (Int32.ofNat k) hum (Int32.ofNat H) = (if w ≤ 999 then jd (Int32.ofNat w) U' else jc U') := by
            unfold f_X8_massFor
            rw [m_gd_t h.ox, g_vitAt h hc, m_btw_s, g_kindAt h hk, m_btw_s, g_reqHum, if_pos c2, m_btw_s, g_reqHours, if_pos c3, m_btw_s, g1, m_bw_s, m_jp_s, m_jp_s, ← hjc, ← hjd]
            exact y3
          have gT : f_X9_massFor Z T m (Int32.ofNat c) (Int32.ofNat k) hum (Int32.ofNat H) = jm (Int32.ofNat w) V' := by
            unfold f_X9_massFor
            rw [m_gd_t hM.o, m_lt_s, e0, e_isCase hM h0.n5 h0.cs, m_b1_s, if_pos (q_yes hc (by omega))]
            simp only [m_jp_s]
            rw [if_neg z10, e_isKind hM h0.n4 (by omega), m_b1_s, if_pos (q_yes hk (by omega)), if_neg z10, e_may1 hM.o z10 z0, m_bw_s, if_neg z10, e_isIn, m_b1_s, if_pos c2, if_neg z10, e_isIn, m_b1_s, if_pos c3, if_neg z10, e_may1 hM.o z10 z0, m_bw_s, if_pos z10, r1, m_bw_s, ← hjm]
            exact y4
          have k999 : ∀ i, i < 10000 → ((999 : Int32) < Int32.ofNat i ↔ 999 < i) := fun i hi => io_lt (a := 999) (by omega) (by omega)
          by_cases qw : w ≤ 999
          · rw [if_pos qw, hjd] at gC
            rw [hjm] at gT
            refine ⟨U', V', q_ag_sub aSU (fun b k hb => by omega), q_ag_trans f0 (q_ag_sub b7 (fun b k hb => by omega)), ⟨pb, ns, nk, nc, relV0⟩, Or.inl ⟨Int32.ofNat w, Int32.ofNat w, gC, ?_, zV, rfl⟩⟩
            rw [gT]
            show (if (999 : Int32) < Int32.ofNat w then _ else _) = _
            rw [if_neg (fun z => absurd ((k999 w (by omega)).mp z) (by omega)), e_may1 hMV.o z10 zV, m_bw_s, if_neg z10]
          · rw [if_neg qw, hjc] at gC
            rw [hjm] at gT
            refine ⟨U', m_pI V' m 0 3, q_ag_sub aSU (fun b k hb => by omega), q_ag_trans f0 (q_ag_I (q_ag_sub b7 (fun b k hb => by omega)) (by omega)), ⟨pb, ns, nk, nc, relV 3⟩, Or.inr ⟨_, 0, gC, ?_, by rw [pI_same]; simp⟩⟩
            rw [gT]
            show (if (999 : Int32) < Int32.ofNat w then _ else _) = _
            rw [if_pos ((k999 w (by omega)).mpr (by omega)), e_may0 hMV.o zV z30, m_bw_s, if_pos z00]
        · refine noArg ?_ ?_
          · unfold f_X8_massFor
            rw [m_gd_t h.ox, g_vitAt h hc, m_btw_s, g_kindAt h hk, m_btw_s, g_reqHum, if_pos c2, m_btw_s, g_reqHours, if_neg c3, m_btw_e]
          · unfold f_X9_massFor
            rw [m_gd_t hM.o, m_lt_s, e0, e_isCase hM h0.n5 h0.cs, m_b1_s, if_pos (q_yes hc (by omega))]
            simp only [m_jp_s]
            rw [if_neg z10, e_isKind hM h0.n4 (by omega), m_b1_s, if_pos (q_yes hk (by omega)), if_neg z10, e_may1 hM.o z10 z0, m_bw_s, if_neg z10, e_isIn, m_b1_s, if_pos c2, if_neg z10, e_isIn, m_b1_s, if_neg c3, if_pos z00, e_may0 hM.o z0 z20, m_bw_s, if_neg nz0]
      · refine noArg ?_ ?_
        · unfold f_X8_massFor
          rw [m_gd_t h.ox, g_vitAt h hc, m_btw_s, g_kindAt h hk, m_btw_s, g_reqHum, if_neg c2, m_btw_e]
        · unfold f_X9_massFor
          rw [m_gd_t hM.o, m_lt_s, e0, e_isCase hM h0.n5 h0.cs, m_b1_s, if_pos (q_yes hc (by omega))]
          simp only [m_jp_s]
          rw [if_neg z10, e_isKind hM h0.n4 (by omega), m_b1_s, if_pos (q_yes hk (by omega)), if_neg z10, e_may1 hM.o z10 z0, m_bw_s, if_neg z10, e_isIn, m_b1_s, if_neg c2, if_pos z00, e_may0 hM.o z0 z20, m_bw_s, if_neg nz0]
    · refine noIdx ?_ ?_
      · unfold f_X8_massFor
        rw [m_gd_t h.ox, g_vitAt h hc, m_btw_s, g_kindNo h hq, m_btw_e]
      · unfold f_X9_massFor
        rw [m_gd_t hM.o, m_lt_s, e0, e_isCase hM h0.n5 h0.cs, m_b1_s, if_pos (q_yes hc (by omega))]
        simp only [m_jp_s]
        rw [if_neg z10, e_isKind hM h0.n4 (by omega), m_b1_s, if_neg (q_no hq), if_pos z00, e_may0 hM.o z0 z10, m_bw_s, if_pos z00]
  · refine noIdx ?_ ?_
    · unfold f_X8_massFor
      rw [m_gd_t h.ox, g_vitNo h hp, m_btw_e]
    · unfold f_X9_massFor
      rw [m_gd_t hM.o, m_lt_s, e0, e_isCase hM h0.n5 h0.cs, m_b1_s, if_neg (q_no hp)]
      simp only [m_jp_s]
      rw [if_pos trivial, e_may0 hM.o z0 z10, m_bw_s, if_pos z00]
end MASS
