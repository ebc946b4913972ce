section REM
variable {Z : m_Z} {x m N pb ns nk nc : Nat} {S T : m_S}
theorem q_kind_ex {kb nk n v c : Nat} {S : m_S} {p a : Nat → Int32} (h : q_vit kb nk n S v p a c) : ∀ j, j < n → ∃ d, S.2.2 (v + 2 + j) 1 = some d := fun j hj => ⟨_, (h.2.2.2.2.2.2.2 j hj).2.1.2.2⟩
theorem q_pb_out (h : q_Rel Z x m N pb ns nk nc S T) : pb < x + 137 := by have := h.pbr; omega
theorem J_remove (h : q_Rel Z x m N pb ns nk nc S T) (s : Int32) : q_JW Z x m (N + 1) [("java/util/NoSuchElementException", 1)] (fun a b => a = b) S T (f_X8_remove Z S x s) (f_X9_remove Z T m s) := by
  obtain ⟨T0, e0, z0, f0, h0⟩ := q_zero h
  have hM := h0.M
  have hm := h0.em
  have h6 := h0.nc6
  have hpb := q_pb_out h0
  obtain ⟨cnt, t, t9, c5, hg, hser, hst⟩ := h0.sta
  rcases q_find h0 z0 c5 hser hst s with ⟨c, k, T1, hc, hk, hs, g1, g2, r1, r23, r24, z1, f1, h1, fa, fb⟩ | ⟨T1, g1, r1, z1, f1, h1⟩
  · have hcs := hst.2.2.2.2.2 c hc
    have hV := (h0.st.2.2.2.2 c (by omega)).2.2.1
    have hL := (h0.st.2.2.2.2 c (by omega)).2.2.2
    rw [show x + 137 + 4 + 10 * c = x + 141 + 10 * c by omega] at hcs hV hL
    have hn5 := c5 c hc
    obtain ⟨n, hn⟩ : ∃ n, n = cnt c := ⟨_, rfl⟩
    have v1 := hcs.1
    have v2 := hcs.2.1
    rw [← hn] at v1 v2 hk hn5
    have tn : T1.1 (m + 3) (8 + 56 * c) = Int32.ofNat n := by rw [fa _ _ (by omega)]; exact v1.2.2.2.2.2.2.1
    have hM1 := h1.M
    obtain ⟨mo, hmo⟩ : ∃ y, y = T0.1 (m + 3) (12 + 56 * c + 4 * k + 3) := ⟨_, rfl⟩
    have smo : S.1 (x + 141 + 10 * c + 2 + k) 3 = mo := by rw [hmo]; exact (v1.2.2.2.2.2.2.2 k hk).2.2.2
    obtain ⟨S1, o1, o2, ⟨o3, o3r⟩, o4⟩ := g_takeOut (k0 := k) hV v1.2.2.2.2.2.1 (by omega) hk (q_kind_ex v1)
    obtain ⟨T2, u1, u2, u3, u4, u6, u5⟩ := e_goes (k0 := k) hM1 (by omega) tn (by omega) hk
    rw [fa _ _ (by omega), ← hmo] at u1 u4
    have j4 : T1.2.1 (m + 7) (5 * c + 4) = T0.2.1 (m + 7) (5 * c + 4) := by rw [fb]
    rw [j4] at u4
    have aT : q_ag (fun b j => b ≠ m ∧ ¬ (b = m + 3 ∧ j = 8 + 56 * c) ∧ ¬ (b = m + 3 ∧ 12 + 56 * c + 4 * k ≤ j ∧ j < 12 + 56 * c + 4 * (n - 1)) ∧ ¬ (b = m + 7 ∧ j = 5 * c + 4)) T0 T2 := fun b j hb => by
      have e := u3 b j ⟨hb.2.1, hb.2.2.1, hb.2.2.2⟩
      exact ⟨e.1.trans (fa b j hb.1), e.2.1.trans (by rw [fb]), e.2.2.trans (by rw [fb])⟩
    have u5' : ∀ i w, i < n - 1 → w < 4 → T2.1 (m + 3) (12 + 56 * c + 4 * i + w) = T0.1 (m + 3) (12 + 56 * c + 4 * (if i < k then i else i + 1) + w) := fun i w hi hw => (u5 i w hi hw).trans (fa _ _ (by omega))
    have z2 : T2.1 m 0 = 0 := (u3 m 0 ⟨by omega, by omega, by omega⟩).1.trans z1
    obtain ⟨S2, hS2⟩ : ∃ y, y = m_pJ S1 (x + 141 + 10 * c + 8) 3 (S.2.1 (x + 141 + 10 * c + 8) 3 + mo.toInt64) := ⟨_, rfl⟩
    have a12 : q_ag (fun b k => ¬ (b = x + 141 + 10 * c + 8 ∧ k = 3)) S1 S2 := by rw [hS2]; exact q_ag_J (q_ag_refl _ S1) (by omega)
    have i12 : S2.1 = S1.1 := by rw [hS2]; rfl
    have r12 : S2.2.2 = S1.2.2 := by rw [hS2]; rfl
    have a02 : q_ag (fun b k => ¬ (x + 141 + 10 * c + 2 ≤ b ∧ b < x + 141 + 10 * c + 2 + n) ∧ ¬ (b = x + 141 + 10 * c ∧ k = 5) ∧ ¬ (b = x + 141 + 10 * c + 8 ∧ k = 3)) S S2 := q_ag_trans (q_ag_sub o3 (fun b k hb => by omega)) (q_ag_sub a12 (fun b k hb => by omega))
    obtain ⟨cnt', hcnt'⟩ : ∃ y : Nat → Nat, y = fun i => if i = c then n - 1 else cnt i := ⟨_, rfl⟩
    have cc : cnt' c = n - 1 := by rw [hcnt']; exact if_pos rfl
    have co : ∀ i, i ≠ c → cnt' i = cnt i := fun i hi => by rw [hcnt']; exact if_neg hi
    have rS2 : q_RS S2.2.2 x 0 341 := q_RS_R h0.rs (fun j k' hj hne => by
      rw [r12]
      refine o3r (x + j) k' (fun e => hne ?_)
      rw [show j = 143 + 10 * c + (j - 143 - 10 * c) by omega]; exact q_kcas (by omega) (by omega))
    refine q_JW_ok (T0 := T0) (S' := S2) (T' := T2) (pb := pb) (ns := ns) (nk := nk) (nc := nc) (a := mo) (b := mo) (q_ag_sub a02 (fun b k hb => by omega)) f0 (q_ag_trans f1 (q_ag_sub u3 (fun b k hb => by omega))) ?_ z2 ?_ ?_ rfl
    · refine q_Rel_main h1 (Nat.le_succ _) (q_ag_sub a02 (fun b k hb => by omega)) rS2 (q_ag_sub u3 (fun b k hb => by omega)) (fun q hq h1' h2 h3 => ?_) ?_
      · rw [u6]; exact h1.rt q hq h1' h2 h3
      · rw [show T1.1 (m + 1) = T0.1 (m + 1) from funext fun j => fa _ _ (by omega)]
        refine ⟨cnt', t, t9, fun i hi => ?_, ?_, ?_, ⟨?_, ?_⟩, ?_, ?_, ?_, ?_, fun i hi => ?_⟩
        · by_cases e : i = c
          · subst e; rw [cc]; omega
          · rw [co i e]; exact c5 i hi
        · rw [(aT _ _ (by omega)).1]; exact hg
        · refine q_ser_map hser (Nat.le_succ _) (aT _ _ (by omega)).1 (fun i _ => i) (fun i j => if i = c then (if j < k then j else j + 1) else j) (fun i j hi hj => ?_) (fun i j i' j' hi hj hi' hj' e1 e2 => ?_)
          · by_cases e : i = c
            · subst e
              rw [cc] at hj
              rw [if_pos rfl]
              refine ⟨hi, ?_, ?_⟩
              · rw [← hn]; split <;> omega
              · have := u5' j 0 hj (by omega)
                exact this
            · rw [co i e] at hj
              rw [if_neg e]
              have := c5 i hi
              exact ⟨hi, hj, (aT _ _ (by omega)).1⟩
          · refine ⟨e1, ?_⟩
            subst e1
            by_cases e : i = c
            · rw [if_pos e, if_pos e] at e2
              split at e2 <;> split at e2 <;> omega
            · rw [if_neg e, if_neg e] at e2; exact e2
        · rw [(a02 _ _ (by omega)).1]; exact hst.1.1
        · rw [(aT _ _ (by omega)).1]; exact hst.1.2
        · rw [(a02 _ _ (by omega)).1, (aT _ _ (by omega)).1]; exact hst.2.1
        · rw [(a02 _ _ (by omega)).1, (aT _ _ (by omega)).1]; exact hst.2.2.1
        · rw [(a02 _ _ (by omega)).1, (aT _ _ (by omega)).1]; exact hst.2.2.2.1
        · rw [(a02 _ _ (by omega)).1]; exact hst.2.2.2.2.1
        · by_cases e : i = c
          · subst e
            rw [cc, show x + 137 + 4 + 10 * i = x + 141 + 10 * i by omega]
            obtain ⟨w1, w2⟩ := q_cs_del (S' := S2) (a' := T2.1 (m + 3)) v1 v2 hk (q_ag_sub a02 (fun b k hb => by omega)) (by rw [i12]; exact o2) (fun j hj => ⟨fun w hw hw1 => by rw [i12]; exact (o4 j hj).1 w hw hw1, by rw [r12]; exact (o4 j hj).2⟩) (fun j j1 j2 => (aT _ _ (by omega)).1) u2 (fun j w hj hw => u5' j w hj hw)
            obtain ⟨l0, l1, l2, l3, l7⟩ := hcs.2.2.1
            refine ⟨w1, w2, q_log_J hcs.2.2 (fun j _ _ => (a02 _ _ (by omega)).1) (fun j _ => (a02 _ _ (by omega)).1) (fun j j1 j2 j3 => (aT _ _ (by omega)).1) ?_ ?_ ?_ ?_ ?_⟩
            · rw [(a02 _ _ (by omega)).2.1, (aT _ _ (by omega)).2.1]; exact l0
            · rw [(a02 _ _ (by omega)).2.1, (aT _ _ (by omega)).2.1]; exact l1
            · rw [(a02 _ _ (by omega)).2.1, (aT _ _ (by omega)).2.1]; exact l2
            · rw [u4, hS2, ← l3]; exact pJ_same _ _ _ _
            · rw [(a02 _ _ (by omega)).2.1, (aT _ _ (by omega)).2.1]; exact l7
          · rw [co i e]
            exact q_cs_ag (hst.2.2.2.2.2 i hi) (q_ag_sub a02 (fun b k hb => by omega)) (fun j j1 j2 => (aT _ _ (by omega)).1) (fun j j1 j2 => (aT _ _ (by omega)).2.1)
    · unfold f_X8_remove
      rw [m_gd_t h.ox, g1, m_btw_s, g_vitAt h hc, m_btw_s, m_gd_t hV.1, g2, m_b1_s, g_moOf hV (by omega), smo, m_b1_s, o1, m_bw_s]
      have rS1 : q_RS S1.2.2 x 0 341 := by rw [← r12]; exact rS2
      rw [g_logAt2 h rS1 (by rw [(o3 _ _ (by omega)).2.2]; exact h.r1) (by rw [(o3 _ _ (by omega)).1]; exact h.c8) hc, m_btw_s, m_gd_t hL.1, (o3 _ _ (by omega)).2.1, m_lt_s, ← hS2]
    · unfold f_X9_remove
      rw [m_gd_t hM.o, m_lt_s, e0, r1, m_bw_s, e_may1 hM.o z10 z1, m_bw_s, if_neg z10, r23, r24, u1, m_bw_s]
  · refine q_JW_er h1 (q_ag_trans f0 f1) (s := "java/util/NoSuchElementException") (b := 0) (k := 1) ?_ ?_ (by simp)
    · unfold f_X8_remove
      rw [m_gd_t h.ox, g1, m_btw_e]
    · unfold f_X9_remove
      rw [m_gd_t hM.o, m_lt_s, e0, r1, m_bw_s, e_may0 hM.o z1 z10, m_bw_s, if_pos z00]
theorem J_exchange (h : q_Rel Z x m N pb ns nk nc S T) (hN : N < 2147483647) (s hum : Int32) : q_JW Z x m (N + 1) [("java/util/NoSuchElementException", 1), ("java/lang/IllegalArgumentException", 2)] (fun a b => a = b) S T (f_X8_exchange Z S x s hum) (f_X9_exchange Z T m s hum) := by
  obtain ⟨T0, e0, z0, f0, h0⟩ := q_zero h
  have hM := h0.M
  have hm := h0.em
  have h6 := h0.nc6
  have h4 := h0.nk4
  have hpb := q_pb_out h0
  obtain ⟨cnt, t, t9, c5, hg, hser, hst⟩ := h0.sta
  rcases q_find h0 z0 c5 hser hst s with ⟨c, k, T1, hc, hk, hs, g1, g2, r1, r23, r24, z1, f1, h1, fa, fb⟩ | ⟨T1, g1, r1, z1, f1, h1⟩
  · have hcs := hst.2.2.2.2.2 c hc
    have hV := (h0.st.2.2.2.2 c (by omega)).2.2.1
    have hL := (h0.st.2.2.2.2 c (by omega)).2.2.2
    rw [show x + 137 + 4 + 10 * c = x + 141 + 10 * c by omega] at hcs hV hL
    have hn5 := c5 c hc
    have v1 := hcs.1
    have v2 := hcs.2.1
    have hM1 := h1.M
    by_cases c2 : 0 ≤ hum ∧ hum ≤ 1000
    · have hca := v1.2.2.2.2.2.2.2 k hk
      obtain ⟨k1, k2, k3⟩ := h0.ks.2 _ hca.2.1.1
      obtain ⟨kd, hkd⟩ : ∃ y, y = q_kn (T0.1 (m + 3)) (12 + 56 * c + 4 * k) := ⟨_, rfl⟩
      rw [← hkd] at k1 k2 k3
      have ckd := hca.2.1
      rw [← hkd] at ckd
      obtain ⟨mass, hmass⟩ : ∃ y, y = T0.1 (m + 3) (12 + 56 * c + 4 * k + 2) := ⟨_, rfl⟩
      obtain ⟨mo, hmo⟩ : ∃ y, y = T0.1 (m + 3) (12 + 56 * c + 4 * k + 3) := ⟨_, rfl⟩
      have w3 := v2.2.2.2.2 k hk
      rw [show 14 + 56 * c + 4 * k = 12 + 56 * c + 4 * k + 2 by omega, show 15 + 56 * c + 4 * k = 12 + 56 * c + 4 * k + 3 by omega, ← hmass, ← hmo, ← hkd] at w3
      obtain ⟨mn, hmn⟩ : ∃ y, y = q_mp (T0.1 (m + 1)) kd mass hum := ⟨_, rfl⟩
      have mb := q_mp_t k3 w3.1.1 w3.1.2 hum
      rw [← hmn] at mb
      obtain ⟨sr, hsr⟩ : ∃ y, y = T0.1 (m + 3) 3 := ⟨_, rfl⟩
      have s1 : S.1 (x + 137) 1 = sr := by rw [hsr]; exact hst.2.2.2.1
      have smo : S.1 (x + 141 + 10 * c + 2 + k) 3 = mo := by rw [hmo]; exact hca.2.2.2
      have sma : S.1 (x + 141 + 10 * c + 2 + k) 2 = mass := by rw [hmass]; exact hca.2.2.1
      obtain ⟨ca, hcaa⟩ : ∃ y, y = x + 141 + 10 * c + 2 + k := ⟨_, rfl⟩
      obtain ⟨l, hl⟩ : ∃ y, y = x + 141 + 10 * c + 8 := ⟨_, rfl⟩
      rw [← hcaa] at smo sma
      rw [← hl] at hL
      obtain ⟨S1, hS1⟩ : ∃ y, y = m_pJ S l 3 (S.2.1 l 3 + mo.toInt64) := ⟨_, rfl⟩
      obtain ⟨S2, hS2⟩ : ∃ y, y = m_pI (m_pI S1 ca 0 sr) ca 3 mn := ⟨_, rfl⟩
      obtain ⟨S3, hS3⟩ : ∃ y, y = m_pI (m_pJ S2 l 2 (S.2.1 l 2 + mn.toInt64)) (x + 137) 1 (sr + 1) := ⟨_, rfl⟩
      have a01 : q_ag (fun b j => ¬ (b = l ∧ j = 3)) S S1 := by rw [hS1]; exact q_ag_J (q_ag_refl _ S) (by omega)
      have a12 : q_ag (fun b j => ¬ (b = ca ∧ (j = 0 ∨ j = 3))) S1 S2 := by rw [hS2]; exact q_ag_I (q_ag_I (q_ag_refl _ _) (by omega)) (by omega)
      have a23 : q_ag (fun b j => ¬ (b = l ∧ j = 2) ∧ ¬ (b = x + 137 ∧ j = 1)) S2 S3 := by rw [hS3]; exact q_ag_I (q_ag_J (q_ag_refl _ _) (by omega)) (by omega)
      have a03 : q_ag (fun b j => ¬ (b = l ∧ (j = 2 ∨ j = 3)) ∧ ¬ (b = ca ∧ (j = 0 ∨ j = 3)) ∧ ¬ (b = x + 137 ∧ j = 1)) S S3 := q_ag_trans (q_ag_sub a01 (fun b j hb => by omega)) (q_ag_trans (q_ag_sub a12 (fun b j hb => by omega)) (q_ag_sub a23 (fun b j hb => by omega)))
      have r03 : S3.2.2 = S.2.2 := by rw [hS3, hS2, hS1]; rfl
      obtain ⟨T2, hT2⟩ : ∃ y, y = m_pI T1 (m + 3) 3 (sr + 1) := ⟨_, rfl⟩
      have hM2 : q_M Z T2.2.2 m := by rw [hT2]; exact hM1
      have i2 : ∀ b j, b ≠ m → ¬ (b = m + 3 ∧ j = 3) → T2.1 b j = T0.1 b j := fun b j hb hj => by rw [hT2, pI_ne hj]; exact fa b j hb
      have p2 : T2.1 (m + 1) = T0.1 (m + 1) := funext fun j => i2 _ _ (by omega) (by omega)
      have j2 : T2.2 = T0.2 := by rw [hT2]; exact fb
      have ex := e_exchs (c := c) (k := k) (kd := kd) (s := sr) (hum := hum) hM2 (by omega) (by omega) (by rw [i2 _ _ (by omega) (by omega)]; exact ckd.2.1) (by have := ckd.1; omega) (by rw [p2]; exact k3)
      rw [i2 _ _ (by omega) (by omega), i2 _ _ (by omega) (by omega), p2, ← hmass, ← hmo, ← hmn, j2] at ex
      obtain ⟨T3, hT3⟩ : ∃ y, y = m_pJ (q_pc m c k (m_pJ T2 (m + 7) (5 * c + 4) (T0.2.1 (m + 7) (5 * c + 4) + mo.toInt64)) sr (Int32.ofNat kd) mass mn) (m + 7) (5 * c + 3) (T0.2.1 (m + 7) (5 * c + 3) + mn.toInt64) := ⟨_, rfl⟩
      rw [← hT3] at ex
      have pcag := q_pc_ag m c k (m_pJ T2 (m + 7) (5 * c + 4) (T0.2.1 (m + 7) (5 * c + 4) + mo.toInt64)) sr (Int32.ofNat kd) mass mn
      have cT := q_pc_c (m := m) (c := c) (k := k) (T := m_pJ T2 (m + 7) (5 * c + 4) (T0.2.1 (m + 7) (5 * c + 4) + mo.toInt64)) (s := sr) (kd := Int32.ofNat kd) (mass := mass) (mo := mn)
      have cT3 : T3.1 (m + 3) (12 + 56 * c + 4 * k) = sr ∧ T3.1 (m + 3) (12 + 56 * c + 4 * k + 1) = Int32.ofNat kd ∧ T3.1 (m + 3) (12 + 56 * c + 4 * k + 2) = mass ∧ T3.1 (m + 3) (12 + 56 * c + 4 * k + 3) = mn := by rw [hT3]; exact cT
      have a13 : q_ag (fun b j => ¬ (b = m + 3 ∧ j = 3) ∧ ¬ (b = m + 3 ∧ 12 + 56 * c + 4 * k ≤ j ∧ j < 16 + 56 * c + 4 * k) ∧ ¬ (b = m + 7 ∧ (j = 5 * c + 3 ∨ j = 5 * c + 4))) T1 T3 := by
        rw [hT3]
        refine q_ag_J (q_ag_trans ?_ (q_ag_sub pcag (fun b j hb => by omega))) (by omega)
        refine q_ag_J ?_ (by omega)
        rw [hT2]; exact q_ag_I (q_ag_refl _ _) (by omega)
      have aT : q_ag (fun b j => b ≠ m ∧ ¬ (b = m + 3 ∧ j = 3) ∧ ¬ (b = m + 3 ∧ 12 + 56 * c + 4 * k ≤ j ∧ j < 16 + 56 * c + 4 * k) ∧ ¬ (b = m + 7 ∧ (j = 5 * c + 3 ∨ j = 5 * c + 4))) T0 T3 := fun b j hb => by
        have e := a13 b j hb.2
        exact ⟨e.1.trans (fa b j hb.1), e.2.1.trans (by rw [fb]), e.2.2.trans (by rw [fb])⟩
      have aT1 : ∀ j, j < 340 → j ≠ 3 → j ≠ 12 + 56 * c + 4 * k → j ≠ 15 + 56 * c + 4 * k → T3.1 (m + 3) j = T0.1 (m + 3) j := fun j j1 j2 j3 j4 => by
        by_cases q1 : j = 12 + 56 * c + 4 * k + 1
        · rw [q1, cT3.2.1]; exact ckd.2.1.symm
        · by_cases q2 : j = 12 + 56 * c + 4 * k + 2
          · rw [q2, cT3.2.2.1, hmass]
          · exact (aT _ _ (by omega)).1
      have t3 : T3.1 (m + 3) 3 = sr + 1 := by
        rw [hT3]
        refine (pcag (m + 3) 3 (by omega)).1.trans ?_
        show T2.1 (m + 3) 3 = _
        rw [hT2, pI_same]
      have tj3 : T3.2.1 (m + 7) (5 * c + 3) = T0.2.1 (m + 7) (5 * c + 3) + mn.toInt64 := by rw [hT3]; exact pJ_same _ _ _ _
      have tj4 : T3.2.1 (m + 7) (5 * c + 4) = T0.2.1 (m + 7) (5 * c + 4) + mo.toInt64 := by
        rw [hT3, pJ_ne (by omega)]
        refine (pcag (m + 7) (5 * c + 4) (by omega)).2.1.trans ?_
        exact pJ_same _ _ _ _
      have rS3 : q_RS S3.2.2 x 0 341 := by rw [r03]; exact h0.rs
      have sj2 : S3.2.1 l 2 = S.2.1 l 2 + mn.toInt64 := by rw [hS3]; exact pJ_same _ _ _ _
      have sj3 : S3.2.1 l 3 = S.2.1 l 3 + mo.toInt64 := by
        rw [(a23 l 3 (by omega)).2.1, (a12 l 3 (by omega)).2.1, hS1]; exact pJ_same _ _ _ _
      have si0 : S3.1 ca 0 = sr := by
        rw [(a23 ca 0 (by omega)).1, hS2, pI_ne (by omega), pI_same]
      have si3 : S3.1 ca 3 = mn := by
        rw [(a23 ca 3 (by omega)).1, hS2, pI_same]
      refine q_JW_ok (T0 := T0) (S' := S3) (T' := T3) (pb := pb) (ns := ns) (nk := nk) (nc := nc) (a := sr) (b := sr) (q_ag_sub a03 (fun b k hb => by omega)) f0 (q_ag_trans f1 (q_ag_sub a13 (fun b k hb => by omega))) ?_ ((a13 m 0 (by omega)).1.trans z1) ?_ ?_ rfl
      · refine q_Rel_main h1 (Nat.le_succ _) (q_ag_sub a03 (fun b k hb => by omega)) rS3 (q_ag_sub a13 (fun b k hb => by omega)) (fun q hq h1' h2 h3 => ?_) ?_
        · have : T3.2.2 = T1.2.2 := by rw [hT3, hT2]; rfl
          rw [this]; exact h1.rt q hq h1' h2 h3
        · rw [show T1.1 (m + 1) = T0.1 (m + 1) from funext fun j => fa _ _ (by omega)]
          refine ⟨cnt, t, t9, c5, ?_, ?_, ⟨?_, ?_⟩, ?_, ?_, ?_, ?_, fun i hi => ?_⟩
          · rw [aT1 _ (by omega) (by omega) (by omega) (by omega)]; exact hg
          · refine q_ser_new (c0 := c) (k0 := k) hser hN (by rw [t3, hsr]) (by rw [cT3.1, hsr]) (fun i j hi hj hne => ⟨hj, ?_⟩)
            have := c5 i hi
            exact aT1 _ (by omega) (by omega) (by omega) (by omega)
          · rw [(a03 _ _ (by omega)).1]; exact hst.1.1
          · rw [aT1 _ (by omega) (by omega) (by omega) (by omega)]; exact hst.1.2
          · rw [(a03 _ _ (by omega)).1, aT1 _ (by omega) (by omega) (by omega) (by omega)]; exact hst.2.1
          · rw [(a03 _ _ (by omega)).1, aT1 _ (by omega) (by omega) (by omega) (by omega)]; exact hst.2.2.1
          · rw [t3, hS3]; exact pI_same _ _ _ _
          · rw [(a03 _ _ (by omega)).1]; exact hst.2.2.2.2.1
          · by_cases e : i = c
            · subst e
              rw [show x + 137 + 4 + 10 * i = x + 141 + 10 * i by omega]
              obtain ⟨w1, w2⟩ := q_cs_upd (S' := S3) (a' := T3.1 (m + 3)) (k0 := k) v1 v2 hk (q_ag_sub a03 (fun b k hb => by omega)) (fun j j1 j2 j3 j4 => aT1 j (by omega) (by omega) j3 j4) (by rw [← hcaa, si0, cT3.1]) (by rw [← hcaa, si3, show 15 + 56 * i + 4 * k = 12 + 56 * i + 4 * k + 3 by omega, cT3.2.2.2])
                (by rw [show 15 + 56 * i + 4 * k = 12 + 56 * i + 4 * k + 3 by omega, show 14 + 56 * i + 4 * k = 12 + 56 * i + 4 * k + 2 by omega, cT3.2.2.2, ← hkd, ← hmass]; exact ⟨mb.1, mb.2.2.1⟩)
              obtain ⟨l0, l1, l2, l3, l7⟩ := hcs.2.2.1
              rw [← hl] at l0 l1 l2 l3 l7
              have hlog := hcs.2.2
              rw [← hl] at hlog
              refine ⟨w1, w2, ?_⟩
              rw [← hl]
              refine q_log_J hlog (fun j _ _ => (a03 _ _ (by omega)).1) (fun j _ => (a03 _ _ (by omega)).1) (fun j j1 j2 j3 => aT1 j (by omega) (by omega) (by omega) (by omega)) ?_ ?_ ?_ ?_ ?_
              · rw [(a03 _ _ (by omega)).2.1, (aT _ _ (by omega)).2.1]; exact l0
              · rw [(a03 _ _ (by omega)).2.1, (aT _ _ (by omega)).2.1]; exact l1
              · rw [sj2, tj3, l2]
              · rw [sj3, tj4, l3]
              · rw [(a03 _ _ (by omega)).2.1, (aT _ _ (by omega)).2.1]; exact l7
            · exact q_cs_ag (hst.2.2.2.2.2 i hi) (q_ag_sub a03 (fun b k hb => by omega)) (fun j j1 j2 => aT1 j (by omega) (by omega) (by omega) (by omega)) (fun j j1 j2 => (aT _ _ (by omega)).2.1)
      · have hok := (hV.2.2 k (by omega)).2
        have hvr := (hV.2.2 k (by omega)).1
        rw [← hcaa] at hok hvr
        unfold f_X8_exchange
        rw [m_gd_t h.ox, g1, m_btw_s, g_reqHum, if_pos c2, m_btw_s, g_vitAt h hc, m_btw_s, g_logAt h hc, m_btw_s, m_gd_t hV.1, g2, m_b1_s, ← hl, m_gd_t hL.1, g_moOf hV (by omega), ← hcaa, smo, m_b1_s, ← hS1, m_lt_s]
        have rS1 : S1.2.2 = S.2.2 := by rw [hS1]; rfl
        rw [rS1, h.r3, m_b1_s, m_gd_t h.o137, (a01 (x + 137) 1 (by omega)).1, s1]
        have hV1 : q_V Z S1.2.2 (x + 141 + 10 * c) := by rw [rS1]; exact hV
        have k1' : q_K Z (m_pI S1 ca 0 sr).2.2 (pb + 6 + 3 * kd) := by show q_K Z S1.2.2 _; rw [rS1]; exact k1
        have kI : ∀ b j, b < x + 137 → (m_pI S1 ca 0 sr).1 b j = S.1 b j := fun b j hb => by rw [pI_ne (by omega), (a01 b j (by omega)).1]
        have kd4 : kd < 4 := by have := ckd.1; omega
        have hpb2 := h0.pbr
        have k2' : q_kin (m_pI S1 ca 0 sr) (pb + 6 + 3 * kd) (T0.1 (m + 1)) kd := by
          refine ⟨?_, ?_, ?_, fun j hj => ⟨?_, ?_⟩⟩
          · rw [kI _ _ (by omega)]; exact k2.1
          · rw [kI _ _ (by omega)]; exact k2.2.1
          · rw [kI _ _ (by omega)]; exact k2.2.2.1
          · rw [kI _ _ (by omega)]; exact (k2.2.2.2 j hj).1
          · rw [kI _ _ (by omega)]; exact (k2.2.2.2 j hj).2
        have hren : f_X7_recondition Z S1 (x + 141 + 10 * c) (Int32.ofNat k) sr hum = some ((), S2) := by
          unfold f_X7_recondition
          rw [if_neg (io_nn (n := 6) (by omega) (by omega)), m_gd_t hV1.1, hV1.2.1.1, m_b1_s, m_gd_t hV1.2.1.2.1, hV1.2.1.2.2, if_neg (fun q => absurd ((io_le (by omega) (by omega)).mp q) (by omega)), m_gd_t (io_in (by omega) (by omega)), io_tn (by omega), (hV1.2.2 k (by omega)).1, m_b1_s, ← hcaa, m_gd_t hok]
          unfold f_X0_renew
          rw [m_gd_t hok, m_lt_s, g_moistAt (k := kd) (p := T0.1 (m + 1)) hok (show (m_pI S1 ca 0 sr).2.2 ca 1 = some (pb + 6 + 3 * kd) by show S1.2.2 ca 1 = _; rw [rS1, hcaa]; exact ckd.2.2) k1' k2' k3, m_b1_s, pI_ne (by omega), (a01 ca 2 (by omega)).1, sma, ← hmn, m_lt_s, ← hS2, m_bw_s]
        rw [hren, m_bw_s]
        have hV2 : q_V Z S2.2.2 (x + 141 + 10 * c) := by rw [show S2.2.2 = S.2.2 by rw [hS2, hS1]; rfl]; exact hV
        rw [g_moOf hV2 (by omega), ← hcaa, show S2.1 ca 3 = mn by rw [hS2, pI_same], m_b1_s, (a12 l 2 (by omega)).2.1, (a01 l 2 (by omega)).2.1, m_lt_s]
        show m_b1 (S2.2.2 x 3) _ = _
        rw [show S2.2.2 x 3 = some (x + 137) by rw [show S2.2.2 = S.2.2 by rw [hS2, hS1]; rfl]; exact h.r3, m_b1_s, m_gd_t h.o137]
        unfold f_X6_takeSerial
        have s1' : (m_pJ S2 l 2 (S.2.1 l 2 + mn.toInt64)).1 (x + 137) 1 = sr := ((a12 (x + 137) 1 (by omega)).1).trans (((a01 (x + 137) 1 (by omega)).1).trans s1)
        rw [m_gd_t h.o137, m_lt_s, m_bw_s, s1', ← hS3]
      · have e3 : T1.1 (m + 3) 3 = sr := by rw [fa _ _ (by omega), hsr]
        unfold f_X9_exchange
        rw [m_gd_t hM.o, m_lt_s, e0, r1, m_bw_s, e_may1 hM.o z10 z1, m_bw_s, if_neg z10, e_isIn, m_b1_s, e_may hM.o z1 z20, if_pos c2, if_pos z10, e_newSer hM1, m_bw_s, e3, ← hT2]
        have e23 : T2.1 m 23 = Int32.ofNat c := by rw [hT2, pI_ne (by omega)]; exact r23
        have e24 : T2.1 m 24 = Int32.ofNat k := by rw [hT2, pI_ne (by omega)]; exact r24
        rw [e23, e24, ex, m_bw_s]
    · refine q_JW_er h1 (q_ag_trans f0 f1) (s := "java/lang/IllegalArgumentException") (b := 0) (k := 2) ?_ ?_ (by simp)
      · unfold f_X8_exchange
        rw [m_gd_t h.ox, g1, m_btw_s, g_reqHum, if_neg c2, m_btw_e]
      · unfold f_X9_exchange
        rw [m_gd_t hM.o, m_lt_s, e0, r1, m_bw_s, e_may1 hM.o z10 z1, m_bw_s, if_neg z10, e_isIn, m_b1_s, e_may hM.o z1 z20, if_neg c2, if_neg nz0]
  · refine q_JW_er h1 (q_ag_trans f0 f1) (s := "java/util/NoSuchElementException") (b := 0) (k := 1) ?_ ?_ (by simp)
    · unfold f_X8_exchange
      rw [m_gd_t h.ox, g1, m_btw_e]
    · unfold f_X9_exchange
      rw [m_gd_t hM.o, m_lt_s, e0, r1, m_bw_s, e_may0 hM.o z1 z10, m_bw_s, if_pos z00]
end REM
