section MOVE
variable {Z : m_Z} {x m N pb ns nk nc : Nat} {S T : m_S}
/-- a copy of cassette k of another vitrine -/
theorem g_putC {Z : m_Z} {S : m_S} {v w n k d : Nat} (g : q_V Z S.2.2 v) (gw : q_V Z S.2.2 w) (hn : S.1 v 5 = Int32.ofNat n) (n6 : n < 6) (k6 : k < 6) (hd : S.2.2 (w + 2 + k) 1 = some d) (hne : v + 2 + n ≠ w + 2 + k) : f_X7_putCopyOf Z S v w (Int32.ofNat k) = some ((), m_pI (q_cpc S (v + 2 + n) (w + 2 + k)) v 5 (Int32.ofNat (n + 1))) := by
  unfold f_X7_putCopyOf
  rw [m_gd_t g.1, g.2.1.1, m_b1_s, m_gd_t g.2.1.2.1, g.2.1.2.2, hn, if_neg (fun q => absurd ((io_le (by omega) (by omega)).mp q) (by omega)), if_neg (io_nn k6 (by omega)), m_gd_t gw.1, gw.2.1.1, m_b1_s, m_gd_t gw.2.1.2.1, gw.2.1.2.2, if_neg (fun q => absurd ((io_le (by omega) (by omega)).mp q) (by omega)), m_gd_t (io_in (by omega) (by omega)), io_tn (by omega), (g.2.2 n n6).1, m_b1_s, m_gd_t (io_in (by omega) (by omega)), io_tn (by omega), (gw.2.2 k k6).1, m_b1_s, m_gd_t (g.2.2 n n6).2, g_copyC (g.2.2 n n6).2 (gw.2.2 k k6).2 hd hne, m_bw_s, (q_cpc_ag S (v + 2 + n) (w + 2 + k) v 5 (by omega)).1, hn, io_one, m_lt_s]
theorem q_V_cgr {Z : m_Z} {R R' : Nat → Nat → Option Nat} {v : Nat} (g : q_V Z R v) (h : ∀ b j, b < v + 2 ∧ v ≤ b → R' b j = R b j) : q_V Z R' v := by
  refine ⟨g.1, ⟨?_, g.2.1.2⟩, fun k hk => ⟨?_, (g.2.2 k hk).2⟩⟩
  · rw [h v _ (by omega)]; exact g.2.1.1
  · rw [h (v + 1) _ (by omega)]; exact (g.2.2 k hk).1
theorem J_move (h : q_Rel Z x m N pb ns nk nc S T) (s p : Int32) : q_JW Z x m (N + 1) [("java/util/NoSuchElementException", 1), ("java/lang/IndexOutOfBoundsException", 2), ("java/lang/IllegalStateException", 3)] (fun a b => a = b) S T (f_X8_move Z S x s p) (f_X9_move Z T m s p) := by
  obtain ⟨T0, e0, z0, f0, h0⟩ := q_zero h
  have hM := h0.M
  have hm := h0.em
  have h6 := h0.nc6
  have h4 := h0.nk4
  have hpb := q_pb_out h0
  obtain ⟨cnt, t, t9, c5, hg, hser, hst⟩ := h0.sta
  rcases q_find h0 z0 c5 hser hst s with ⟨c, k, T1, hc, hk, hs, g1, g2, r1, r23, r24, z1, f1, h1, fa, fb⟩ | ⟨T1, g1, r1, z1, f1, h1⟩
  · have hcs := hst.2.2.2.2.2 c hc
    have hV := (h0.st.2.2.2.2 c (by omega)).2.2.1
    have hL := (h0.st.2.2.2.2 c (by omega)).2.2.2
    rw [show x + 137 + 4 + 10 * c = x + 141 + 10 * c by omega] at hcs hV hL
    have hn5 := c5 c hc
    have v1 := hcs.1
    have v2 := hcs.2.1
    have hM1 := h1.M
    rcases q_cdec h0.cs p with ⟨d, hd, rfl⟩ | hp
    · have hds := hst.2.2.2.2.2 d hd
      have hVd := (h0.st.2.2.2.2 d (by omega)).2.2.1
      have hLd := (h0.st.2.2.2.2 d (by omega)).2.2.2
      rw [show x + 137 + 4 + 10 * d = x + 141 + 10 * d by omega] at hds hVd hLd
      have hd5 := c5 d hd
      have u1 := hds.1
      have u2 := hds.2.1
      have cdi : Int32.ofNat c = Int32.ofNat d ↔ c = d := ⟨fun e => by have := t_eq.mp e; rw [t_ofNat (by omega), t_ofNat (by omega)] at this; omega, fun e => by rw [e]⟩
      have eD : f_X9_of Z T1 m (Int32.ofNat d) 4 = some (Int32.ofNat (cnt d)) := by
        rw [e_of (wi := 4) hM1 (w := 4) rfl (by omega) (by omega), show 4 + 56 * d + 4 = 8 + 56 * d by omega, fa _ _ (by omega), u1.2.2.2.2.2.2.1]
      by_cases hcd : c = d
      · refine q_JW_er h1 (q_ag_trans f0 f1) (s := "java/lang/IllegalStateException") (b := 0) (k := 3) ?_ ?_ (by simp)
        · unfold f_X8_move
          rw [m_gd_t h.ox, g1, m_btw_s, g_vitAt h hd, m_btw_s, if_pos (cdi.mpr hcd)]
        · unfold f_X9_move
          rw [m_gd_t hM.o, m_lt_s, e0, r1, m_bw_s, e_may1 hM.o z10 z1, m_bw_s, if_neg z10, e_isCase hM1 h1.n5 h1.cs, m_b1_s, e_may hM.o z1 z20, if_pos (q_yes hd (by omega)), if_neg z10]
          simp only [m_jp_s]
          rw [r23, if_pos (cdi.mpr hcd), e_may0 hM.o z1 z30, m_bw_s, if_neg nz0]
      · by_cases hfull : cnt d < 5
        · obtain ⟨n, hn⟩ : ∃ n, n = cnt c := ⟨_, rfl⟩
          obtain ⟨nd, hnd⟩ : ∃ n, n = cnt d := ⟨_, rfl⟩
          rw [← hn] at v1 v2 hk hn5
          rw [← hnd] at u1 u2 hd5 hfull
          have hca := v1.2.2.2.2.2.2.2 k hk
          obtain ⟨kd, hkd⟩ : ∃ y, y = q_kn (T0.1 (m + 3)) (12 + 56 * c + 4 * k) := ⟨_, rfl⟩
          have ckd := hca.2.1
          rw [← hkd] at ckd
          obtain ⟨mass, hmass⟩ : ∃ y, y = T0.1 (m + 3) (12 + 56 * c + 4 * k + 2) := ⟨_, rfl⟩
          obtain ⟨mo, hmo⟩ : ∃ y, y = T0.1 (m + 3) (12 + 56 * c + 4 * k + 3) := ⟨_, rfl⟩
          have w3 := v2.2.2.2.2 k hk
          rw [show 14 + 56 * c + 4 * k = 12 + 56 * c + 4 * k + 2 by omega, show 15 + 56 * c + 4 * k = 12 + 56 * c + 4 * k + 3 by omega, ← hmass, ← hmo, ← hkd] at w3
          have smo : S.1 (x + 141 + 10 * c + 2 + k) 3 = mo := by rw [hmo]; exact hca.2.2.2
          have sma : S.1 (x + 141 + 10 * c + 2 + k) 2 = mass := by rw [hmass]; exact hca.2.2.1
          have sse : S.1 (x + 141 + 10 * c + 2 + k) 0 = s := hca.1.trans hs
          -- the class: the copy into d, then out of c
          obtain ⟨S1, hS1⟩ : ∃ y, y = m_pI (q_cpc S (x + 141 + 10 * d + 2 + nd) (x + 141 + 10 * c + 2 + k)) (x + 141 + 10 * d) 5 (Int32.ofNat (nd + 1)) := ⟨_, rfl⟩
          have gp := g_putC (k := k) hVd hV u1.2.2.2.2.2.1 (by omega) (by omega) ckd.2.2 (by omega)
          rw [← hS1] at gp
          have cpag := q_cpc_ag S (x + 141 + 10 * d + 2 + nd) (x + 141 + 10 * c + 2 + k)
          have cpc := q_cpc_c (S := S) (a := x + 141 + 10 * d + 2 + nd) (b := x + 141 + 10 * c + 2 + k) (by omega)
          have b01 : q_ag (fun b j => ¬ b = x + 141 + 10 * d + 2 + nd ∧ ¬ (b = x + 141 + 10 * d ∧ j = 5)) S S1 := by
            rw [hS1]; exact q_ag_I (q_ag_sub cpag (fun b j hb => hb.1)) (by omega)
          have r01 : ∀ b j, ¬ b = x + 141 + 10 * d + 2 + nd → S1.2.2 b j = S.2.2 b j := fun b j hb => by rw [hS1]; exact (cpag b j hb).2.2
          have d5 : S1.1 (x + 141 + 10 * d) 5 = Int32.ofNat (nd + 1) := by rw [hS1]; exact pI_same _ _ _ _
          have d0 : ∀ w, w < 4 → w ≠ 1 → S1.1 (x + 141 + 10 * d + 2 + nd) w = S.1 (x + 141 + 10 * c + 2 + k) w := fun w hw hw1 => by rw [hS1, pI_ne (by omega)]; exact cpc.1 w hw hw1
          have dr : S1.2.2 (x + 141 + 10 * d + 2 + nd) 1 = some (pb + 6 + 3 * kd) := by rw [hS1]; exact cpc.2.2.trans ckd.2.2
          have hV1 : q_V Z S1.2.2 (x + 141 + 10 * c) := q_V_cgr hV (fun b j hb => r01 b j (by omega))
          have hcn1 : S1.1 (x + 141 + 10 * c) 5 = Int32.ofNat n := by rw [(b01 _ _ (by omega)).1]; exact v1.2.2.2.2.2.1
          obtain ⟨S2, o1, o2, ⟨o3, o3r⟩, o4⟩ := g_takeOut (k0 := k) hV1 hcn1 (by omega) hk (fun j hj => by rw [r01 _ _ (by omega)]; exact q_kind_ex v1 j hj)
          obtain ⟨S3, hS3⟩ : ∃ y, y = m_pJ S2 (x + 141 + 10 * c + 8) 3 (S.2.1 (x + 141 + 10 * c + 8) 3 + mo.toInt64) := ⟨_, rfl⟩
          obtain ⟨S4, hS4⟩ : ∃ y, y = m_pJ S3 (x + 141 + 10 * d + 8) 2 (S.2.1 (x + 141 + 10 * d + 8) 2 + mo.toInt64) := ⟨_, rfl⟩
          have a24 : q_ag (fun b j => ¬ (b = x + 141 + 10 * c + 8 ∧ j = 3) ∧ ¬ (b = x + 141 + 10 * d + 8 ∧ j = 2)) S2 S4 := by rw [hS4, hS3]; exact q_ag_J (q_ag_J (q_ag_refl _ _) (by omega)) (by omega)
          have i24 : S4.1 = S2.1 := by rw [hS4, hS3]; rfl
          have r24' : S4.2.2 = S2.2.2 := by rw [hS4, hS3]; rfl
          have a04 : q_ag (fun b j => ¬ b = x + 141 + 10 * d + 2 + nd ∧ ¬ (b = x + 141 + 10 * d ∧ j = 5) ∧ ¬ (x + 141 + 10 * c + 2 ≤ b ∧ b < x + 141 + 10 * c + 2 + n) ∧ ¬ (b = x + 141 + 10 * c ∧ j = 5) ∧ ¬ (b = x + 141 + 10 * c + 8 ∧ j = 3) ∧ ¬ (b = x + 141 + 10 * d + 8 ∧ j = 2)) S S4 := q_ag_trans (q_ag_sub b01 (fun b j hb => by omega)) (q_ag_trans (q_ag_sub o3 (fun b j hb => by omega)) (q_ag_sub a24 (fun b j hb => by omega)))
          have rS4 : q_RS S4.2.2 x 0 341 := q_RS_R h0.rs (fun j k' hj hne => by
            rw [r24', o3r (x + j) k' (fun e => hne (by rw [show j = 143 + 10 * c + (j - 143 - 10 * c) by omega]; exact q_kcas (by omega) (by omega)))]
            exact r01 _ _ (fun e => hne (by rw [show j = 143 + 10 * d + nd by omega]; exact q_kcas (by omega) (by omega))))
          -- the reference: out of c, then into d
          have tn : T1.1 (m + 3) (8 + 56 * c) = Int32.ofNat n := by rw [fa _ _ (by omega)]; exact v1.2.2.2.2.2.2.1
          obtain ⟨T2, y1, y2, y3, y4, y6, y5⟩ := e_goes (k0 := k) hM1 (by omega) tn (by omega) hk
          rw [fa _ _ (by omega), ← hmo] at y1 y4
          have hM2 : q_M Z T2.2.2 m := by rw [y6]; exact hM1
          have tnd : T2.1 (m + 3) (8 + 56 * d) = Int32.ofNat nd := by rw [(y3 _ _ (by omega)).1, fa _ _ (by omega)]; exact u1.2.2.2.2.2.2.1
          have ea := e_addsTo (c := d) (n := nd) (s := s) (kd := Int32.ofNat kd) (mass := mass) (mo := mo) hM2 (by omega) tnd (by omega)
          obtain ⟨T3, hT3⟩ : ∃ y, y = m_pJ (q_pc m d nd (m_pI T2 (m + 3) (8 + 56 * d) (Int32.ofNat (nd + 1))) s (Int32.ofNat kd) mass mo) (m + 7) (5 * d + 3) (T2.2.1 (m + 7) (5 * d + 3) + mo.toInt64) := ⟨_, rfl⟩
          rw [← hT3] at ea
          have pcag := q_pc_ag m d nd (m_pI T2 (m + 3) (8 + 56 * d) (Int32.ofNat (nd + 1))) s (Int32.ofNat kd) mass mo
          have cT := q_pc_c (m := m) (c := d) (k := nd) (T := m_pI T2 (m + 3) (8 + 56 * d) (Int32.ofNat (nd + 1))) (s := s) (kd := Int32.ofNat kd) (mass := mass) (mo := mo)
          have cT3 : T3.1 (m + 3) (12 + 56 * d + 4 * nd) = s ∧ T3.1 (m + 3) (12 + 56 * d + 4 * nd + 1) = Int32.ofNat kd ∧ T3.1 (m + 3) (12 + 56 * d + 4 * nd + 2) = mass ∧ T3.1 (m + 3) (12 + 56 * d + 4 * nd + 3) = mo := by rw [hT3]; exact cT
          have a23 : q_ag (fun b j => ¬ (b = m + 3 ∧ (j = 8 + 56 * d ∨ (12 + 56 * d + 4 * nd ≤ j ∧ j < 16 + 56 * d + 4 * nd))) ∧ ¬ (b = m + 7 ∧ j = 5 * d + 3)) T2 T3 := by
            rw [hT3]
            exact q_ag_J (q_ag_trans (q_ag_I (q_ag_refl _ _) (by omega)) (q_ag_sub pcag (fun b j hb => by omega))) (by omega)
          have t8 : T3.1 (m + 3) (8 + 56 * d) = Int32.ofNat (nd + 1) := by
            rw [hT3]
            exact (pcag (m + 3) (8 + 56 * d) (by omega)).1.trans (pI_same _ _ _ _)
          have a13 : q_ag (fun b j => ¬ (b = m + 3 ∧ (j = 8 + 56 * d ∨ j = 8 + 56 * c)) ∧ ¬ (b = m + 3 ∧ 12 + 56 * c + 4 * k ≤ j ∧ j < 12 + 56 * c + 4 * (n - 1)) ∧ ¬ (b = m + 3 ∧ 12 + 56 * d + 4 * nd ≤ j ∧ j < 16 + 56 * d + 4 * nd) ∧ ¬ (b = m + 7 ∧ (j = 5 * d + 3 ∨ j = 5 * c + 4))) T1 T3 := q_ag_trans (q_ag_sub y3 (fun b j hb => by omega)) (q_ag_sub a23 (fun b j hb => by omega))
          have aT : q_ag (fun b j => b ≠ m ∧ ¬ (b = m + 3 ∧ (j = 8 + 56 * d ∨ j = 8 + 56 * c)) ∧ ¬ (b = m + 3 ∧ 12 + 56 * c + 4 * k ≤ j ∧ j < 12 + 56 * c + 4 * (n - 1)) ∧ ¬ (b = m + 3 ∧ 12 + 56 * d + 4 * nd ≤ j ∧ j < 16 + 56 * d + 4 * nd) ∧ ¬ (b = m + 7 ∧ (j = 5 * d + 3 ∨ j = 5 * c + 4))) T0 T3 := fun b j hb => by
            have e := a13 b j hb.2
            exact ⟨e.1.trans (fa b j hb.1), e.2.1.trans (by rw [fb]), e.2.2.trans (by rw [fb])⟩
          have y5' : ∀ i w, i < n - 1 → w < 4 → T3.1 (m + 3) (12 + 56 * c + 4 * i + w) = T0.1 (m + 3) (12 + 56 * c + 4 * (if i < k then i else i + 1) + w) := fun i w hi hw => by
            rw [(a23 _ _ (by omega)).1, y5 i w hi hw]; exact fa _ _ (by omega)
          have t8c : T3.1 (m + 3) (8 + 56 * c) = Int32.ofNat (n - 1) := by rw [(a23 _ _ (by omega)).1]; exact y2
          have tjd : T3.2.1 (m + 7) (5 * d + 3) = T0.2.1 (m + 7) (5 * d + 3) + mo.toInt64 := by
            rw [hT3, pJ_same, (y3 _ _ (by omega)).2.1, fb]
          have tjc : T3.2.1 (m + 7) (5 * c + 4) = T0.2.1 (m + 7) (5 * c + 4) + mo.toInt64 := by
            rw [(a23 _ _ (by omega)).2.1, y4, fb]
          obtain ⟨cnt', hcnt'⟩ : ∃ y : Nat → Nat, y = fun i => if i = c then n - 1 else if i = d then nd + 1 else cnt i := ⟨_, rfl⟩
          have cc : cnt' c = n - 1 := by rw [hcnt']; exact if_pos rfl
          have cd : cnt' d = nd + 1 := by rw [hcnt']; show (if d = c then _ else if d = d then _ else _) = _; rw [if_neg (fun e => hcd e.symm), if_pos rfl]
          have co : ∀ i, i ≠ c → i ≠ d → cnt' i = cnt i := fun i hi hi2 => by rw [hcnt']; show (if i = c then _ else if i = d then _ else _) = _; rw [if_neg hi, if_neg hi2]
          refine q_JW_ok (T0 := T0) (S' := S4) (T' := T3) (pb := pb) (ns := ns) (nk := nk) (nc := nc) (a := Int32.ofNat c) (b := Int32.ofNat c) (q_ag_sub a04 (fun b k hb => by omega)) f0 (q_ag_trans f1 (q_ag_sub a13 (fun b k hb => by omega))) ?_ ((a13 m 0 (by omega)).1.trans z1) ?_ ?_ rfl
          · refine q_Rel_main h1 (Nat.le_succ _) (q_ag_sub a04 (fun b k hb => by omega)) rS4 (q_ag_sub a13 (fun b k hb => by omega)) (fun q hq h1' h2 h3 => ?_) ?_
            · have : T3.2.2 = T2.2.2 := by rw [hT3]; rfl
              rw [this, y6]; exact h1.rt q hq h1' h2 h3
            · rw [show T1.1 (m + 1) = T0.1 (m + 1) from funext fun j => fa _ _ (by omega)]
              refine ⟨cnt', t, t9, fun i hi => ?_, ?_, ?_, ⟨?_, ?_⟩, ?_, ?_, ?_, ?_, fun i hi => ?_⟩
              · by_cases e : i = c
                · subst e; rw [cc]; omega
                · by_cases e2 : i = d
                  · subst e2; rw [cd]; omega
                  · rw [co i e e2]; exact c5 i hi
              · rw [(aT _ _ (by omega)).1]; exact hg
              · refine q_ser_map hser (Nat.le_succ _) (aT _ _ (by omega)).1 (fun i j => if i = d ∧ j = nd then c else i) (fun i j => if i = d ∧ j = nd then k else if i = c then (if j < k then j else j + 1) else j) (fun i j hi hj => ?_) (fun i j i' j' hi hj hi' hj' e1 e2 => ?_)
                · by_cases e : i = d ∧ j = nd
                  · rw [if_pos e, if_pos e, e.1, e.2, ← hn]
                    refine ⟨hc, hk, ?_⟩
                    rw [cT3.1]; exact hs.symm
                  · rw [if_neg e, if_neg e]
                    by_cases e1 : i = c
                    · subst e1
                      rw [cc] at hj
                      rw [if_pos rfl, ← hn]
                      exact ⟨hi, by split <;> omega, y5' j 0 hj (by omega)⟩
                    · rw [if_neg e1]
                      by_cases e2 : i = d
                      · subst e2
                        rw [cd] at hj
                        exact ⟨hi, by omega, (aT _ _ (by omega)).1⟩
                      · rw [co i e1 e2] at hj
                        have := c5 i hi
                        exact ⟨hi, hj, (aT _ _ (by omega)).1⟩
                · have jb : ∀ i j, j < cnt' i → i = d → j ≠ nd → j < nd := fun i j hj e hne => by subst e; rw [cd] at hj; omega
                  by_cases q1 : i = d ∧ j = nd <;> by_cases q2 : i' = d ∧ j' = nd
                  · omega
                  · rw [if_pos q1, if_neg q2] at e1 e2
                    rw [← e1, if_pos rfl] at e2
                    split at e2 <;> omega
                  · rw [if_neg q1, if_pos q2] at e1 e2
                    rw [e1, if_pos rfl] at e2
                    split at e2 <;> omega
                  · rw [if_neg q1, if_neg q2] at e1 e2
                    subst e1
                    refine ⟨rfl, ?_⟩
                    by_cases e : i = c
                    · rw [if_pos e, if_pos e] at e2
                      split at e2 <;> split at e2 <;> omega
                    · rw [if_neg e, if_neg e] at e2; exact e2
              · rw [(a04 _ _ (by omega)).1]; exact hst.1.1
              · rw [(aT _ _ (by omega)).1]; exact hst.1.2
              · rw [(a04 _ _ (by omega)).1, (aT _ _ (by omega)).1]; exact hst.2.1
              · rw [(a04 _ _ (by omega)).1, (aT _ _ (by omega)).1]; exact hst.2.2.1
              · rw [(a04 _ _ (by omega)).1, (aT _ _ (by omega)).1]; exact hst.2.2.2.1
              · rw [(a04 _ _ (by omega)).1]; exact hst.2.2.2.2.1
              · by_cases e : i = c
                · subst e
                  rw [cc, show x + 137 + 4 + 10 * i = x + 141 + 10 * i by omega]
                  obtain ⟨w1, w2⟩ := q_cs_del (S' := S4) (a' := T3.1 (m + 3)) v1 v2 hk (q_ag_sub a04 (fun b k hb => by omega)) (by rw [i24]; exact o2) (fun j hj => ⟨fun w hw hw1 => by rw [i24, (o4 j hj).1 w hw hw1]; exact (b01 _ _ (by split <;> omega)).1, by rw [r24', (o4 j hj).2]; exact r01 _ _ (by split <;> omega)⟩) (fun j j1 j2 => (aT _ _ (by omega)).1) t8c (fun j w hj hw => y5' j w hj hw)
                  obtain ⟨l0, l1, l2, l3, l7⟩ := hcs.2.2.1
                  refine ⟨w1, w2, q_log_J hcs.2.2 (fun j _ _ => (a04 _ _ (by omega)).1) (fun j _ => (a04 _ _ (by omega)).1) (fun j j1 j2 j3 => (aT _ _ (by omega)).1) ?_ ?_ ?_ ?_ ?_⟩
                  · rw [(a04 _ _ (by omega)).2.1, (aT _ _ (by omega)).2.1]; exact l0
                  · rw [(a04 _ _ (by omega)).2.1, (aT _ _ (by omega)).2.1]; exact l1
                  · rw [(a04 _ _ (by omega)).2.1, (aT _ _ (by omega)).2.1]; exact l2
                  · rw [tjc, hS4, pJ_ne (by omega), hS3, ← l3]; exact pJ_same _ _ _ _
                  · rw [(a04 _ _ (by omega)).2.1, (aT _ _ (by omega)).2.1]; exact l7
                · by_cases e2 : i = d
                  · subst e2
                    rw [cd, show x + 137 + 4 + 10 * i = x + 141 + 10 * i by omega]
                    have s4 : ∀ w, w < 4 → w ≠ 1 → S4.1 (x + 141 + 10 * i + 2 + nd) w = S.1 (x + 141 + 10 * c + 2 + k) w := fun w hw hw1 => by rw [i24, (o3 _ _ (by omega)).1]; exact d0 w hw hw1
                    obtain ⟨w1, w2⟩ := q_cs_app (S' := S4) (a' := T3.1 (m + 3)) (kk := kd) u1 u2 (by omega) ckd.1 h4 (q_ag_sub a04 (fun b k hb => by omega)) (by rw [i24, (o3 _ _ (by omega)).1]; exact d5) (fun j j1 j2 j3 j4 => (aT _ _ (by omega)).1) t8
                      (by rw [s4 0 (by omega) (by omega), sse, cT3.1]) cT3.2.1 (by rw [r24', o3r _ _ (by omega)]; exact dr) (by rw [s4 2 (by omega) (by omega), sma, cT3.2.2.1]) (by rw [s4 3 (by omega) (by omega), smo, cT3.2.2.2]) (by rw [cT3.2.2.1]; exact w3.1) (by rw [cT3.2.2.1, cT3.2.2.2]; exact w3.2)
                    obtain ⟨l0, l1, l2, l3, l7⟩ := hds.2.2.1
                    refine ⟨w1, w2, q_log_J hds.2.2 (fun j _ _ => (a04 _ _ (by omega)).1) (fun j _ => (a04 _ _ (by omega)).1) (fun j j1 j2 j3 => (aT _ _ (by omega)).1) ?_ ?_ ?_ ?_ ?_⟩
                    · rw [(a04 _ _ (by omega)).2.1, (aT _ _ (by omega)).2.1]; exact l0
                    · rw [(a04 _ _ (by omega)).2.1, (aT _ _ (by omega)).2.1]; exact l1
                    · rw [tjd, hS4, ← l2]; exact pJ_same _ _ _ _
                    · rw [(a04 _ _ (by omega)).2.1, (aT _ _ (by omega)).2.1]; exact l3
                    · rw [(a04 _ _ (by omega)).2.1, (aT _ _ (by omega)).2.1]; exact l7
                  · rw [co i e e2]
                    exact q_cs_ag (hst.2.2.2.2.2 i hi) (q_ag_sub a04 (fun b k hb => by omega)) (fun j j1 j2 => (aT _ _ (by omega)).1) (fun j j1 j2 => (aT _ _ (by omega)).2.1)
          · unfold f_X8_move
            have rS2 : q_RS S2.2.2 x 0 341 := by rw [← r24']; exact rS4
            have rS3 : q_RS S3.2.2 x 0 341 := by
              have : S3.2.2 = S2.2.2 := by rw [hS3]; rfl
              rw [this]; exact rS2
            have e2r1 : S2.2.2 x 1 = some pb := by rw [o3r _ _ (by omega), r01 _ _ (by omega)]; exact h.r1
            have e2c8 : S2.1 pb 8 = Int32.ofNat nc := by rw [(o3 _ _ (by omega)).1, (b01 _ _ (by omega)).1]; exact h.c8
            rw [m_gd_t h.ox, g1, m_btw_s, g_vitAt h hd, m_btw_s, if_neg (fun e => hcd (cdi.mp e)), m_gd_t hVd.1, g_full hVd u1.2.2.2.2.2.1 (by omega), m_b1_s, if_pos hfull, if_pos z00, g_vitAt h hc, m_btw_s, m_gd_t hV.1, g2, m_b1_s, g_moOf hV (by omega), smo, m_b1_s, gp, m_bw_s, o1, m_bw_s, g_logAt2 h rS2 e2r1 e2c8 hc, m_btw_s, m_gd_t hL.1, show S2.2.1 (x + 141 + 10 * c + 8) 3 = S.2.1 (x + 141 + 10 * c + 8) 3 by rw [(o3 _ _ (by omega)).2.1, (b01 _ _ (by omega)).2.1], ← hS3, m_lt_s, g_logAt2 h rS3 (by rw [hS3]; exact e2r1) (by rw [hS3]; exact e2c8) hd, m_btw_s, m_gd_t hLd.1, show S3.2.1 (x + 141 + 10 * d + 8) 2 = S.2.1 (x + 141 + 10 * d + 8) 2 by rw [hS3, pJ_ne (by omega), (o3 _ _ (by omega)).2.1, (b01 _ _ (by omega)).2.1], ← hS4, m_lt_s]
          · unfold f_X9_move
            rw [m_gd_t hM.o, m_lt_s, e0, r1, m_bw_s, e_may1 hM.o z10 z1, m_bw_s, if_neg z10, e_isCase hM1 h1.n5 h1.cs, m_b1_s, e_may hM.o z1 z20, if_pos (q_yes hd (by omega)), if_neg z10]
            simp only [m_jp_s]
            rw [r23, if_neg (fun e => hcd (cdi.mp e)), eD, m_b1_s, ← hnd, if_neg (show ¬ (5 : Int32) ≤ Int32.ofNat nd from fun z => absurd ((io_le (a := 5) (by omega) (by omega)).mp z) (by omega)), e_may1 hM.o z10 z1, m_bw_s, if_pos z10, r23, r24, e_its (wi := 1) hM1 (w := 1) rfl (by omega) (by omega) (by omega), fa _ _ (by omega), ckd.2.1, m_b1_s, e_its (wi := 2) hM1 (w := 2) rfl (by omega) (by omega) (by omega), fa _ _ (by omega), ← hmass, m_b1_s, y1, m_bw_s, ea, m_bw_s, (a13 m 23 (by omega)).1, r23]
        · refine q_JW_er h1 (q_ag_trans f0 f1) (s := "java/lang/IllegalStateException") (b := 0) (k := 3) ?_ ?_ (by simp)
          · unfold f_X8_move
            rw [m_gd_t h.ox, g1, m_btw_s, g_vitAt h hd, m_btw_s, if_neg (fun e => hcd (cdi.mp e)), m_gd_t hVd.1, g_full hVd u1.2.2.2.2.2.1 (by omega), m_b1_s, if_neg hfull, if_neg z10]
          · unfold f_X9_move
            rw [m_gd_t hM.o, m_lt_s, e0, r1, m_bw_s, e_may1 hM.o z10 z1, m_bw_s, if_neg z10, e_isCase hM1 h1.n5 h1.cs, m_b1_s, e_may hM.o z1 z20, if_pos (q_yes hd (by omega)), if_neg z10]
            simp only [m_jp_s]
            rw [r23, if_neg (fun e => hcd (cdi.mp e)), eD, m_b1_s, if_pos (show (5 : Int32) ≤ Int32.ofNat (cnt d) from (io_le (a := 5) (by omega) (by omega)).mpr (by omega)), e_may0 hM.o z1 z30, m_bw_s, if_neg nz0]
    · refine q_JW_er h1 (q_ag_trans f0 f1) (s := "java/lang/IndexOutOfBoundsException") (b := 0) (k := 2) ?_ ?_ (by simp)
      · unfold f_X8_move
        rw [m_gd_t h.ox, g1, m_btw_s, g_vitNo h hp, m_btw_e]
      · unfold f_X9_move
        rw [m_gd_t hM.o, m_lt_s, e0, r1, m_bw_s, e_may1 hM.o z10 z1, m_bw_s, if_neg z10, e_isCase hM1 h1.n5 h1.cs, m_b1_s, e_may hM.o z1 z20, if_neg (q_no hp), if_pos z00]
  · refine q_JW_er h1 (q_ag_trans f0 f1) (s := "java/util/NoSuchElementException") (b := 0) (k := 1) ?_ ?_ (by simp)
    · unfold f_X8_move
      rw [m_gd_t h.ox, g1, m_btw_e]
    · unfold f_X9_move
      rw [m_gd_t hM.o, m_lt_s, e0, r1, m_bw_s, e_may0 hM.o z1 z10, m_bw_s, if_pos z00]
end MOVE
