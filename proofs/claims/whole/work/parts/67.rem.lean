section REM
variable {Z : m_Z} {x m N pb ns nk nc : Nat} {S T : m_S}
theorem q_kind_ex {kb nk n v c : Nat} {S : m_S} {p a : Nat → Int32} (h : q_vit kb nk n S v p a c) : ∀ j, j < n → ∃ d, S.2.2 (v + 2 + j) 1 = some d := fun j hj => ⟨_, (h.2.2.2.2.2.2.2 j hj).2.1.2.2⟩
theorem q_pb_out (h : q_Rel Z x m N pb ns nk nc S T) : pb < x + 137 := by have := h.pbr; omega
theorem J_remove (h : q_Rel Z x m N pb ns nk nc S T) (s : Int32) : q_JW Z x m (N + 1) [("java/util/NoSuchElementException", 1)] (fun a b => a = b) S T (f_X8_remove Z S x s) (f_X9_remove Z T m s) := by
  obtain ⟨T0, e0, z0, f0, h0⟩ := q_zero h
  have hM := h0.M
  have hm := h0.em
  have h6 := h0.nc6
  have hpb := q_pb_out h0
  obtain ⟨cnt, t, t9, c5, hg, hser, hst⟩ := h0.sta
  rcases q_find h0 z0 c5 hser hst s with ⟨c, k, T1, hc, hk, hs, g1, g2, r1, r23, r24, z1, f1, h1, fa, fb⟩ | ⟨T1, g1, r1, z1, f1, h1⟩
  · have hcs := hst.2.2.2.2.2 c hc
    have hV := (h0.st.2.2.2.2 c (by omega)).2.2.1
    have hL := (h0.st.2.2.2.2 c (by omega)).2.2.2
    rw [show x + 137 + 4 + 10 * c = x + 141 + 10 * c by omega] at hcs hV hL
    have hn5 := c5 c hc
    obtain ⟨n, hn⟩ : ∃ n, n = cnt c := ⟨_, rfl⟩
    have v1 := hcs.1
    have v2 := hcs.2.1
    rw [← hn] at v1 v2 hk hn5
    have tn : T1.1 (m + 3) (8 + 56 * c) = Int32.ofNat n := by rw [fa _ _ (by omega)]; exact v1.2.2.2.2.2.2.1
    have hM1 := h1.M
    obtain ⟨mo, hmo⟩ : ∃ y, y = T0.1 (m + 3) (12 + 56 * c + 4 * k + 3) := ⟨_, rfl⟩
    have smo : S.1 (x + 141 + 10 * c + 2 + k) 3 = mo := by rw [hmo]; exact (v1.2.2.2.2.2.2.2 k hk).2.2.2
    obtain ⟨S1, o1, o2, ⟨o3, o3r⟩, o4⟩ := g_takeOut (k0 := k) hV v1.2.2.2.2.2.1 (by omega) hk (q_kind_ex v1)
    obtain ⟨T2, u1, u2, u3, u4, u5⟩ := e_goes (k0 := k) hM1 (by omega) tn (by omega) hk
    rw [fa _ _ (by omega), ← hmo] at u1 u4
    have j4 : T1.2.1 (m + 7) (5 * c + 4) = T0.2.1 (m + 7) (5 * c + 4) := by rw [fb]
    rw [j4] at u4
    have aT : q_ag (fun b j => b ≠ m ∧ ¬ (b = m + 3 ∧ j = 8 + 56 * c) ∧ ¬ (b = m + 3 ∧ 12 + 56 * c + 4 * k ≤ j ∧ j < 12 + 56 * c + 4 * (n - 1)) ∧ ¬ (b = m + 7 ∧ j = 5 * c + 4)) T0 T2 := fun b j hb => by
      have e := u3 b j ⟨hb.2.1, hb.2.2.1, hb.2.2.2⟩
      exact ⟨e.1.trans (fa b j hb.1), e.2.1.trans (by rw [fb]), e.2.2.trans (by rw [fb])⟩
    have u5' : ∀ i w, i < n - 1 → w < 4 → T2.1 (m + 3) (12 + 56 * c + 4 * i + w) = T0.1 (m + 3) (12 + 56 * c + 4 * (if i < k then i else i + 1) + w) := fun i w hi hw => (u5 i w hi hw).trans (fa _ _ (by omega))
    have z2 : T2.1 m 0 = 0 := (u3 m 0 ⟨by omega, by omega, by omega⟩).1.trans z1
    obtain ⟨S2, hS2⟩ : ∃ y, y = m_pJ S1 (x + 141 + 10 * c + 8) 3 (S.2.1 (x + 141 + 10 * c + 8) 3 + mo.toInt64) := ⟨_, rfl⟩
    have a12 : q_ag (fun b k => ¬ (b = x + 141 + 10 * c + 8 ∧ k = 3)) S1 S2 := by rw [hS2]; exact q_ag_J (q_ag_refl _ S1) (by omega)
    have i12 : S2.1 = S1.1 := by rw [hS2]; rfl
    have r12 : S2.2.2 = S1.2.2 := by rw [hS2]; rfl
    have a02 : q_ag (fun b k => ¬ (x + 141 + 10 * c + 2 ≤ b ∧ b < x + 141 + 10 * c + 2 + n) ∧ ¬ (b = x + 141 + 10 * c ∧ k = 5) ∧ ¬ (b = x + 141 + 10 * c + 8 ∧ k = 3)) S S2 := q_ag_trans (q_ag_sub o3 (fun b k hb => by omega)) (q_ag_sub a12 (fun b k hb => by omega))
    obtain ⟨cnt', hcnt'⟩ : ∃ y : Nat → Nat, y = fun i => if i = c then n - 1 else cnt i := ⟨_, rfl⟩
    have cc : cnt' c = n - 1 := by rw [hcnt']; exact if_pos rfl
    have co : ∀ i, i ≠ c → cnt' i = cnt i := fun i hi => by rw [hcnt']; exact if_neg hi
    have rS2 : q_RS S2.2.2 x 0 341 := q_RS_R h0.rs (fun j k' hj hne => by
      rw [r12]
      refine o3r (x + j) k' (fun e => hne ?_)
      rw [show j = 143 + 10 * c + (j - 143 - 10 * c) by omega]; exact q_kcas (by omega) (by omega))
    refine q_JW_ok (T0 := T0) (S' := S2) (T' := T2) (pb := pb) (ns := ns) (nk := nk) (nc := nc) (a := mo) (b := mo) (q_ag_sub a02 (fun b k hb => by omega)) f0 (q_ag_trans f1 (q_ag_sub u3 (fun b k hb => by omega))) ?_ z2 ?_ ?_ rfl
    · refine q_Rel_main h1 (Nat.le_succ _) (q_ag_sub a02 (fun b k hb => by omega)) rS2 (q_ag_sub u3 (fun b k hb => by omega)) (fun q hq h1' h2 h3 => ?_) ?_
      · rw [(u3 _ _ ⟨by omega, by omega, by omega⟩).2.2]; exact h1.rt q hq h1' h2 h3
      · rw [show T1.1 (m + 1) = T0.1 (m + 1) from funext fun j => fa _ _ (by omega)]
        refine ⟨cnt', t, t9, fun i hi => ?_, ?_, ?_, ⟨?_, ?_⟩, ?_, ?_, ?_, ?_, fun i hi => ?_⟩
        · by_cases e : i = c
          · subst e; rw [cc]; omega
          · rw [co i e]; exact c5 i hi
        · rw [(aT _ _ (by omega)).1]; exact hg
        · refine q_ser_map hser (Nat.le_succ _) (aT _ _ (by omega)).1 (fun i _ => i) (fun i j => if i = c then (if j < k then j else j + 1) else j) (fun i j hi hj => ?_) (fun i j i' j' hi hj hi' hj' e1 e2 => ?_)
          · by_cases e : i = c
            · subst e
              rw [cc] at hj
              rw [if_pos rfl]
              refine ⟨hi, ?_, ?_⟩
              · rw [← hn]; split <;> omega
              · have := u5' j 0 hj (by omega)
                exact this
            · rw [co i e] at hj
              rw [if_neg e]
              have := c5 i hi
              exact ⟨hi, hj, (aT _ _ (by omega)).1⟩
          · refine ⟨e1, ?_⟩
            subst e1
            by_cases e : i = c
            · rw [if_pos e, if_pos e] at e2
              split at e2 <;> split at e2 <;> omega
            · rw [if_neg e, if_neg e] at e2; exact e2
        · rw [(a02 _ _ (by omega)).1]; exact hst.1.1
        · rw [(aT _ _ (by omega)).1]; exact hst.1.2
        · rw [(a02 _ _ (by omega)).1, (aT _ _ (by omega)).1]; exact hst.2.1
        · rw [(a02 _ _ (by omega)).1, (aT _ _ (by omega)).1]; exact hst.2.2.1
        · rw [(a02 _ _ (by omega)).1, (aT _ _ (by omega)).1]; exact hst.2.2.2.1
        · rw [(a02 _ _ (by omega)).1]; exact hst.2.2.2.2.1
        · by_cases e : i = c
          · subst e
            rw [cc, show x + 137 + 4 + 10 * i = x + 141 + 10 * i by omega]
            obtain ⟨w1, w2⟩ := q_cs_del (S' := S2) (a' := T2.1 (m + 3)) v1 v2 hk (q_ag_sub a02 (fun b k hb => by omega)) (by rw [i12]; exact o2) (fun j hj => ⟨fun w hw hw1 => by rw [i12]; exact (o4 j hj).1 w hw hw1, by rw [r12]; exact (o4 j hj).2⟩) (fun j j1 j2 => (aT _ _ (by omega)).1) u2 (fun j w hj hw => u5' j w hj hw)
            obtain ⟨l0, l1, l2, l3, l7⟩ := hcs.2.2.1
            refine ⟨w1, w2, q_log_J hcs.2.2 (fun j _ => (a02 _ _ (by omega)).1) (fun j _ => (a02 _ _ (by omega)).1) (fun j j1 j2 j3 => (aT _ _ (by omega)).1) ?_ ?_ ?_ ?_ ?_⟩
            · rw [(a02 _ _ (by omega)).2.1, (aT _ _ (by omega)).2.1]; exact l0
            · rw [(a02 _ _ (by omega)).2.1, (aT _ _ (by omega)).2.1]; exact l1
            · rw [(a02 _ _ (by omega)).2.1, (aT _ _ (by omega)).2.1]; exact l2
            · rw [u4, hS2, ← l3]; exact pJ_same _ _ _ _
            · rw [(a02 _ _ (by omega)).2.1, (aT _ _ (by omega)).2.1]; exact l7
          · rw [co i e]
            exact q_cs_ag (hst.2.2.2.2.2 i hi) (q_ag_sub a02 (fun b k hb => by omega)) (fun j j1 j2 => (aT _ _ (by omega)).1) (fun j j1 j2 => (aT _ _ (by omega)).2.1)
    · unfold f_X8_remove
      rw [m_gd_t h.ox, g1, m_btw_s, g_vitAt h hc, m_btw_s, m_gd_t hV.1, g2, m_b1_s, g_moOf hV (by omega), smo, m_b1_s, o1, m_bw_s]
      have rS1 : q_RS S1.2.2 x 0 341 := by rw [← r12]; exact rS2
      rw [g_logAt2 h rS1 (by rw [(o3 _ _ (by omega)).2.2]; exact h.r1) (by rw [(o3 _ _ (by omega)).1]; exact h.c8) hc, m_btw_s, m_gd_t hL.1, (o3 _ _ (by omega)).2.1, m_lt_s, ← hS2]
    · unfold f_X9_remove
      rw [m_gd_t hM.o, m_lt_s, e0, r1, m_bw_s, e_may1 hM.o z10 z1, m_bw_s, if_neg z10, r23, r24, u1, m_bw_s]
  · refine q_JW_er h1 (q_ag_trans f0 f1) (s := "java/util/NoSuchElementException") (b := 0) (k := 1) ?_ ?_ (by simp)
    · unfold f_X8_remove
      rw [m_gd_t h.ox, g1, m_btw_e]
    · unfold f_X9_remove
      rw [m_gd_t hM.o, m_lt_s, e0, r1, m_bw_s, e_may0 hM.o z1 z10, m_bw_s, if_pos z00]
end REM
