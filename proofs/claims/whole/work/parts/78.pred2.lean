section PRED
variable {Z : m_Z} {x m N pb ns nk nc : Nat} {S T : m_S}
theorem q_kcas3 {k : Nat} (hk : k < 6) : q_k (206 + k) = 0 := by
  have : (List.range 6).all (fun k => decide (q_k (206 + k) = 0)) = true := by decide +kernel
  have := List.all_eq_true.mp this k (List.mem_range.mpr hk)
  simpa using this
theorem q_RS_tr {R R' : Nat → Nat → Option Nat} (h : q_RS R x 0 341) (e : ∀ b j, ¬ (x + 206 ≤ b ∧ b < x + 212) → R' b j = R b j) : q_RS R' x 0 341 := q_RS_R h (fun j k hj hne => e _ _ (fun q => hne (by rw [show j = 206 + (j - 206) by omega]; exact q_kcas3 (by omega))))
theorem q_tri_0 (h : q_Rel Z x m N pb ns nk nc S T) {c t : Nat} {S' T1 : m_S} {cnt : Nat → Nat} (hst : q_state (pb + 6) nk nc cnt S (x + 137) (T.1 (m + 1)) (T.1 (m + 3)) (T.2.1 (m + 7)) t) (hc : c < nc) (H1 : ∀ k, k < 3 → S'.1 (x + 203) k = S.1 (x + 138) k) (H2 : ∀ k, k < 6 → S'.1 (x + 204) k = S.1 (x + 141 + 10 * c) k) (H3 : ∀ i, i < cnt c → (∀ k, k < 4 → k ≠ 1 → S'.1 (x + 204 + 2 + i) k = S.1 (x + 141 + 10 * c + 2 + i) k) ∧ S'.2.2 (x + 204 + 2 + i) 1 = S.2.2 (x + 141 + 10 * c + 2 + i) 1) (H4 : q_ag (fun b _ => ¬ (x + 203 ≤ b ∧ b < x + 212)) S S') (H5 : q_RS S'.2.2 x 0 341) (h1 : q_ag (fun b k => b ≠ m + 4 ∧ b ≠ m + 8) T T1) (h1r : T1.2.2 = T.2.2) : q_tri Z pb ns nk nc (cnt c) c x m t S' T1 := by
  have hpb := h.pbr
  have pT : T1.1 (m + 1) = T.1 (m + 1) := funext fun k => (h1 _ _ (by omega)).1
  have aT : T1.1 (m + 3) = T.1 (m + 3) := funext fun k => (h1 _ _ (by omega)).1
  have hcs := hst.2.2.2.2.2 c hc
  rw [show x + 137 + 4 + 10 * c = x + 141 + 10 * c by omega] at hcs
  refine ⟨by rw [h1r]; exact h.M, q_V_of h.zl H5 (by decide +kernel), ?_, ?_, ⟨⟨?_, ?_⟩, ?_, ?_⟩, ?_, ?_⟩
  · rw [pT]; exact q_set9_ag h.s9 (q_ag_sub H4 (fun b k hb => by omega)) (fun _ _ => rfl)
  · rw [pT]; exact q_Ks_ag h.ks (q_ag_sub H4 (fun b k hb => by omega))
  · rw [H1 0 (by omega)]; exact hst.1.1
  · rw [aT]; exact hst.1.2
  · rw [H1 1 (by omega), aT]; exact hst.2.1
  · rw [H1 2 (by omega), aT]; exact hst.2.2.1
  · rw [pT, aT]; exact q_vit_cp hcs.1 H2 H3 (fun _ _ _ => rfl)
  · rw [pT, aT]; exact hcs.2.1
theorem J_roomIn (h : q_Rel Z x m N pb ns nk nc S T) (p : Int32) : q_JW Z x m (N + 1) [("java/lang/IllegalArgumentException", 1)] (fun a b => a = b) S T (f_X8_roomIn Z S x p) (f_X9_roomIn Z T m p) := by
  obtain ⟨T0, e0, z0, f0, h0⟩ := q_zero h
  have hM := h0.M
  have hm := h0.em
  have hpb := h0.pbr
  obtain ⟨cnt, t, t9, c5, hg, hser, hst⟩ := h0.sta
  by_cases c1 : 1 ≤ p ∧ p ≤ 2000
  · obtain ⟨H, rfl, H1, H2⟩ := q_nat (n := 2000) (by omega) c1
    obtain ⟨S1, g1, s1, s2, s3⟩ := g_copyR (S := S) (r := x + 203) (s := x + 138) h0.o203 h0.o138 (by omega)
    obtain ⟨T1, r1, r2⟩ := e_aside hM
    have hM1 : q_M Z T1.2.2 m := by rw [r2.2.2.2]; exact hM
    have pT : T1.1 (m + 1) = T0.1 (m + 1) := funext fun k => (r2.2.2.1 _ _ (by omega)).1
    have aT : T1.1 (m + 3) = T0.1 (m + 3) := funext fun k => (r2.2.2.1 _ _ (by omega)).1
    obtain ⟨S2, T2, w, v1, v2, v3, -, v5, v6, v7⟩ := q_room_loop (Z := Z) (pb := pb) (ns := ns) (nk := nk) (nc := nc) (x := x) (m := m) (t := t) (H := H) h0.o203 (by omega) H2 t9 H 0 100000 100000 (by omega) (by omega) (by omega) S1 T1 0 0 hM1 (by rw [pT]; exact q_set9_ag h0.s9 (fun b k hb => ⟨s2 b k (by omega), by rw [s3], by rw [s3]⟩) (fun _ _ => rfl)) ⟨⟨by rw [s1 0 (by omega)]; exact hst.1.1, by rw [aT]; exact hst.1.2⟩, by rw [s1 1 (by omega), aT]; exact hst.2.1, by rw [s1 2 (by omega), aT]; exact hst.2.2.1⟩ (by rw [s3]; exact h.r6) (by rw [s3]; exact h.r1)
    have hM2 : q_M Z T2.2.2 m := by rw [v3.2.2]; exact hM1
    obtain ⟨T3, r3, r4⟩ := e_back hM2
    obtain ⟨w1, w2, w3, w4⟩ := q_pr_T r2 (q_fH_cut v3) v3.2.2 r4
    have a02 : q_ag (fun b k => b ≠ x + 203) S S2 := fun b k hb => ⟨(v1 b k hb).trans (s2 b k hb), by rw [v2, s3], by rw [v2, s3]⟩
    have e25 : w = T3.1 m 25 := by rw [(r4.2.2.1 _ _ (by omega)).1]; exact v5 (by omega)
    refine q_JW_ok (T0 := T0) (S' := S2) (T' := T3) (pb := pb) (ns := ns) (nk := nk) (nc := nc) (a := w) (b := T3.1 m 25) (q_ag_sub a02 (fun b k hb => by omega)) f0 (q_ag_sub w3 (fun b k hb => by omega)) ?_ ?_ ?_ ?_ e25
    · exact q_Rel_pr h0 (Nat.le_succ _) (q_ag_sub a02 (fun b k hb => by omega)) (by rw [v2, s3]; exact h0.rs) (q_ag_sub w3 (fun b k hb => by omega)) (by rw [w4]; exact h0.rt) w1 w2
    · rw [(w3 _ _ (by omega)).1]; exact z0
    · unfold f_X8_roomIn
      rw [m_gd_t h.ox, g_reqHours, if_pos c1, m_btw_s, h.r6, m_b1_s, h.r3, m_b1_s, m_gd_t h.o137, h.r137, m_b1_s, m_gd_t h.o203, g1, m_bw_s, m_jp_s]
      exact v6 _
    · have v7' := v7 (fun (v1 : Int32) (S2 : m_S) => some (v1, S2))
      unfold f_X9_roomIn
      rw [m_gd_t hM.o, m_lt_s, e0, e_isIn, m_b1_s, e_may hM.o z0 z10, if_pos c1, if_pos z10, r1, m_bw_s]
      unfold f_X9_hours
      rw [m_jp_s]
      rw [show m_fx (F_X9_hours_6 Z m (Int32.ofNat H) 0 (-1) (fun (v1 : Int32) (S2 : m_S) => some (v1, S2))) 100000 ((0 : Int32), (0 : Int32), T1) = some (0, T2) from v7', m_bw_s, r3, m_bw_s, if_pos (Int32.le_refl _)]
  · refine q_JW_er h0 f0 (s := "java/lang/IllegalArgumentException") (b := 0) (k := 1) ?_ ?_ (by simp)
    · unfold f_X8_roomIn
      rw [m_gd_t h.ox, g_reqHours, if_neg c1, m_btw_e]
    · unfold f_X9_roomIn
      rw [m_gd_t hM.o, m_lt_s, e0, e_isIn, m_b1_s, e_may hM.o z0 z10, if_neg c1, if_neg nz0]
theorem J_humidityIn (h : q_Rel Z x m N pb ns nk nc S T) (p q : Int32) : q_JW Z x m (N + 1) [("java/lang/IndexOutOfBoundsException", 1), ("java/lang/IllegalArgumentException", 2)] (fun a b => a = b) S T (f_X8_humidityIn Z S x p q) (f_X9_humidityIn Z T m p q) := by
  obtain ⟨T0, e0, z0, f0, h0⟩ := q_zero h
  have hM := h0.M
  have hm := h0.em
  have h6 := h0.nc6
  have hpb := h0.pbr
  obtain ⟨cnt, t, t9, c5, hg, hser, hst⟩ := h0.sta
  rcases q_cdec h0.cs p with ⟨c, hc, rfl⟩ | hp
  · have hcs := hst.2.2.2.2.2 c hc
    have hV := (h0.st.2.2.2.2 c (by omega)).2.2.1
    have hn5 := c5 c hc
    rw [show x + 137 + 4 + 10 * c = x + 141 + 10 * c by omega] at hcs hV
    by_cases c1 : 0 ≤ q ∧ q ≤ 2000
    · obtain ⟨H, rfl, H2⟩ := q_nat0 (n := 2000) (by omega) c1
      obtain ⟨S1, g1, s1, s2, s3⟩ := g_copyR (S := S) (r := x + 203) (s := x + 138) h0.o203 h0.o138 (by omega)
      obtain ⟨S2, g2, p1, p2, p3, p4, p5⟩ := g_copyV (S := S1) (v := x + 204) (w := x + 141 + 10 * c) (n := cnt c) (by rw [s3]; exact h0.tr) (by rw [s3]; exact hV) (by rw [s2 _ _ (by omega)]; exact hcs.1.2.2.2.2.2.1) hcs.2.1.2.2.2.1 (by omega) (by rw [s3]; exact q_kind_ex hcs.1)
      have H4 : q_ag (fun b _ => ¬ (x + 203 ≤ b ∧ b < x + 212)) S S2 := fun b k hb => ⟨((p3 b k (by omega)).1).trans (s2 b k (by omega)), by rw [p5, s3], by rw [p4 b k (by omega), s3]⟩
      have H5 : q_RS S2.2.2 x 0 341 := q_RS_tr h0.rs (fun b j hb => by rw [p4 b j (by omega), s3])
      obtain ⟨T1, r1, r2⟩ := e_aside hM
      have htri := q_tri_0 h0 (S' := S2) (T1 := T1) hst hc (fun k hk => by rw [(p3 _ _ (by omega)).1]; exact s1 k hk) (fun k hk => by rw [p1 k hk]; exact s2 _ _ (by omega)) (fun i hi => ⟨fun k hk hk1 => by rw [(p2 i hi).1 k hk hk1]; exact s2 _ _ (by omega), by rw [(p2 i hi).2, s3]⟩) H4 H5 (q_ag_sub r2.2.2.1 (fun b k hb => by omega)) r2.2.2.2
      have rx : ∀ j, S2.2.2 x j = S.2.2 x j := fun j => (H4 x j (by omega)).2.2
      obtain ⟨S3, T2, u, v1, v2, v3, v4, v5, v6⟩ := q_hin_loop (Z := Z) (pb := pb) (ns := ns) (nk := nk) (nc := nc) (n := cnt c) (c := c) (x := x) (m := m) (t := t) (H := H) hpb h0.o203 h0.o204 (by omega) H2 t9 H 0 100000 100000 (by omega) (by omega) (by omega) S2 T1 0 htri (by rw [rx]; exact h.r7) (by rw [rx]; exact h.r6) (by rw [rx]; exact h.r1)
      obtain ⟨hM2, hV2, hs2, hK2, hr2, hv2, hw2⟩ := v1
      obtain ⟨T3, r3, r4⟩ := e_back hM2
      obtain ⟨w1, w2, w3, w4⟩ := q_pr_T r2 (q_fH_cut v4) v4.2.2 r4
      have a03 : q_ag (fun b k => ¬ (x + 203 ≤ b ∧ b < x + 212)) S S3 := fun b k hb => ⟨(v2 b k hb).trans (H4 b k hb).1, by rw [v3]; exact (H4 b k hb).2.1, by rw [v3]; exact (H4 b k hb).2.2⟩
      have rS3 : q_RS S3.2.2 x 0 341 := by rw [v3]; exact H5
      have gh := g_hum (S := S3) (v := x + 204) h0.o204 (by rw [hv2.1]; exact hw2.1.1)
      have eh := e_hum (S := T2) hM2 (c := c) (by omega) hw2.1.1 hw2.1.2 hw2.2.2.1.1 hw2.2.2.1.2
      rw [hv2.1, hv2.2.2.2.2.1] at gh
      refine q_JW_ok (T0 := T0) (S' := S3) (T' := T3) (pb := pb) (ns := ns) (nk := nk) (nc := nc) (a := ((1000 : Int32) * T2.1 (m + 3) (7 + 56 * c)) / T2.1 (m + 1) (110 + c)) (b := ((1000 : Int32) * T2.1 (m + 3) (7 + 56 * c)) / T2.1 (m + 1) (110 + c)) (q_ag_sub a03 (fun b k hb => by omega)) f0 (q_ag_sub w3 (fun b k hb => by omega)) ?_ ?_ ?_ ?_ rfl
      · exact q_Rel_pr h0 (Nat.le_succ _) (q_ag_sub a03 (fun b k hb => by omega)) rS3 (q_ag_sub w3 (fun b k hb => by omega)) (by rw [w4]; exact h0.rt) w1 w2
      · rw [(w3 _ _ (by omega)).1]; exact z0
      · have rx3 : S3.2.2 x 7 = some (x + 204) := by rw [v3, rx]; exact h.r7
        unfold f_X8_humidityIn
        rw [m_gd_t h.ox, g_vitAt h hc, m_btw_s, g_reqHours, if_pos c1, m_btw_s, h.r6, m_b1_s, h.r3, m_b1_s, m_gd_t h.o137, h.r137, m_b1_s, m_gd_t h.o203, g1, m_bw_s, s3, h.r7, m_b1_s, m_gd_t h.o204, g2, m_bw_s, m_jp_s]
        refine (v5 _).trans ?_
        rw [rx3, m_b1_s, m_gd_t h.o204, gh, m_b1_s]
      · have v6' := v6 (fun (v1 : Int32) (S2 : m_S) => some (v1, S2))
        unfold f_X9_humidityIn
        rw [m_gd_t hM.o, m_lt_s, e0, e_isCase hM h0.n5 h0.cs, m_b1_s, e_may hM.o z0 z10, if_pos (q_yes hc (by omega)), if_neg z10, e_isIn, m_b1_s, e_may hM.o z0 z20, if_pos c1, if_pos z10, r1, m_bw_s]
        unfold f_X9_hours
        rw [m_jp_s]
        rw [show m_fx (F_X9_hours_6 Z m (Int32.ofNat H) (Int32.ofNat c) (Int32.ofNat c) (fun (v1 : Int32) (S2 : m_S) => some (v1, S2))) 100000 ((0 : Int32), (0 : Int32), T1) = some (u, T2) from v6', m_bw_s, eh, m_b1_s, r3, m_bw_s]
    · refine q_JW_er h0 f0 (s := "java/lang/IllegalArgumentException") (b := 0) (k := 2) ?_ ?_ (by simp)
      · unfold f_X8_humidityIn
        rw [m_gd_t h.ox, g_vitAt h hc, m_btw_s, g_reqHours, if_neg c1, m_btw_e]
      · unfold f_X9_humidityIn
        rw [m_gd_t hM.o, m_lt_s, e0, e_isCase hM h0.n5 h0.cs, m_b1_s, e_may hM.o z0 z10, if_pos (q_yes hc (by omega)), if_neg z10, e_isIn, m_b1_s, e_may hM.o z0 z20, if_neg c1, if_neg nz0]
  · refine q_JW_er h0 f0 (s := "java/lang/IndexOutOfBoundsException") (b := 0) (k := 1) ?_ ?_ (by simp)
    · unfold f_X8_humidityIn
      rw [m_gd_t h.ox, g_vitNo h hp, m_btw_e]
    · unfold f_X9_humidityIn
      rw [m_gd_t hM.o, m_lt_s, e0, e_isCase hM h0.n5 h0.cs, m_b1_s, e_may hM.o z0 z10, if_neg (q_no hp), if_pos z00]
theorem J_unsafeIn (h : q_Rel Z x m N pb ns nk nc S T) (p : Int32) : q_JW Z x m (N + 1) [("java/lang/IndexOutOfBoundsException", 1)] (fun a b => a = b) S T (f_X8_unsafeIn Z S x p) (f_X9_unsafeIn Z T m p) := by
  obtain ⟨T0, e0, z0, f0, h0⟩ := q_zero h
  have hM := h0.M
  have hm := h0.em
  have h6 := h0.nc6
  have hpb := h0.pbr
  obtain ⟨cnt, t, t9, c5, hg, hser, hst⟩ := h0.sta
  rcases q_cdec h0.cs p with ⟨c, hc, rfl⟩ | hp
  · have hcs := hst.2.2.2.2.2 c hc
    have hV := (h0.st.2.2.2.2 c (by omega)).2.2.1
    have hn5 := c5 c hc
    rw [show x + 137 + 4 + 10 * c = x + 141 + 10 * c by omega] at hcs hV
    obtain ⟨S1, g2, p1, p2, p3, p4, p5⟩ := g_copyV (S := S) (v := x + 204) (w := x + 141 + 10 * c) (n := cnt c) h0.tr hV hcs.1.2.2.2.2.2.1 hcs.2.1.2.2.2.1 (by omega) (q_kind_ex hcs.1)
    obtain ⟨S2, g1, s1, s2, s3⟩ := g_copyR (S := S1) (r := x + 203) (s := x + 138) h0.o203 h0.o138 (by omega)
    have H4 : q_ag (fun b _ => ¬ (x + 203 ≤ b ∧ b < x + 212)) S S2 := fun b k hb => ⟨(s2 b k (by omega)).trans ((p3 b k (by omega)).1), by rw [s3, p5], by rw [s3, p4 b k (by omega)]⟩
    have H5 : q_RS S2.2.2 x 0 341 := q_RS_tr h0.rs (fun b j hb => by rw [s3, p4 b j (by omega)])
    obtain ⟨T1, r1, r2⟩ := e_aside hM
    have htri := q_tri_0 h0 (S' := S2) (T1 := T1) hst hc (fun k hk => by rw [s1 k hk]; exact (p3 _ _ (by omega)).1) (fun k hk => by rw [s2 _ _ (by omega)]; exact p1 k hk) (fun i hi => ⟨fun k hk hk1 => by rw [s2 _ _ (by omega)]; exact (p2 i hi).1 k hk hk1, by rw [s3]; exact (p2 i hi).2⟩) H4 H5 (q_ag_sub r2.2.2.1 (fun b k hb => by omega)) r2.2.2.2
    have rx : ∀ j, S2.2.2 x j = S.2.2 x j := fun j => (H4 x j (by omega)).2.2
    obtain ⟨S3, T2, w, v2, v3, v4, v5, v6, v7⟩ := q_uin_loop (Z := Z) (pb := pb) (ns := ns) (nk := nk) (nc := nc) (n := cnt c) (c := c) (x := x) (m := m) (t := t) (j17 := fun (v12 : Int32) (S13 : m_S) => m_bw (f_X9_bringsBack Z S13 m) (fun _u S15 => (if v12 ≤ (2000 : Int32) then some (v12, S15) else some ((-1 : Int32), S15)))) (j21 := fun (S20 : m_S) => some ((.ok (-1 : Int32)), S20)) (j24 := fun (v22 : Int32) (S23 : m_S) => some ((.ok v22), S23)) hpb h0.o203 h0.o204 (by omega) t9 2000 1 100000 100000 (by omega) (by omega) (by omega) S2 T1 (by omega) htri (by rw [rx]; exact h.r7) (by rw [rx]; exact h.r6) (by rw [rx]; exact h.r1)
    have hM2 : q_M Z T2.2.2 m := by rw [v4.2.2, r2.2.2.2]; exact hM
    obtain ⟨T3, r3, r4⟩ := e_back hM2
    obtain ⟨w1, w2, w3, w4⟩ := q_pr_T r2 (q_fH_cut v4) v4.2.2 r4
    have a03 : q_ag (fun b k => ¬ (x + 203 ≤ b ∧ b < x + 212)) S S3 := fun b k hb => ⟨(v2 b k hb).trans (H4 b k hb).1, by rw [v3]; exact (H4 b k hb).2.1, by rw [v3]; exact (H4 b k hb).2.2⟩
    have rS3 : q_RS S3.2.2 x 0 341 := by rw [v3]; exact H5
    have cw : Int32.ofNat w ≤ (2000 : Int32) ↔ w ≤ 2000 := io_le (b := 2000) (by omega) (by omega)
    refine q_JW_ok (T0 := T0) (S' := S3) (T' := T3) (pb := pb) (ns := ns) (nk := nk) (nc := nc) (a := if w ≤ 2000 then Int32.ofNat w else -1) (b := if w ≤ 2000 then Int32.ofNat w else -1) (q_ag_sub a03 (fun b k hb => by omega)) f0 (q_ag_sub w3 (fun b k hb => by omega)) ?_ ?_ ?_ ?_ rfl
    · exact q_Rel_pr h0 (Nat.le_succ _) (q_ag_sub a03 (fun b k hb => by omega)) rS3 (q_ag_sub w3 (fun b k hb => by omega)) (by rw [w4]; exact h0.rt) w1 w2
    · rw [(w3 _ _ (by omega)).1]; exact z0
    · unfold f_X8_unsafeIn
      have rs1 : ∀ j, S1.2.2 x j = S.2.2 x j := fun j => p4 _ _ (by omega)
      rw [m_gd_t h.ox, h.r7, m_b1_s, g_vitAt h hc, m_btw_s, m_gd_t h.o204, g2, m_bw_s, rs1, h.r6, m_b1_s, rs1, h.r3, m_b1_s, m_gd_t h.o137, p4 _ _ (by omega), h.r137, m_b1_s, m_gd_t h.o203, g1, m_bw_s, m_jp_s, m_jp_s]
      refine (show m_fx (F_X8_unsafeIn_28 Z x (fun (S20 : m_S) => some ((.ok (-1 : Int32)), S20)) (fun (v22 : Int32) (S23 : m_S) => some ((.ok v22), S23))) 100000 ((1 : Int32), S2) = _ from v7).trans ?_
      by_cases q : w ≤ 2000
      · rw [if_pos q, if_pos q]
      · rw [if_neg q, if_neg q]
    · unfold f_X9_unsafeIn
      rw [m_gd_t hM.o, m_lt_s, e0, e_isCase hM h0.n5 h0.cs, m_b1_s, e_may hM.o z0 z10, if_pos (q_yes hc (by omega)), if_pos z10, r1, m_bw_s, m_jp_s]
      refine (show m_fx (F_X9_unsafeIn_26 Z m (Int32.ofNat c) _) 100000 ((1 : Int32), T1) = _ from v5).trans ?_
      rw [r3, m_bw_s]
      by_cases q : w ≤ 2000
      · rw [if_pos (cw.mpr q), if_pos q]
      · rw [if_neg (fun z => q (cw.mp z)), if_neg q]
  · refine q_JW_er h0 f0 (s := "java/lang/IndexOutOfBoundsException") (b := 0) (k := 1) ?_ ?_ (by simp)
    · unfold f_X8_unsafeIn
      rw [m_gd_t h.ox, h.r7, m_b1_s, g_vitNo h hp, m_btw_e]
    · unfold f_X9_unsafeIn
      rw [m_gd_t hM.o, m_lt_s, e0, e_isCase hM h0.n5 h0.cs, m_b1_s, e_may hM.o z0 z10, if_neg (q_no hp), if_neg nz0]
end PRED
