theorem q_RS_R {R R' : Nat → Nat → Option Nat} {x : Nat} (h : q_RS R x 0 341) (e : ∀ j k, j < 341 → q_k j ≠ 0 → R' (x + j) k = R (x + j) k) : q_RS R' x 0 341 := by
  intro q hq h1 h2 h3
  have hk : ∀ q ∈ q_rt, q_k q.1 ≠ 0 := by decide +kernel
  rw [e q.1 q.2.1 h2 (hk q hq)]
  exact h q hq h1 h2 h3
theorem q_kcas {c k : Nat} (hc : c < 6) (hk : k < 6) : q_k (143 + 10 * c + k) = 0 := by
  have : (List.range 6).all (fun c => (List.range 6).all (fun k => decide (q_k (143 + 10 * c + k) = 0))) = true := by decide +kernel
  have := List.all_eq_true.mp (List.all_eq_true.mp this c (List.mem_range.mpr hc)) k (List.mem_range.mpr hk)
  simpa using this
theorem q_log_J {l c t : Nat} {S S' : m_S} {a a' : Nat → Int32} {b b' : Nat → Int64} (h : q_log S l a b c t) (hI : ∀ k, 4 ≤ k → k < 7 → S'.1 l k = S.1 l k) (hr : ∀ j, j < 24 → S'.1 (l + 1) j = S.1 (l + 1) j) (ha : ∀ k, 9 + 56 * c ≤ k → k < 12 + 56 * c ∨ 36 + 56 * c ≤ k → k < 60 + 56 * c → a' k = a k) (j0 : S'.2.1 l 0 = b' (5 * c + 1)) (j1 : S'.2.1 l 1 = b' (5 * c + 2)) (j2 : S'.2.1 l 2 = b' (5 * c + 3)) (j3 : S'.2.1 l 3 = b' (5 * c + 4)) (j7 : S'.2.1 l 7 = b' (5 * c)) : q_log S' l a' b' c t := by
  obtain ⟨-, l4, l5, l6, lr⟩ := h
  refine ⟨⟨j0, j1, j2, j3, j7⟩, ?_, ?_, ?_, fun j q1 q2 => ?_⟩
  · rw [hI _ (by omega) (by omega), ha _ (by omega) (by omega) (by omega)]; exact l4
  · rw [hI _ (by omega) (by omega), ha _ (by omega) (by omega) (by omega)]; exact l5
  · rw [hI _ (by omega) (by omega), ha _ (by omega) (by omega) (by omega)]; exact l6
  · rw [hr _ (by omega), ha _ (by omega) (by omega) (by omega)]; exact lr j q1 q2
theorem q_ag_sub {P Q : Nat → Nat → Prop} {U U' : m_S} (h : q_ag Q U U') (hP : ∀ b k, P b k → Q b k) : q_ag P U U' := fun b k hb => h b k (hP b k hb)
section ADD
variable {Z : m_Z} {x m N pb ns nk nc : Nat} {S T : m_S}
theorem J_add (h : q_Rel Z x m N pb ns nk nc S T) (hN : N < 2147483647) (p q mass hum : Int32) : q_JW Z x m (N + 1) [("java/lang/IndexOutOfBoundsException", 1), ("java/lang/IllegalArgumentException", 2), ("java/lang/IllegalStateException", 3)] (fun a b => a = b) S T (f_X8_add Z S x p q mass hum) (f_X9_add Z T m p q mass hum) := by
  obtain ⟨T0, e0, z0, f0, h0⟩ := q_zero h
  have hM := h0.M
  have hm := h0.em
  have h6 := h0.nc6
  have h4 := h0.nk4
  have hpb := h0.pbr
  obtain ⟨cnt, t, t9, c5, hg, hser, hst⟩ := h0.sta
  have k9 : (999 : Int32).toInt = 999 := rfl
  have noIdx : (f_X8_add Z S x p q mass hum = some (.error "java/lang/IndexOutOfBoundsException", S)) → (f_X9_add Z T m p q mass hum = some (0, m_pI T0 m 0 1)) → q_JW Z x m (N + 1) [("java/lang/IndexOutOfBoundsException", 1), ("java/lang/IllegalArgumentException", 2), ("java/lang/IllegalStateException", 3)] (fun a b => a = b) S T (f_X8_add Z S x p q mass hum) (f_X9_add Z T m p q mass hum) := fun e1 e2 => q_JW_er h0 f0 (b := 0) (k := 1) e1 e2 (by simp)
  have noArg : (f_X8_add Z S x p q mass hum = some (.error "java/lang/IllegalArgumentException", S)) → (f_X9_add Z T m p q mass hum = some (0, m_pI T0 m 0 2)) → q_JW Z x m (N + 1) [("java/lang/IndexOutOfBoundsException", 1), ("java/lang/IllegalArgumentException", 2), ("java/lang/IllegalStateException", 3)] (fun a b => a = b) S T (f_X8_add Z S x p q mass hum) (f_X9_add Z T m p q mass hum) := fun e1 e2 => q_JW_er h0 f0 (b := 0) (k := 2) e1 e2 (by simp)
  rcases q_cdec h0.cs p with ⟨c, hc, rfl⟩ | hp
  · have hcs := hst.2.2.2.2.2 c hc
    have hV := (h0.st.2.2.2.2 c (by omega)).2.2.1
    have hL := (h0.st.2.2.2.2 c (by omega)).2.2.2
    rw [show x + 137 + 4 + 10 * c = x + 141 + 10 * c by omega] at hcs hV hL
    have hn5 := c5 c hc
    obtain ⟨n, hn⟩ : ∃ n, n = cnt c := ⟨_, rfl⟩
    have sn : S.1 (x + 141 + 10 * c) 5 = Int32.ofNat n := by rw [hn]; exact hcs.1.2.2.2.2.2.1
    have tn : T0.1 (m + 3) (8 + 56 * c) = Int32.ofNat n := by rw [hn]; exact hcs.1.2.2.2.2.2.2.1
    rcases q_cdec (n := nk) (by omega) q with ⟨k, hk, rfl⟩ | hq
    · obtain ⟨k1, k2, k3⟩ := h0.ks.2 k hk
      by_cases c1 : 1 ≤ mass ∧ mass ≤ 999
      · by_cases c2 : 0 ≤ hum ∧ hum ≤ 1000
        · have eN : f_X9_of Z T0 m (Int32.ofNat c) 4 = some (Int32.ofNat n) := by
            rw [e_of (wi := 4) hM (w := 4) rfl (by omega) (by omega), show 4 + 56 * c + 4 = 8 + 56 * c by omega, tn]
          by_cases c3 : n < 5
          · have c1' := c1
            rw [t_le, t_le, i32_1, k9] at c1'
            obtain ⟨mo, hmo⟩ : ∃ y, y = q_mp (T0.1 (m + 1)) k mass hum := ⟨_, rfl⟩
            have mb := q_mp_t k3 c1'.1 c1'.2 hum
            rw [← hmo] at mb
            obtain ⟨sr, hsr⟩ : ∃ y, y = T0.1 (m + 3) 3 := ⟨_, rfl⟩
            have s1 : S.1 (x + 137) 1 = sr := by rw [hsr]; exact hst.2.2.2.1
            obtain ⟨S1, hS1⟩ : ∃ y, y = q_put S (x + 141 + 10 * c) n (pb + 6 + 3 * k) sr mass mo := ⟨_, rfl⟩
            have aP := q_put_ag S (x + 141 + 10 * c) n (pb + 6 + 3 * k) sr mass mo
            have cP := q_put_c (S := S) (v := x + 141 + 10 * c) (n := n) (kd := pb + 6 + 3 * k) (s := sr) (mass := mass) (mo := mo)
            rw [← hS1] at aP cP
            obtain ⟨S2, hS2⟩ : ∃ y, y = m_pI (m_pJ S1 (x + 141 + 10 * c + 8) 2 (S.2.1 (x + 141 + 10 * c + 8) 2 + mo.toInt64)) (x + 137) 1 (sr + 1) := ⟨_, rfl⟩
            have a12 : q_ag (fun b k => ¬ (b = x + 141 + 10 * c + 8 ∧ k = 2) ∧ ¬ (b = x + 137 ∧ k = 1)) S1 S2 := by
              rw [hS2]; exact q_ag_I (q_ag_J (q_ag_refl _ S1) (by omega)) (by omega)
            have a02 : q_ag (fun b k => ¬ (b = x + 141 + 10 * c + 2 + n) ∧ ¬ (b = x + 141 + 10 * c ∧ k = 5) ∧ ¬ (b = x + 141 + 10 * c + 8 ∧ k = 2) ∧ ¬ (b = x + 137 ∧ k = 1)) S S2 := q_ag_trans (q_ag_sub aP (fun b k hb => by omega)) (q_ag_sub a12 (fun b k hb => by omega))
            have r02 : S2.2.2 = (m_pR S (x + 141 + 10 * c + 2 + n) 1 (some (pb + 6 + 3 * k))).2.2 := by rw [hS2, hS1]; rfl
            obtain ⟨T1, hT1⟩ : ∃ y, y = m_pI T0 (m + 3) 3 (sr + 1) := ⟨_, rfl⟩
            have hM1 : q_M Z T1.2.2 m := by rw [hT1]; exact hM
            obtain ⟨T2, hT2⟩ : ∃ y, y = m_pJ (q_pc m c n (m_pI T1 (m + 3) (8 + 56 * c) (Int32.ofNat (n + 1))) sr (Int32.ofNat k) mass mo) (m + 7) (5 * c + 3) (T1.2.1 (m + 7) (5 * c + 3) + mo.toInt64) := ⟨_, rfl⟩
            have cT := q_pc_c (m := m) (c := c) (k := n) (T := m_pI T1 (m + 3) (8 + 56 * c) (Int32.ofNat (n + 1))) (s := sr) (kd := Int32.ofNat k) (mass := mass) (mo := mo)
            have pcag := q_pc_ag m c n (m_pI T1 (m + 3) (8 + 56 * c) (Int32.ofNat (n + 1))) sr (Int32.ofNat k) mass mo
            have aT : q_ag (fun b j => ¬ (b = m + 3 ∧ (j = 3 ∨ j = 8 + 56 * c ∨ (12 + 56 * c + 4 * n ≤ j ∧ j < 16 + 56 * c + 4 * n))) ∧ ¬ (b = m + 7 ∧ j = 5 * c + 3)) T0 T2 := by
              rw [hT2]
              refine q_ag_J (q_ag_trans ?_ (q_ag_sub pcag (fun b j hb => by omega))) (by omega)
              refine q_ag_I ?_ (by omega)
              rw [hT1]; exact q_ag_I (q_ag_refl _ _) (by omega)
            have cT2 : T2.1 (m + 3) (12 + 56 * c + 4 * n) = sr ∧ T2.1 (m + 3) (12 + 56 * c + 4 * n + 1) = Int32.ofNat k ∧ T2.1 (m + 3) (12 + 56 * c + 4 * n + 2) = mass ∧ T2.1 (m + 3) (12 + 56 * c + 4 * n + 3) = mo := by rw [hT2]; exact cT
            have t8 : T2.1 (m + 3) (8 + 56 * c) = Int32.ofNat (n + 1) := by
              rw [hT2]
              exact (pcag (m + 3) (8 + 56 * c) (by omega)).1.trans (pI_same _ _ _ _)
            have t3 : T2.1 (m + 3) 3 = sr + 1 := by
              rw [hT2]
              refine (pcag (m + 3) 3 (by omega)).1.trans ?_
              rw [pI_ne (by omega), hT1, pI_same]
            have tj : T2.2.1 (m + 7) (5 * c + 3) = T0.2.1 (m + 7) (5 * c + 3) + mo.toInt64 := by
              rw [hT2, pJ_same, hT1]; rfl
            obtain ⟨cnt', hcnt'⟩ : ∃ y : Nat → Nat, y = fun i => if i = c then n + 1 else cnt i := ⟨_, rfl⟩
            have cc : cnt' c = n + 1 := by rw [hcnt']; exact if_pos rfl
            have co : ∀ i, i ≠ c → cnt' i = cnt i := fun i hi => by rw [hcnt']; exact if_neg hi
            have rS2 : q_RS S2.2.2 x 0 341 := q_RS_R h0.rs (fun j k' hj hne => by
              rw [r02]
              refine pR_ne (fun e => hne ?_)
              rw [show j = 143 + 10 * c + n by omega]; exact q_kcas (by omega) (by omega))
            refine q_JW_ok (T0 := T0) (S' := S2) (T' := T2) (pb := pb) (ns := ns) (nk := nk) (nc := nc) (a := sr) (b := sr) (q_ag_sub a02 (fun b k hb => by omega)) f0 (q_ag_sub aT (fun b k hb => by omega)) ?_ ?_ ?_ ?_ rfl
            · refine q_Rel_main h0 (Nat.le_succ _) (q_ag_sub a02 (fun b k hb => by omega)) rS2 (q_ag_sub aT (fun b k hb => by omega)) (fun q hq h1 h2 h3 => ?_) ⟨cnt', t, t9, fun i hi => ?_, ?_, ?_, ⟨?_, ?_⟩, ?_, ?_, ?_, ?_, fun i hi => ?_⟩
              · have : T2.2.2 = T0.2.2 := by rw [hT2, hT1]; rfl
                rw [this]; exact h0.rt q hq h1 h2 h3
              · by_cases e : i = c
                · subst e; rw [cc]; omega
                · rw [co i e]; exact c5 i hi
              · rw [(aT _ _ (by omega)).1]; exact hg
              · refine q_ser_new (c0 := c) (k0 := n) hser hN (by rw [t3, hsr]) (by rw [cT2.1, hsr]) (fun i j hi hj hne => ?_)
                have hj' : j < cnt i := by
                  by_cases e : i = c
                  · subst e; rw [cc] at hj; omega
                  · rw [co i e] at hj; exact hj
                have := c5 i hi
                exact ⟨hj', (aT _ _ (by omega)).1⟩
              · rw [(a02 _ _ (by omega)).1]; exact hst.1.1
              · rw [(aT _ _ (by omega)).1]; exact hst.1.2
              · rw [(a02 _ _ (by omega)).1, (aT _ _ (by omega)).1]; exact hst.2.1
              · rw [(a02 _ _ (by omega)).1, (aT _ _ (by omega)).1]; exact hst.2.2.1
              · rw [t3, hS2]; exact pI_same _ _ _ _
              · rw [(a02 _ _ (by omega)).1]; exact hst.2.2.2.2.1
              · by_cases e : i = c
                · subst e
                  rw [cc, show x + 137 + 4 + 10 * i = x + 141 + 10 * i by omega]
                  have v1 := hcs.1
                  have v2 := hcs.2.1
                  rw [← hn] at v1 v2
                  obtain ⟨w1, w2⟩ := q_cs_app (S' := S2) (a' := T2.1 (m + 3)) v1 v2 (by omega) hk h4 (q_ag_sub a02 (fun b k hb => by omega)) (by rw [(a12 _ _ (by omega)).1]; exact cP.1) (fun j j1 j2 j3 j4 => (aT _ _ (by omega)).1) t8
                    (by rw [cT2.1, (a12 _ _ (by omega)).1]; exact cP.2.1) cT2.2.1 (by rw [(a12 _ _ (by omega)).2.2]; exact cP.2.2.1) (by rw [cT2.2.2.1, (a12 _ _ (by omega)).1]; exact cP.2.2.2.1) (by rw [cT2.2.2.2, (a12 _ _ (by omega)).1]; exact cP.2.2.2.2) (by rw [cT2.2.2.1]; exact c1') (by rw [cT2.2.2.1, cT2.2.2.2]; exact ⟨mb.1, mb.2.2.1⟩)
                  obtain ⟨l0, l1, l2, l3, l7⟩ := hcs.2.2.1
                  refine ⟨w1, w2, q_log_J hcs.2.2 (fun j _ _ => (a02 _ _ (by omega)).1) (fun j _ => (a02 _ _ (by omega)).1) (fun j j1 j2 j3 => (aT _ _ (by omega)).1) ?_ ?_ ?_ ?_ ?_⟩
                  · rw [(a02 _ _ (by omega)).2.1, (aT _ _ (by omega)).2.1]; exact l0
                  · rw [(a02 _ _ (by omega)).2.1, (aT _ _ (by omega)).2.1]; exact l1
                  · rw [tj, hS2, ← l2]; exact pJ_same _ _ _ _
                  · rw [(a02 _ _ (by omega)).2.1, (aT _ _ (by omega)).2.1]; exact l3
                  · rw [(a02 _ _ (by omega)).2.1, (aT _ _ (by omega)).2.1]; exact l7
                · rw [co i e]
                  exact q_cs_ag (hst.2.2.2.2.2 i hi) (q_ag_sub a02 (fun b k hb => by omega)) (fun j j1 j2 => (aT _ _ (by omega)).1) (fun j j1 j2 => (aT _ _ (by omega)).2.1)
            · rw [(aT _ _ (by omega)).1]; exact z0
            · unfold f_X8_add
              rw [m_gd_t h.ox, g_vitAt h hc, m_btw_s, g_kindAt h hk, m_btw_s, if_neg (Int32.not_lt.mpr c1.1), if_pos c1.2, g_reqHum, if_pos c2, m_btw_s, m_gd_t hV.1, g_full hV sn (by omega), m_b1_s, if_pos c3, if_pos z00, m_gd_t k1.1, g_would k1 k2 k3, ← hmo, m_b1_s, h.r3, m_b1_s, m_gd_t h.o137, s1, g_put hV sn (by omega), m_bw_s, ← hS1]
              have rS1 : q_RS S1.2.2 x 0 341 := by
                have e : S1.2.2 = S2.2.2 := by rw [hS2]; rfl
                rw [e]; exact rS2
              have j2 : S1.2.1 (x + 141 + 10 * c + 8) 2 = S.2.1 (x + 141 + 10 * c + 8) 2 := (aP _ _ (by omega)).2.1
              have r1' : S1.2.2 x 1 = some pb := by rw [(aP _ _ (by omega)).2.2]; exact h.r1
              rw [g_logAt2 h rS1 r1' (by rw [(aP _ _ (by omega)).1]; exact h.c8) hc, m_btw_s, m_gd_t hL.1, j2, m_lt_s]
              show m_b1 (S1.2.2 x 3) _ = _
              rw [show S1.2.2 x 3 = some (x + 137) from rS1.g (a := 0) (by decide +kernel), m_b1_s, m_gd_t h.o137]
              unfold f_X6_takeSerial
              rw [m_gd_t h.o137, m_lt_s, m_bw_s]
              have s1' : (m_pJ S1 (x + 141 + 10 * c + 8) 2 (S.2.1 (x + 141 + 10 * c + 8) 2 + mo.toInt64)).1 (x + 137) 1 = sr := ((aP _ _ (by omega)).1).trans s1
              rw [s1', ← hS2]
            · unfold f_X9_add
              rw [m_gd_t hM.o, m_lt_s, e0, e_isCase hM h0.n5 h0.cs, m_b1_s, if_pos (q_yes hc (by omega))]
              simp only [m_jp_s]
              rw [if_neg z10, e_isKind hM h0.n4 (by omega), m_b1_s, if_pos (q_yes hk (by omega)), if_neg z10, e_may1 hM.o z10 z0, m_bw_s, if_neg z10, e_isIn, m_b1_s, if_pos c1, if_neg z10, e_isIn, m_b1_s, if_pos c2, if_neg z10, e_may1 hM.o z10 z0, m_bw_s, if_neg z10, eN, m_b1_s, if_neg (show ¬ (5 : Int32) ≤ Int32.ofNat n from fun z => absurd ((io_le (a := 5) (by omega) (by omega)).mp z) (by omega)), e_may1 hM.o z10 z0, m_bw_s, if_pos z10, e_newSer hM, m_bw_s, ← hsr, ← hT1]
              have p1 : T1.1 (m + 1) = T0.1 (m + 1) := funext fun j => by rw [hT1, pI_ne (by omega)]
              rw [e_would (k := k) hM1 (by omega) (by rw [p1]; exact k3), m_b1_s, p1, ← hmo, e_addsTo hM1 (by omega) (by rw [hT1, pI_ne (by omega)]; exact tn) (by omega), m_bw_s, ← hT2]
          · refine q_JW_er h0 f0 (s := "java/lang/IllegalStateException") (b := 0) (k := 3) ?_ ?_ (by simp)
            · unfold f_X8_add
              rw [m_gd_t h.ox, g_vitAt h hc, m_btw_s, g_kindAt h hk, m_btw_s, if_neg (Int32.not_lt.mpr c1.1), if_pos c1.2, g_reqHum, if_pos c2, m_btw_s, m_gd_t hV.1, g_full hV sn (by omega), m_b1_s, if_neg c3, if_neg z10]
            · unfold f_X9_add
              rw [m_gd_t hM.o, m_lt_s, e0, e_isCase hM h0.n5 h0.cs, m_b1_s, if_pos (q_yes hc (by omega))]
              simp only [m_jp_s]
              rw [if_neg z10, e_isKind hM h0.n4 (by omega), m_b1_s, if_pos (q_yes hk (by omega)), if_neg z10, e_may1 hM.o z10 z0, m_bw_s, if_neg z10, e_isIn, m_b1_s, if_pos c1, if_neg z10, e_isIn, m_b1_s, if_pos c2, if_neg z10, e_may1 hM.o z10 z0, m_bw_s, if_neg z10, eN, m_b1_s, if_pos (show (5 : Int32) ≤ Int32.ofNat n from (io_le (a := 5) (by omega) (by omega)).mpr (by omega)), e_may0 hM.o z0 z30, m_bw_s, if_neg nz0]
        · refine noArg ?_ ?_
          · unfold f_X8_add
            rw [m_gd_t h.ox, g_vitAt h hc, m_btw_s, g_kindAt h hk, m_btw_s, if_neg (Int32.not_lt.mpr c1.1), if_pos c1.2, g_reqHum, if_neg c2, m_btw_e]
          · unfold f_X9_add
            rw [m_gd_t hM.o, m_lt_s, e0, e_isCase hM h0.n5 h0.cs, m_b1_s, if_pos (q_yes hc (by omega))]
            simp only [m_jp_s]
            rw [if_neg z10, e_isKind hM h0.n4 (by omega), m_b1_s, if_pos (q_yes hk (by omega)), if_neg z10, e_may1 hM.o z10 z0, m_bw_s, if_neg z10, e_isIn, m_b1_s, if_pos c1, if_neg z10, e_isIn, m_b1_s, if_neg c2, if_pos z00, e_may0 hM.o z0 z20, m_bw_s, if_pos z00]
      · refine noArg ?_ ?_
        · unfold f_X8_add
          rw [m_gd_t h.ox, g_vitAt h hc, m_btw_s, g_kindAt h hk, m_btw_s]
          by_cases q1 : mass < 1
          · rw [if_pos q1]
          · rw [if_neg q1, if_neg (fun z => c1 ⟨Int32.not_lt.mp q1, z⟩)]
        · unfold f_X9_add
          rw [m_gd_t hM.o, m_lt_s, e0, e_isCase hM h0.n5 h0.cs, m_b1_s, if_pos (q_yes hc (by omega))]
          simp only [m_jp_s]
          rw [if_neg z10, e_isKind hM h0.n4 (by omega), m_b1_s, if_pos (q_yes hk (by omega)), if_neg z10, e_may1 hM.o z10 z0, m_bw_s, if_neg z10, e_isIn, m_b1_s, if_neg c1, if_pos z00, e_may0 hM.o z0 z20, m_bw_s, if_pos z00]
    · refine noIdx ?_ ?_
      · unfold f_X8_add
        rw [m_gd_t h.ox, g_vitAt h hc, m_btw_s, g_kindNo h hq, m_btw_e]
      · unfold f_X9_add
        rw [m_gd_t hM.o, m_lt_s, e0, e_isCase hM h0.n5 h0.cs, m_b1_s, if_pos (q_yes hc (by omega))]
        simp only [m_jp_s]
        rw [if_neg z10, e_isKind hM h0.n4 (by omega), m_b1_s, if_neg (q_no hq), if_pos z00, e_may0 hM.o z0 z10, m_bw_s, if_pos z00]
  · refine noIdx ?_ ?_
    · unfold f_X8_add
      rw [m_gd_t h.ox, g_vitNo h hp, m_btw_e]
    · unfold f_X9_add
      rw [m_gd_t hM.o, m_lt_s, e0, e_isCase hM h0.n5 h0.cs, m_b1_s, if_neg (q_no hp)]
      simp only [m_jp_s]
      rw [if_pos trivial, e_may0 hM.o z0 z10, m_bw_s, if_pos z00]
end ADD
