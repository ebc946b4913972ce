theorem q_Rel_rd {Z : m_Z} {x m N N' pb ns nk nc : Nat} {S T S' T' : m_S} (h : q_Rel Z x m N pb ns nk nc S T) (hN : N ≤ N') (hS : q_ag (fun b _ => ¬ (b = x + 1) ∧ ¬ (b = x + 2)) S S') (hSr : S'.2.2 = S.2.2) (hT : q_ag (fun b _ => ¬ (b = m) ∧ ¬ (b = m + 11)) T T') (hTr : T'.2.2 = T.2.2) (hrd : q_rd x m S' T') : q_Rel Z x m N' pb ns nk nc S' T' := by
  have hm := h.em
  have hpb := h.pbr
  have h6 := h.nc6
  obtain ⟨⟨b1, b2, b3, b4⟩, a2, a3, a4, a5, a6, -⟩ := h
  have hp : T'.1 (m + 1) = T.1 (m + 1) := funext fun k => (hT _ _ (by omega)).1
  refine ⟨⟨b1, b2, by rw [hSr]; exact b3, by rw [hTr]; exact b4⟩, by unfold q_pbs; rw [hSr]; exact a2, ?_, ?_, ?_, fun s hs => ?_, hrd⟩
  · rw [hp]; exact q_set9_ag a3 (q_ag_sub hS (fun b k hb => by omega)) (fun _ _ => rfl)
  · rw [hp]; exact q_Ks_ag a4 (q_ag_sub hS (fun b k hb => by omega))
  · rw [hp]; exact q_sta_ag a5 h6 (q_ag_sub hS (fun b k hb => by omega)) (fun k _ => (hT _ _ (by omega)).1) (fun k _ => (hT _ _ (by omega)).2.1) hN
  · obtain ⟨⟨s1, s2⟩, s3⟩ := a6 s hs
    have e10 : T'.1 (m + 10) s = T.1 (m + 10) s := (hT _ _ (by omega)).1
    refine ⟨⟨by rw [(hS _ _ (by omega)).1, e10]; exact s1, by rw [e10]; exact s2⟩, fun q => ?_⟩
    rw [e10] at q
    rw [hp]
    exact q_sta_ag (s3 q) h6 (q_ag_sub hS (fun b k hb => by omega)) (fun k _ => (hT _ _ (by omega)).1) (fun k _ => (hT _ _ (by omega)).2.1) hN
def q_by (w : Int32) (r : Nat) : Int32 := (w >>> (((24 : Int32) - (8 : Int32) * Int32.ofNat r) &&& 31)) &&& 255
theorem q_by_c (w : Int32) : vp_nar .byte (((w.toUInt32 >>> ((24 : Int32).toUInt32 &&& Int32.toUInt32 31)).toInt32).toInt8.toInt32) = (q_by w 0).toInt8.toInt32 ∧ vp_nar .byte (((w.toUInt32 >>> ((16 : Int32).toUInt32 &&& Int32.toUInt32 31)).toInt32).toInt8.toInt32) = (q_by w 1).toInt8.toInt32 ∧ vp_nar .byte (((w.toUInt32 >>> ((8 : Int32).toUInt32 &&& Int32.toUInt32 31)).toInt32).toInt8.toInt32) = (q_by w 2).toInt8.toInt32 ∧ vp_nar .byte (((w.toUInt32 >>> ((0 : Int32).toUInt32 &&& Int32.toUInt32 31)).toInt32).toInt8.toInt32) = (q_by w 3).toInt8.toInt32 := by
  have e0 : ((24 : Int32) - (8 : Int32) * Int32.ofNat 0) &&& 31 = 24 := by decide
  have e1 : ((24 : Int32) - (8 : Int32) * Int32.ofNat 1) &&& 31 = 16 := by decide
  have e2 : ((24 : Int32) - (8 : Int32) * Int32.ofNat 2) &&& 31 = 8 := by decide
  have e3 : ((24 : Int32) - (8 : Int32) * Int32.ofNat 3) &&& 31 = 0 := by decide
  unfold q_by
  rw [e0, e1, e2, e3, q_nar, q_nar, q_nar, q_nar, q_byte24, q_byte16, q_byte8, q_byte0]
  exact ⟨rfl, rfl, rfl, rfl⟩
theorem q_by_r (w : Int32) (r : Nat) : 0 ≤ (q_by w r).toInt ∧ (q_by w r).toInt ≤ 255 := q_and255 _
theorem g_bytes {Z : m_Z} {S : m_S} {x n : Nat} {p : Int32} (o1 : m_ok Z (x + 1) 3) (r10 : S.2.2 (x + 1) 0 = some (x + 2)) (o2 : m_okn Z (x + 2) 10 900) (hn : S.1 (x + 1) 1 = Int32.ofNat n) (n9 : n + 4 ≤ 900) : ∃ S', f_X3_appendBytes Z S (x + 1) p = some ((), S') ∧ S'.1 (x + 1) 1 = Int32.ofNat (n + 4) ∧ (∀ k, k < 4 → S'.1 (x + 2) (n + k) = (q_by p k).toInt8.toInt32) ∧ q_ag (fun b k => ¬ (b = x + 2 ∧ n ≤ k ∧ k < n + 4) ∧ ¬ (b = x + 1 ∧ k = 1)) S S' ∧ S'.2 = S.2 := by
  unfold f_X3_appendBytes
  obtain ⟨c0, c1, c2, c3⟩ := q_by_c p
  have step : ∀ (j2 : m_S → Option (Unit × m_S)) (v : Int32) (U : m_S) (L f : Nat), ¬ v < 0 → L < 900 → U.1 (x + 1) 1 = Int32.ofNat L → U.2 = S.2 → m_fx (F_X3_appendBytes_3 Z (x + 1) p j2) (f + 1) (v, U) = m_fx (F_X3_appendBytes_3 Z (x + 1) p j2) f (v + (-8 : Int32), m_pI (m_pI U (x + 2) L (vp_nar .byte (((p.toUInt32 >>> (v.toUInt32 &&& Int32.toUInt32 31)).toInt32).toInt8.toInt32))) (x + 1) 1 (Int32.ofNat (L + 1))) := by
    intro j2 v U L f hv hL hU hU2
    rw [m_fx_s]
    generalize m_fx (F_X3_appendBytes_3 Z (x + 1) p j2) f = lp
    unfold F_X3_appendBytes_3
    simp only []
    rw [if_neg hv, m_gd_t o1, hU2, r10, m_b1_s, m_gd_t o2.1, if_neg (show ¬ Int32.ofNat (Z.2.2 (x + 2)) ≤ U.1 (x + 1) 1 from by rw [o2.2, hU]; exact fun q => absurd ((io_le (by omega) (by omega)).mp q) (by omega)), m_gd_t (show m_in (U.1 (x + 1) 1) (Z.2.2 (x + 2)) by rw [hU]; exact q_inn o2 (by omega) (by omega)), hU, io_tn (by omega), m_lt_s, pI_ne (by omega), hU, io_one, m_lt_s, m_lt_s]
  obtain ⟨S1, hS1⟩ : ∃ y, y = m_pI (m_pI S (x + 2) n (q_by p 0).toInt8.toInt32) (x + 1) 1 (Int32.ofNat (n + 1)) := ⟨_, rfl⟩
  obtain ⟨S2, hS2⟩ : ∃ y, y = m_pI (m_pI S1 (x + 2) (n + 1) (q_by p 1).toInt8.toInt32) (x + 1) 1 (Int32.ofNat (n + 2)) := ⟨_, rfl⟩
  obtain ⟨S3, hS3⟩ : ∃ y, y = m_pI (m_pI S2 (x + 2) (n + 2) (q_by p 2).toInt8.toInt32) (x + 1) 1 (Int32.ofNat (n + 3)) := ⟨_, rfl⟩
  obtain ⟨S4, hS4⟩ : ∃ y, y = m_pI (m_pI S3 (x + 2) (n + 3) (q_by p 3).toInt8.toInt32) (x + 1) 1 (Int32.ofNat (n + 4)) := ⟨_, rfl⟩
  refine ⟨S4, ?_, ?_, fun k hk => ?_, ?_, ?_⟩
  · rw [m_jp_s]
    have s1 := step (fun S1 => some ((), S1)) 24 S n 99999 (by decide) (by omega) hn rfl
    have s2 := step (fun S1 => some ((), S1)) 16 S1 (n + 1) 99998 (by decide) (by omega) (by rw [hS1, pI_same]) (by rw [hS1]; rfl)
    have s3 := step (fun S1 => some ((), S1)) 8 S2 (n + 2) 99997 (by decide) (by omega) (by rw [hS2, pI_same]) (by rw [hS2, hS1]; rfl)
    have s4 := step (fun S1 => some ((), S1)) 0 S3 (n + 3) 99996 (by decide) (by omega) (by rw [hS3, pI_same]) (by rw [hS3, hS2, hS1]; rfl)
    rw [c0, ← hS1, show (24 : Int32) + (-8 : Int32) = 16 by decide] at s1
    rw [c1, ← hS2, show (16 : Int32) + (-8 : Int32) = 8 by decide] at s2
    rw [c2, ← hS3, show (8 : Int32) + (-8 : Int32) = 0 by decide] at s3
    rw [c3, ← hS4, show (0 : Int32) + (-8 : Int32) = -8 by decide] at s4
    refine s1.trans (s2.trans (s3.trans (s4.trans ?_)))
    rw [m_fx_s]
    unfold F_X3_appendBytes_3
    simp only []
    rw [if_pos (by decide)]
  · rw [hS4, pI_same]
  · have : k = 0 ∨ k = 1 ∨ k = 2 ∨ k = 3 := by omega
    rcases this with rfl | rfl | rfl | rfl
    · rw [hS4, pI_ne (by omega), pI_ne (by omega), hS3, pI_ne (by omega), pI_ne (by omega), hS2, pI_ne (by omega), pI_ne (by omega), hS1, pI_ne (by omega)]; exact pI_same _ _ _ _
    · rw [hS4, pI_ne (by omega), pI_ne (by omega), hS3, pI_ne (by omega), pI_ne (by omega), hS2, pI_ne (by omega), pI_same]
    · rw [hS4, pI_ne (by omega), pI_ne (by omega), hS3, pI_ne (by omega), pI_same]
    · rw [hS4, pI_ne (by omega), pI_same]
  · rw [hS4]
    refine q_ag_I (q_ag_I ?_ (by omega)) (by omega)
    rw [hS3]
    refine q_ag_I (q_ag_I ?_ (by omega)) (by omega)
    rw [hS2]
    refine q_ag_I (q_ag_I ?_ (by omega)) (by omega)
    rw [hS1]
    exact q_ag_I (q_ag_I (q_ag_refl _ _) (by omega)) (by omega)
  · rw [hS4, hS3, hS2, hS1]; rfl
section APP
variable {Z : m_Z} {x m N pb ns nk nc : Nat} {S T : m_S}
def q_wd (p1 p2 p3 p4 p5 : Int32) (j : Nat) : Int32 := if j < 4 then p1 else if j < 8 then p2 else if j < 12 then p3 else if j < 16 then p4 else p5
theorem J_append (h : q_Rel Z x m N pb ns nk nc S T) (p1 p2 p3 p4 p5 : Int32) : q_JW Z x m (N + 1) [("java/lang/IllegalStateException", 1)] (fun a b => a = b) S T (f_X8_append Z S x p1 p2 p3 p4 p5) (f_X9_append Z T m p1 p2 p3 p4 p5) := by
  obtain ⟨T0, e0, z0, f0, h0⟩ := q_zero h
  have hM := h0.M
  have hm := h0.em
  obtain ⟨n, n9, d1, d2, d3, d4, d5⟩ := h0.rd
  have cc : (900 : Int32) < T0.1 m 12 + 20 ↔ 880 < n := by
    rw [d2, show (20 : Int32) = Int32.ofNat 20 from rfl, io_add]
    exact (io_lt (a := 900) (by omega) (by omega)).trans (by omega)
  by_cases c1 : n ≤ 880
  · obtain ⟨S1, g1, l1, t1, a1, x1⟩ := g_bytes (p := p1) h.o1 h.r10 h.o2 d1 (by omega)
    obtain ⟨S2, g2, l2, t2, a2, x2⟩ := g_bytes (p := p2) h.o1 (by rw [x1]; exact h.r10) h.o2 l1 (by omega)
    obtain ⟨S3, g3, l3, t3, a3, x3⟩ := g_bytes (p := p3) h.o1 (by rw [x2, x1]; exact h.r10) h.o2 l2 (by omega)
    obtain ⟨S4, g4, l4, t4, a4, x4⟩ := g_bytes (p := p4) h.o1 (by rw [x3, x2, x1]; exact h.r10) h.o2 l3 (by omega)
    obtain ⟨S5, g5, l5, t5, a5, x5⟩ := g_bytes (p := p5) h.o1 (by rw [x4, x3, x2, x1]; exact h.r10) h.o2 l4 (by omega)
    have a05 : q_ag (fun b k => ¬ (b = x + 2 ∧ n ≤ k ∧ k < n + 20) ∧ ¬ (b = x + 1 ∧ k = 1)) S S5 := q_ag_trans (q_ag_sub a1 (fun b k hb => by omega)) (q_ag_trans (q_ag_sub a2 (fun b k hb => by omega)) (q_ag_trans (q_ag_sub a3 (fun b k hb => by omega)) (q_ag_trans (q_ag_sub a4 (fun b k hb => by omega)) (q_ag_sub a5 (fun b k hb => by omega)))))
    have x05 : S5.2 = S.2 := by rw [x5, x4, x3, x2, x1]
    have tS : ∀ j, j < 20 → S5.1 (x + 2) (n + j) = (q_by (q_wd p1 p2 p3 p4 p5 j) (j % 4)).toInt8.toInt32 := by
      intro j hj
      unfold q_wd
      by_cases q1 : j < 4
      · rw [if_pos q1, (a5 _ _ (by omega)).1, (a4 _ _ (by omega)).1, (a3 _ _ (by omega)).1, (a2 _ _ (by omega)).1, t1 j q1, Nat.mod_eq_of_lt q1]
      · rw [if_neg q1]
        by_cases q2 : j < 8
        · rw [if_pos q2, (a5 _ _ (by omega)).1, (a4 _ _ (by omega)).1, (a3 _ _ (by omega)).1, show n + j = n + 4 + (j - 4) by omega, t2 (j - 4) (by omega), show j % 4 = j - 4 by omega]
        · rw [if_neg q2]
          by_cases q3 : j < 12
          · rw [if_pos q3, (a5 _ _ (by omega)).1, (a4 _ _ (by omega)).1, show n + j = n + 4 + 4 + (j - 8) by omega, t3 (j - 8) (by omega), show j % 4 = j - 8 by omega]
          · rw [if_neg q3]
            by_cases q4 : j < 16
            · rw [if_pos q4, (a5 _ _ (by omega)).1, show n + j = n + 4 + 4 + 4 + (j - 12) by omega, t4 (j - 12) (by omega), show j % 4 = j - 12 by omega]
            · rw [if_neg q4, show n + j = n + 4 + 4 + 4 + 4 + (j - 16) by omega, t5 (j - 16) (by omega), show j % 4 = j - 16 by omega]
    obtain ⟨T1, ⟨h1, h2, h3⟩, e1⟩ := q_loop0 (F := F_X9_append_36 Z m p1 p2 p3 p4 p5 (fun (S10 : m_S) => m_lt (m_pI S10 m 12 ((S10.1 m 12) + (20 : Int32))) (fun S11 => some ((S11.1 m 12), S11)))) (j := (fun (S10 : m_S) => m_lt (m_pI S10 m 12 ((S10.1 m 12) + (20 : Int32))) (fun S11 => some ((S11.1 m 12), S11)))) (N := 20) (fun i U => (∀ j, j < i → U.1 (m + 11) (n + j) = q_by (q_wd p1 p2 p3 p4 p5 j) (j % 4)) ∧ q_ag (fun b k => ¬ (b = m + 11 ∧ n ≤ k ∧ k < n + 20)) T0 U ∧ U.2 = T0.2) (by omega) (fun i U hi hI => by
        obtain ⟨h1, h2, h3⟩ := hI
        have hMU : q_M Z U.2.2 m := by rw [h3]; exact hM
        have e12 : U.1 m 12 = Int32.ofNat n := by rw [(h2 _ _ (by omega)).1]; exact d2
        refine ⟨m_pI U (m + 11) (n + i) (q_by (q_wd p1 p2 p3 p4 p5 i) (i % 4)), ⟨fun j hj => ?_, q_ag_I h2 (by omega), h3⟩, fun lp => ?_⟩
        · by_cases e : j = i
          · subst e; exact pI_same _ _ _ _
          · rw [pI_ne (by omega)]; exact h1 j (by omega)
        · have emod : Int32.ofNat i - Int32.ofNat i / (4 : Int32) * (4 : Int32) = Int32.ofNat (i % 4) := io_modn (a := i) (n := 4) (by omega) (by omega) (by omega)
          have body : ∀ w, (fun (v22 : Int32) => m_b1 (U.2.2 m 11) (fun b23 => m_gd (m_ok Z b23 11) (m_gd (m_in ((U.1 m 12) + Int32.ofNat i) (Z.2.2 b23)) (m_lt (m_pI U b23 ((U.1 m 12) + Int32.ofNat i).toNatClampNeg ((v22 >>> (((24 : Int32) - ((8 : Int32) * (Int32.ofNat i - Int32.ofNat i / (4 : Int32) * (4 : Int32)))) &&& 31)) &&& (255 : Int32))) (fun S27 => m_lt (Int32.ofNat i + (1 : Int32)) (fun v29 => lp (v29, S27))))))) w = lp (Int32.ofNat (i + 1), m_pI U (m + 11) (n + i) (q_by w (i % 4))) := by
            intro w
            show m_b1 (U.2.2 m 11) _ = _
            rw [hMU.text.1, m_b1_s, m_gd_t hMU.text.2.1, e12, io_add, m_gd_t (q_inn hMU.text.2 (by omega) (by omega)), io_tn (by omega), emod, m_lt_s, m_lt_s, io_one]
            rfl
          unfold F_X9_append_36
          simp only []
          rw [if_neg (show ¬ (20 : Int32) ≤ Int32.ofNat i from fun q => absurd ((io_le (a := 20) (by omega) (by omega)).mp q) (by omega)), m_jp_s]
          unfold q_wd
          by_cases q1 : i < 4
          · rw [if_neg (show ¬ (4 : Int32) ≤ Int32.ofNat i from fun q => absurd ((io_le (a := 4) (by omega) (by omega)).mp q) (by omega)), if_pos q1]; exact body p1
          · rw [if_pos (show (4 : Int32) ≤ Int32.ofNat i from (io_le (a := 4) (by omega) (by omega)).mpr (by omega)), if_neg q1]
            by_cases q2 : i < 8
            · rw [if_neg (show ¬ (8 : Int32) ≤ Int32.ofNat i from fun q => absurd ((io_le (a := 8) (by omega) (by omega)).mp q) (by omega)), if_pos q2]; exact body p2
            · rw [if_pos (show (8 : Int32) ≤ Int32.ofNat i from (io_le (a := 8) (by omega) (by omega)).mpr (by omega)), if_neg q2]
              by_cases q3 : i < 12
              · rw [if_neg (show ¬ (12 : Int32) ≤ Int32.ofNat i from fun q => absurd ((io_le (a := 12) (by omega) (by omega)).mp q) (by omega)), if_pos q3]; exact body p3
              · rw [if_pos (show (12 : Int32) ≤ Int32.ofNat i from (io_le (a := 12) (by omega) (by omega)).mpr (by omega)), if_neg q3]
                by_cases q4 : i < 16
                · rw [if_neg (show ¬ (16 : Int32) ≤ Int32.ofNat i from fun q => absurd ((io_le (a := 16) (by omega) (by omega)).mp q) (by omega)), if_pos q4]; exact body p4
                · rw [if_pos (show (16 : Int32) ≤ Int32.ofNat i from (io_le (a := 16) (by omega) (by omega)).mpr (by omega)), if_neg q4]; exact body p5)
      (fun U hI lp => by
        unfold F_X9_append_36
        simp only []
        rw [if_pos (show (20 : Int32) ≤ Int32.ofNat 20 from Int32.le_refl _)]) T0 ⟨fun j hj => absurd hj (Nat.not_lt_zero _), q_ag_refl _ _, rfl⟩
    have e12 : T1.1 m 12 = Int32.ofNat n := by rw [(h2 _ _ (by omega)).1]; exact d2
    obtain ⟨T2, hT2⟩ : ∃ y, y = m_pI T1 m 12 (Int32.ofNat (n + 20)) := ⟨_, rfl⟩
    have a02 : q_ag (fun b k => ¬ (b = m + 11 ∧ n ≤ k ∧ k < n + 20) ∧ ¬ (b = m ∧ k = 12)) T0 T2 := by
      rw [hT2]; exact q_ag_I (q_ag_sub h2 (fun b k hb => hb.1)) (by omega)
    have x2' : T2.2 = T0.2 := by rw [hT2]; exact h3
    have tT : ∀ j, j < 20 → T2.1 (m + 11) (n + j) = q_by (q_wd p1 p2 p3 p4 p5 j) (j % 4) := fun j hj => by rw [hT2, pI_ne (by omega)]; exact h1 j hj
    refine q_JW_ok (T0 := T0) (S' := S5) (T' := T2) (pb := pb) (ns := ns) (nk := nk) (nc := nc) (a := Int32.ofNat (n + 20)) (b := Int32.ofNat (n + 20)) (q_ag_sub a05 (fun b k hb => by omega)) f0 (q_ag_sub a02 (fun b k hb => by omega)) ?_ ?_ ?_ ?_ rfl
    · refine q_Rel_rd h0 (Nat.le_succ _) (q_ag_sub a05 (fun b k hb => by omega)) (by rw [x05]) (q_ag_sub a02 (fun b k hb => by omega)) (by rw [x2']) ⟨n + 20, by omega, l5, by rw [hT2]; exact pI_same _ _ _ _, ?_, ?_, fun j hj => ?_⟩
      · rw [(a05 _ _ (by omega)).1, (a02 _ _ (by omega)).1]; exact d3
      · rw [(a05 _ _ (by omega)).1, (a02 _ _ (by omega)).1]; exact d4
      · by_cases q : j < n
        · rw [(a05 _ _ (by omega)).1, (a02 _ _ (by omega)).1]; exact d5 j q
        · rw [show j = n + (j - n) by omega, tS (j - n) (by omega), tT (j - n) (by omega)]
          exact ⟨q_by_r _ _, rfl⟩
    · rw [(a02 _ _ (by omega)).1]; exact z0
    · unfold f_X8_append
      have hr : ∀ U : m_S, U.2 = S.2 → U.2.2 x 0 = some (x + 1) := fun U hU => by rw [hU]; exact h.r0
      rw [m_gd_t h.ox, h.r0, m_b1_s, m_gd_t h.o1, if_pos (show S.1 (x + 1) 1 ≤ 880 from by rw [d1]; exact (io_le (b := 880) (by omega) (by omega)).mpr c1), g1, m_bw_s, hr S1 x1, m_b1_s, m_gd_t h.o1, g2, m_bw_s, hr S2 (by rw [x2, x1]), m_b1_s, m_gd_t h.o1, g3, m_bw_s, hr S3 (by rw [x3, x2, x1]), m_b1_s, m_gd_t h.o1, g4, m_bw_s, hr S4 (by rw [x4, x3, x2, x1]), m_b1_s, m_gd_t h.o1, g5, m_bw_s, hr S5 x05, m_b1_s, m_gd_t h.o1, l5]
    · unfold f_X9_append
      rw [m_gd_t hM.o, m_lt_s, e0, m_jp_if, e_mayN hM.o z0 z10, if_neg (fun q => absurd (cc.mp q) (by omega)), if_pos z10, m_jp_s, e1, e12, show (20 : Int32) = Int32.ofNat 20 from rfl, io_add, ← hT2, m_lt_s, hT2, pI_same]
  · refine q_JW_er h0 f0 (s := "java/lang/IllegalStateException") (b := 0) (k := 1) ?_ ?_ (by simp)
    · unfold f_X8_append
      rw [m_gd_t h.ox, h.r0, m_b1_s, m_gd_t h.o1, if_neg (show ¬ S.1 (x + 1) 1 ≤ 880 from by rw [d1]; exact fun q => c1 ((io_le (b := 880) (by omega) (by omega)).mp q))]
    · unfold f_X9_append
      rw [m_gd_t hM.o, m_lt_s, e0, m_jp_if, e_mayN hM.o z0 z10, if_pos (cc.mpr (by omega)), if_neg nz0]
end APP
