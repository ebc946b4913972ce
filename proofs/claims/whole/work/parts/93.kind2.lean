section KIND2
variable {Z : m_Z} {x m pd n st : Nat} {B : Nat → Int32} {S0 T0 S T : m_S}
theorem q_nt_cg {ac ar cnt : Nat} {S S' T T' : m_S} (h : q_nt ac ar cnt S T) (hS : ∀ j, j < cnt → S'.2.1 ac j = S.2.1 ac j) (hT : ∀ j, j < cnt → T'.2.1 ar j = T.2.1 ar j) : q_nt ac ar cnt S' T' := fun i hi => by
  rw [hS i hi, hT i hi]; exact h i hi
theorem q_kind {ns nv nk nq : Nat} {cnt : Nat → Nat} (h : q_P Z x m pd n B S0 T0 st S T) (hD : q_D Z x m pd ns nv nk 0 cnt nq S T) (hn : nk < 4) : q_E Z x m pd S0 T0 (fun S' T' => (∃ st', q_P Z x m pd n B S0 T0 st' S' T') ∧ q_D Z x m pd ns nv (nk + 1) 0 cnt nq S' T') (f_X3_readKind Z S (x + 1) pd (Int32.ofNat nk)) (f_X9_kind Z T m) := by
  have hm := h.em
  have hpd := h.pdr
  obtain ⟨⟨⟨o5, ⟨rd1, od1⟩, ⟨rd2, od2⟩, rd3, od3⟩, ⟨w0, w1, w2, w3, w4, w5, w6, w7⟩, hds, hv, hws, hk4, hc6⟩, hnv, hK, ⟨hq1, hq2, hq3⟩, ⟨hn1, hn2⟩, hcs, hz, hser⟩ := hD
  obtain ⟨st1, S1, T1, g1, r1, hP1, f1, f2, f3, f4⟩ := q_P_next h
  have eb := e_begins_ok (i := 4) (wi := 4) (lim := 4) h.M h.w0 rfl (by omega) (by rw [w5]; exact fun z => by have := t_eq.mp z; rw [t_ofNat (by omega), show (4 : Int32).toInt = 4 from rfl] at this; omega) r1 hP1.M hP1.w0
  have oc : m_okn Z (x + 3) 12 4 := h.f.2.2.1.g (j := 3) (by decide +kernel)
  have hnt1 : q_nt (x + 3) (m + 12) nk S1 T1 := q_nt_cg hn1 (fun j _ => by rw [f2]) (fun j _ => (f3 _ _ (by omega)).2.1)
  have t4 : (4 : Int32).toNatClampNeg = 4 := rfl
  have i4 : m_in (4 : Int32) (Z.2.2 (m + 2)) := q_inl (wi := 4) (i := 4) rfl h.M.told.2 (by omega) (by omega)
  have ok2 : m_ok Z (m + 2) 11 := h.M.told.2.1
  obtain ⟨d, hd⟩ : ∃ d, d = pd + 6 + 3 * nk := ⟨_, rfl⟩
  unfold f_X3_readKind f_X9_kind
  rw [m_gd_t h.f.o1, m_gd_t h.M.o, g1, m_bw_s, eb, m_bw_s, if_neg z10, show S1.2.2 (x + 1) 8 = some (x + 3) from hP1.rs.g (a := 1) (by decide +kernel), m_b1_s, hP1.M.kindN.1, m_b1_s, hP1.M.told.1, m_b1_s, m_gd_t ok2, m_gd_t i4, show T1.1 (m + 2) (4 : Int32).toNatClampNeg = Int32.ofNat nk from ((f3 (m + 2) 4 (by omega)).1).trans w5]
  rcases q_newn hP1 oc hP1.M.kindN.2 (Or.inl rfl) hn (by omega) hnt1 with ⟨st2, S2, T2, f, l, y1, y2, hP2, a1, a2, a3, a4, a5, a6, a7⟩ | ⟨S', T', y1, y2, hE, hw⟩
  · rw [y1, m_bx_s, y2, m_bw_s, if_pos z10, m_gd_t oc.1, m_gd_t (q_inn oc (by omega) (by omega))]
    obtain ⟨S3, hS3⟩ : ∃ y, y = m_pJ S2 (x + 3) nk (Int64.ofNat (q_fo 32 f l)) := ⟨_, rfl⟩
    have b3 : q_ag (fun b j => ¬ (b = x + 3 ∧ j = nk)) S2 S3 := by rw [hS3]; exact q_ag_J (q_ag_refl _ _) (by omega)
    have r3 : S3.2.2 = S.2.2 := by rw [hS3]; show S2.2.2 = _; rw [a2, f2]
    have hP3 : q_P Z x m pd n B S0 T0 st2 S3 T2 := hP2.go (q_ag_sub b3 (fun b k hb => by omega)) (by rw [r3]; exact h.rs) (q_ag_refl _ _) rfl
    have kp := q_kpb_of (R := S.2.2) h.f.2.2.1 h.rs hpd
    have kr := q_kref_of (R := S.2.2) h.rs hpd hn
    rw [← hd] at kr
    have hKK := q_K_of (S := S) h.f.2.2.1 h.rs hpd hn
    rw [← hd] at hKK
    have t24 : T2.1 (m + 2) 4 = Int32.ofNat nk := by rw [(a3 _ _ (by omega)).1, (f3 _ _ (by omega)).1]; exact w5
    have e54 : (54 : Int32) + (14 : Int32) * Int32.ofNat nk = Int32.ofNat (54 + 14 * nk) := by
      show Int32.ofNat 54 + Int32.ofNat 14 * Int32.ofNat nk = _
      rw [io_mul, io_add]
    have i54 : m_in (Int32.ofNat (54 + 14 * nk)) (Z.2.2 (m + 2)) := q_inn h.M.told.2 (by omega) (by omega)
    have n54 : (Int32.ofNat (54 + 14 * nk)).toNatClampNeg = 54 + 14 * nk := io_tn (by omega)
    have eS3 : m_pJ S2 (x + 3) (Int32.ofNat nk).toNatClampNeg (Int64.ofNat (q_fo 32 f l)) = S3 := by rw [io_tn (by omega), hS3]
    have kr' : S.2.2 (pd + 4) (Int32.ofNat nk).toNatClampNeg = some d := by rw [io_tn (by omega)]; exact kr
    rw [eS3, m_lt_s, m_gd_t o5, r3, kp.1, m_b1_s, m_gd_t kp.2.1, m_gd_t (q_inn kp.2 (by omega) (by omega)), kr', m_b1_s, hP2.M.told.1, m_b1_s, m_gd_t ok2, m_gd_t i4, show T2.1 (m + 2) (4 : Int32).toNatClampNeg = Int32.ofNat nk from t24, e54, m_lt_s]
    refine q_E_num hP3 0 1000 (fun v st4 S4 T4 v1 v2 hP4 c1 c2 c3 c4 => ?_) (fun v T' hw => ?_)
    · obtain ⟨S5, hS5⟩ : ∃ y, y = m_pI (m_pI (m_pI S4 d 0 (Int32.ofNat nk)) d 1 v) d 2 0 := ⟨_, rfl⟩
      have b5 : q_ag (fun b j => ¬ (b = d ∧ j < 3)) S4 S5 := by rw [hS5]; exact q_ag_I (q_ag_I (q_ag_I (q_ag_refl _ _) (by omega)) (by omega)) (by omega)
      have r5 : S5.2 = S3.2 := by rw [hS5]; exact c2
      obtain ⟨T5, hT5⟩ : ∃ y, y = m_pI T4 (m + 2) (54 + 14 * nk) v := ⟨_, rfl⟩
      have d5 : q_ag (fun b j => ¬ (b = m + 2 ∧ j = 54 + 14 * nk)) T4 T5 := by rw [hT5]; exact q_ag_I (q_ag_refl _ _) (by omega)
      have hP5 : q_P Z x m pd n B S0 T0 st4 S5 T5 := hP4.go (q_ag_sub b5 (fun b k hb => by omega)) (by rw [r5, r3]; exact h.rs) (q_ag_sub d5 (fun b k hb => by omega)) (by rw [hT5]; rfl)
      have gb : f_X1_begin Z S4 d (Int32.ofNat nk) v = some ((), S5) := by
        unfold f_X1_begin
        rw [m_gd_t hKK.1, m_lt_s, m_lt_s, ← hS5, m_lt_s]
      have kp0 : q_kp m pd nk 0 S5 T5 := ⟨by rw [← hd, hS5, pI_same]; rfl, fun j hj => absurd hj (Nat.not_lt_zero _), fun j hj => absurd hj (Nat.not_lt_zero _)⟩
      rw [m_gd_t hKK.1, gb, m_bw_s, m_gd_t i54, show m_pI T4 (m + 2) (Int32.ofNat (54 + 14 * nk)).toNatClampNeg v = T5 by rw [n54, hT5], m_lt_s, m_jp_s, m_jp_s, m_jp_s, hd]
      refine q_points (Sb := S5) (Tb := T5) hn (fun i st6 S6 T6 i2 i6 hP6 hp6 hf6 hat => ?_) 6 0 7 100000 st4 S5 T5 (by omega) (by omega) (by omega) hP5 kp0 ⟨q_ag_refl _ _, rfl, q_ag_refl _ _, rfl⟩
      obtain ⟨k1, k2, k3, k4⟩ := hf6
      obtain ⟨p1, p2, p3⟩ := hp6
      rw [← hd] at k1 p1 p2
      have e55 : Int32.ofNat (54 + 14 * nk) + (1 : Int32) = Int32.ofNat (55 + 14 * nk) := (io_one _).trans (congrArg Int32.ofNat (by omega))
      have t64 : T6.1 (m + 2) 4 = Int32.ofNat nk := by rw [(k3 _ _ (by omega)).1, (d5 _ _ (by omega)).1, (c3 _ _ (by omega)).1]; exact t24
      obtain ⟨T7, hT7⟩ : ∃ y, y = m_pI T6 (m + 2) (55 + 14 * nk) (Int32.ofNat i) := ⟨_, rfl⟩
      have r7 : T7.2.2 = T6.2.2 := by rw [hT7]; rfl
      obtain ⟨T8, hT8⟩ : ∃ y, y = m_pI T7 (m + 2) 4 (Int32.ofNat (nk + 1)) := ⟨_, rfl⟩
      have d8 : q_ag (fun b j => ¬ (b = m + 2 ∧ (j = 4 ∨ j = 55 + 14 * nk))) T6 T8 := by
        rw [hT8]; refine q_ag_I ?_ (by omega)
        rw [hT7]; exact q_ag_I (q_ag_refl _ _) (by omega)
      have hP8 : q_P Z x m pd n B S0 T0 st6 S6 T8 := hP6.go (q_ag_refl _ _) hP6.rs (q_ag_sub d8 (fun b k hb => by omega)) (by rw [hT8]; exact r7)
      unfold q_J37 q_J50 f_X3_refuse
      rw [m_gd_t h.f.o1, hat, m_b1_s, if_pos z00, m_bx_s, m_jp_s, if_pos (show (2 : Int32) ≤ Int32.ofNat i from (io_le (a := 2) (by omega) (by omega)).mpr i2)]
      simp only []
      rw [hP6.M.told.1, m_b1_s, m_gd_t ok2, e55, m_gd_t (q_inn h.M.told.2 (by omega) (by omega)), show m_pI T6 (m + 2) (Int32.ofNat (55 + 14 * nk)).toNatClampNeg (Int32.ofNat i) = T7 by rw [io_tn (by omega), hT7], m_lt_s, r7, hP6.M.told.1, m_b1_s, m_gd_t ok2, m_gd_t i4, m_gd_t i4, t4, show T7.1 (m + 2) 4 = Int32.ofNat nk by rw [hT7, pI_ne (by omega)]; exact t64, io_one, ← hT8, m_lt_s]
      refine q_E_semi hP8 (fun st9 S9 T9 hP9 e1 e2 e3 e4 => ?_) (fun T' hw => q_W_done)
      obtain ⟨S10, hS10⟩ : ∃ y, y = m_pI S9 pd 6 (Int32.ofNat (nk + 1)) := ⟨_, rfl⟩
      have b10 : q_ag (fun b j => ¬ (b = pd ∧ j = 6)) S9 S10 := by rw [hS10]; exact q_ag_I (q_ag_refl _ _) (by omega)
      have r10 : S10.2 = S3.2 := by rw [hS10]; show S9.2 = _; rw [e2, k2, r5]
      have r10R : S10.2.2 = S.2.2 := by rw [r10]; exact r3
      have s3 : ∀ b j, b ≠ x + 1 → S3.1 b j = S.1 b j := fun b j hb => by rw [hS3]; show S2.1 b j = _; rw [(a1 _ _ (by omega)).1, (f1 _ _ (by omega)).1]
      have s65 : ∀ b j, b ≠ x + 1 → ¬ (d + 1 ≤ b ∧ b ≤ d + 2) → ¬ (b = d ∧ j = 2) → ¬ (b = pd ∧ j = 6) → S10.1 b j = S5.1 b j := fun b j h1 h2 h3 h4 => by rw [(b10 _ _ h4).1, (e1 _ _ (by omega)).1, (k1 _ _ (by omega)).1]
      have s10 : ∀ b j, b ≠ x + 1 → ¬ (d ≤ b ∧ b ≤ d + 2) → ¬ (b = pd ∧ j = 6) → S10.1 b j = S.1 b j := fun b j h1 h2 h3 => by rw [s65 b j h1 (by omega) (by omega) h3, (b5 _ _ (by omega)).1, (c1 _ _ (by omega)).1]; exact s3 b j h1
      have s6 : ∀ b j, b ≠ x + 1 → b ≠ pd → S10.1 b j = S6.1 b j := fun b j h1 h2 => by rw [(b10 _ _ (by omega)).1, (e1 _ _ (by omega)).1]
      have t9 : ∀ j, j ≠ 4 → ¬ (54 + 14 * nk ≤ j ∧ j < 68 + 14 * nk) → T9.1 (m + 2) j = T.1 (m + 2) j := fun j h1 h2 => by rw [(e3 _ _ (by omega)).1, (d8 _ _ (by omega)).1, (k3 _ _ (by omega)).1, (d5 _ _ (by omega)).1, (c3 _ _ (by omega)).1, (a3 _ _ (by omega)).1, (f3 _ _ (by omega)).1]
      have t96 : ∀ j, j ≠ 4 → j ≠ 55 + 14 * nk → T9.1 (m + 2) j = T6.1 (m + 2) j := fun j h1 h2 => by rw [(e3 _ _ (by omega)).1, (d8 _ _ (by omega)).1]
      have tt : ∀ b j, b ≠ m → b ≠ m + 2 → b ≠ m + 12 → T9.1 b j = T.1 b j := fun b j h1 h2 h3 => by rw [(e3 _ _ (by omega)).1, (d8 _ _ (by omega)).1, (k3 _ _ (by omega)).1, (d5 _ _ (by omega)).1, (c3 _ _ (by omega)).1, (a3 _ _ (by omega)).1, (f3 _ _ (by omega)).1]
      have tJ : ∀ b j, b ≠ m → ¬ (b = m + 12 ∧ j = nk) → b ≠ m + 2 → T9.2.1 b j = T.2.1 b j := fun b j h1 h2 h3 => by rw [(e3 _ _ (by omega)).2.1, (d8 _ _ (by omega)).2.1, (k3 _ _ (by omega)).2.1, (d5 _ _ (by omega)).2.1, (c3 _ _ (by omega)).2.1, (a3 _ _ (by omega)).2.1, (f3 _ _ (by omega)).2.1]
      have tJn : T9.2.1 (m + 12) nk = Int64.ofNat (q_fo 27 f l) := by rw [(e3 _ _ (by omega)).2.1, (d8 _ _ (by omega)).2.1, (k3 _ _ (by omega)).2.1, (d5 _ _ (by omega)).2.1, (c3 _ _ (by omega)).2.1]; exact a5
      have sJ : ∀ b j, ¬ (b = x + 3 ∧ j = nk) → S10.2.1 b j = S.2.1 b j := fun b j h1 => by rw [r10, (b3 _ _ h1).2.1, a2, f2]
      have sJn : S10.2.1 (x + 3) nk = Int64.ofNat (q_fo 32 f l) := by rw [r10, hS3]; exact pJ_same _ _ _ _
      have p55 : T9.1 (m + 2) (55 + 14 * nk) = Int32.ofNat i := by rw [(e3 _ _ (by omega)).1, hT8, pI_ne (by omega), hT7, pI_same]
      have p54 : T9.1 (m + 2) (54 + 14 * nk) = v := by rw [t96 _ (by omega) (by omega), (k3 _ _ (by omega)).1, hT5, pI_same]
      have p4 : T9.1 (m + 2) 4 = Int32.ofNat (nk + 1) := by rw [(e3 _ _ (by omega)).1, hT8, pI_same]
      have nnk : q_nn (T9.1 (m + 2)) nk = i := by unfold q_nn; rw [p55, io_tn (by omega)]
      rw [← io_one, io_one, ← hS10, m_lt_s]
      have i9999 : i ≤ 6 := i6
      refine Or.inl ⟨S10, T9, rfl, rfl, ⟨st9, hP9.go (q_ag_sub b10 (fun b k hb => by omega)) (by rw [r10R]; exact h.rs) (q_ag_refl _ _) rfl⟩, ⟨⟨o5, ⟨by rw [r10R]; exact rd1, od1⟩, ⟨by rw [r10R]; exact rd2, od2⟩, by rw [r10R]; exact rd3, od3⟩, ⟨?_, ?_, ?_, ?_, ?_, p4, ?_, ?_⟩, fun j hj => ?_, fun j hj => ?_, ?_, by omega, by omega⟩, ?_, ⟨by omega, fun k hk => ?_⟩, ⟨?_, ?_, fun k hk => ?_⟩, ⟨fun j hj => ?_, fun j hj => absurd hj (by omega)⟩, fun c hc => absurd hc (by omega), fun c k h1 h2 h3 h4 => ?_, ?_⟩
      · rw [s10 _ _ (by omega) (by omega) (by omega), t9 _ (by omega) (by omega)]; exact w0
      · rw [s10 _ _ (by omega) (by omega) (by omega), t9 _ (by omega) (by omega)]; exact w1
      · rw [s10 _ _ (by omega) (by omega) (by omega)]; exact w2
      · rw [t9 _ (by omega) (by omega)]; exact w3
      · rw [hS10, pI_same]
      · rw [s10 _ _ (by omega) (by omega) (by omega)]; exact w6
      · rw [t9 _ (by omega) (by omega)]; exact w7
      · have := hds j hj
        have n12 := hws.1
        unfold q_d q_s at this ⊢
        rw [s10 _ _ (by omega) (by omega) (by omega), s10 _ _ (by omega) (by omega) (by omega), t9 _ (by omega) (by omega), t9 _ (by omega) (by omega)]; exact this
      · rw [s10 _ _ (by omega) (by omega) (by omega), t9 _ (by omega) (by omega)]; exact hv j hj
      · exact q_ws_congr (fun j hj => by
          have n12 := hws.1
          unfold q_d q_s
          exact ⟨t9 _ (by omega) (by omega), t9 _ (by omega) (by omega)⟩) hws
      · rw [t9 _ (by omega) (by omega)]; exact hnv
      · by_cases e : k = nk
        · subst e
          rw [← hd]
          refine ⟨by rw [r10R]; exact hKK, ⟨?_, ?_, ?_, fun j hj => ?_⟩, ?_, ⟨⟨by omega, by omega⟩, fun j hj => ?_, fun j hj => ?_⟩, ?_, ?_⟩
          · rw [s65 _ _ (by omega) (by omega) (by omega) (by omega), hS5, pI_ne (by omega), pI_ne (by omega), pI_same]
          · rw [s65 _ _ (by omega) (by omega) (by omega) (by omega), hS5, pI_ne (by omega), pI_same, p54]
          · rw [s6 _ _ (by omega) (by omega), p1, p55]
          · rw [nnk] at hj
            have := p2 j hj
            unfold q_x q_y
            rw [s6 _ _ (by omega) (by omega), s6 _ _ (by omega) (by omega), t96 _ (by omega) (by omega), t96 _ (by omega) (by omega)]
            exact ⟨this.1, this.2.1⟩
          · rw [nnk]; exact p55
          · rw [nnk] at hj
            have := p2 j hj
            unfold q_x q_y
            rw [t96 _ (by omega) (by omega), t96 _ (by omega) (by omega)]
            exact ⟨this.2.2.1.1, this.2.2.1.2, this.2.2.2.1, this.2.2.2.2⟩
          · rw [nnk] at hj
            have := p3 j hj
            unfold q_x q_y
            rw [t96 _ (by omega) (by omega), t96 _ (by omega) (by omega), t96 _ (by omega) (by omega), t96 _ (by omega) (by omega)]
            exact this
          · rw [p54]; exact v1
          · rw [p54]; exact v2
        · obtain ⟨kA, ⟨kB1, kB2, kB3, kB4⟩, kC1, ⟨⟨kC2, kC2'⟩, kC3, kC4⟩, kC5, kC6⟩ := hK.2 k (by omega)
          have nn : q_nn (T9.1 (m + 2)) k = q_nn (T.1 (m + 2)) k := by unfold q_nn; rw [t9 _ (by omega) (by omega)]
          refine ⟨by rw [r10R]; exact kA, ⟨?_, ?_, ?_, fun j hj => ?_⟩, ?_, ⟨⟨by rw [nn]; exact kC2, by rw [nn]; exact kC2'⟩, fun j hj => ?_, fun j hj => ?_⟩, ?_, ?_⟩
          · rw [s10 _ _ (by omega) (by omega) (by omega)]; exact kB1
          · rw [s10 _ _ (by omega) (by omega) (by omega), t9 _ (by omega) (by omega)]; exact kB2
          · rw [s10 _ _ (by omega) (by omega) (by omega), t9 _ (by omega) (by omega)]; exact kB3
          · rw [nn] at hj
            have := kB4 j hj
            unfold q_x q_y at this ⊢
            rw [s10 _ _ (by omega) (by omega) (by omega), s10 _ _ (by omega) (by omega) (by omega), t9 _ (by omega) (by omega), t9 _ (by omega) (by omega)]; exact this
          · rw [nn, t9 _ (by omega) (by omega)]; exact kC1
          · rw [nn] at hj
            have := kC3 j hj
            unfold q_x q_y at this ⊢
            rw [t9 _ (by omega) (by omega), t9 _ (by omega) (by omega)]; exact this
          · rw [nn] at hj
            have := kC4 j hj
            unfold q_x q_y at this ⊢
            rw [t9 _ (by omega) (by omega), t9 _ (by omega) (by omega), t9 _ (by omega) (by omega), t9 _ (by omega) (by omega)]; exact this
          · rw [t9 _ (by omega) (by omega)]; exact kC5
          · rw [t9 _ (by omega) (by omega)]; exact kC6
      · rw [s10 _ _ (by omega) (by omega) (by omega)]; exact hq1
      · rw [tt _ _ (by omega) (by omega) (by omega)]; exact hq2
      · rw [tt _ _ (by omega) (by omega) (by omega)]; exact hq3 k hk
      · by_cases e : j = nk
        · subst e
          exact ⟨f, l, a6, a7, sJn, tJn⟩
        · obtain ⟨g, l', z1, z2, z3, z4⟩ := hn1 j (by omega)
          exact ⟨g, l', z1, z2, by rw [sJ _ _ (by omega)]; exact z3, by rw [tJ _ _ (by omega) (by omega) (by omega)]; exact z4⟩
      · rw [tt _ _ (by omega) (by omega) (by omega)]; exact hz c k h1 h2 h3 h4
      · rw [show T9.1 (m + 6) = T.1 (m + 6) from funext fun k => tt _ _ (by omega) (by omega) (by omega)]; exact hser
    · rw [m_gd_t i54]
      refine q_W_set (Or.inl rfl) ?_
      rw [m_jp_s, m_jp_s]
      exact q_W_pts (q_wr_I hw (Or.inl rfl)) hn 99999 0
  · refine q_E_er hE (by rw [y1, m_bx_e]) ?_
    rw [y2, m_bw_s, if_neg nz0]
    exact q_W_done
end KIND2
