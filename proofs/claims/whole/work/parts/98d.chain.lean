/-! the whole text: the chain of the loops -/
def q_R5 (Z : m_Z) (m : Nat) : m_S → Option (Unit × m_S) := fun S31 => if (S31.1 m 16) = 0 then some ((), S31) else m_bw (f_X9_fails Z S31 m (1 : Int32)) (fun _u S34 => some ((), S34))
def q_R4 (Z : m_Z) (m : Nat) : m_S → Option (Unit × m_S) := fun S30 => m_fx (F_X9_reads_109 Z m (q_R5 Z m)) 100000 S30
def q_R3 (Z : m_Z) (m : Nat) : m_S → Option (Unit × m_S) := fun S29 => m_fx (F_X9_reads_93 Z m (q_R4 Z m)) 100000 S29
def q_R2 (Z : m_Z) (m : Nat) : m_S → Option (Unit × m_S) := fun S28 => m_fx (F_X9_reads_77 Z m (q_R3 Z m)) 100000 S28
def q_R1 (Z : m_Z) (m : Nat) : m_S → Option (Unit × m_S) := fun S27 => m_fx (F_X9_reads_61 Z m (q_R2 Z m)) 100000 S27
def q_R0 (Z : m_Z) (m : Nat) : m_S → Option (Unit × m_S) := fun S26 => m_fx (F_X9_reads_45 Z m (q_R1 Z m)) 100000 S26
def q_C5 (Z : m_Z) (x : Nat) : m_S → Option (Except String Unit × m_S) := fun S32 => if (S32.1 (x + 1) 4) = 0 then m_lt (m_pI S32 (x + 1) 1 (0 : Int32)) (fun S34 => some ((.ok ()), S34)) else m_bx (f_X3_fail Z S32 (x + 1) (1 : Int32)) (fun _u S37 => m_lt (m_pI S37 (x + 1) 1 (0 : Int32)) (fun S39 => some ((.ok ()), S39)))
def q_C4 (Z : m_Z) (x pd : Nat) : Unit → m_S → Option (Except String Unit × m_S) := fun _ S30 => m_fx (F_X3_readInto_167 Z (x + 1) pd (q_C5 Z x)) 32 ((0 : Int32), S30)
def q_C3 (Z : m_Z) (x pd : Nat) : Unit → m_S → Option (Except String Unit × m_S) := fun _ S26 => m_fx (F_X3_readInto_132 Z (x + 1) pd (fun S => m_bx (f_X3_refuse Z S (x + 1) 4) (q_C4 Z x pd))) 7 ((0 : Int32), S26)
def q_C2 (Z : m_Z) (x pd : Nat) : Unit → m_S → Option (Except String Unit × m_S) := fun _ S22 => m_fx (F_X3_readInto_98 Z (x + 1) pd (fun S => m_bx (f_X3_refuse Z S (x + 1) 3) (q_C3 Z x pd))) 5 ((0 : Int32), S22)
def q_C1 (Z : m_Z) (x pd : Nat) : Unit → m_S → Option (Except String Unit × m_S) := fun _ S18 => m_fx (F_X3_readInto_64 Z (x + 1) pd (fun S => m_bx (f_X3_refuse Z S (x + 1) 2) (q_C2 Z x pd))) 7 ((0 : Int32), S18)
def q_C0 (Z : m_Z) (x pd : Nat) : Unit → m_S → Option (Except String Unit × m_S) := fun _ S14 => m_fx (F_X3_readInto_30 Z (x + 1) pd (fun S => m_bx (f_X3_refuse Z S (x + 1) 1) (q_C1 Z x pd))) 13 ((0 : Int32), S14)
theorem m_jp_e {α β : Type} (k : α) (b : α → β) : m_jp k b = b k := Eq.trans (m_jp_s k b) (Eq.refl _)
theorem q_reads_eq (Z : m_Z) (S : m_S) (m : Nat) : f_X9_reads Z S m = m_gd (m_ok Z m 9) (m_bw (f_X9_takesWord Z S m 0) (fun v4 S3 => m_jp (fun (S6 : m_S) => m_b1 (S6.2.2 m 2) (fun b7 => m_bw (f_X9_figure Z S6 m (0 : Int32) (999 : Int32)) (fun v11 S10 => m_gd (m_ok Z b7 11) (m_gd (m_in (0 : Int32) (Z.2.2 b7)) (m_lt (m_pI S10 b7 (0 : Int32).toNatClampNeg v11) (fun S14 => m_b1 (S14.2.2 m 2) (fun b16 => m_bw (f_X9_figure Z S14 m (0 : Int32) (99 : Int32)) (fun v20 S19 => m_gd (m_ok Z b16 11) (m_gd (m_in (1 : Int32) (Z.2.2 b16)) (m_lt (m_pI S19 b16 (1 : Int32).toNatClampNeg v20) (fun S23 => m_bw (f_X9_ends Z S23 m) (fun _u S26 => q_R0 Z m S26)))))))))))) (fun j5 => (if ¬ v4 = 0 then j5 S3 else m_bw (f_X9_fails Z S3 m (1 : Int32)) (fun _u S97 => j5 S97))))) := by
  unfold f_X9_reads q_R0 q_R1 q_R2 q_R3 q_R4 q_R5
  simp only [m_jp_e]
theorem q_readInto_eq (Z : m_Z) (S : m_S) (x pd : Nat) : f_X3_readInto Z S (x + 1) pd = m_gd (m_ok Z (x + 1) 3) (m_lt (m_pI S (x + 1) 2 (0 : Int32)) (fun S2 => m_lt (m_pI S2 (x + 1) 3 (-1 : Int32)) (fun S4 => m_lt (m_pI S4 (x + 1) 6 (0 : Int32)) (fun S6 => m_gd (m_ok Z pd 5) (m_bw (f_X5_clear Z S6 pd) (fun _u S10 => m_bw (f_X3_readToken Z S10 (x + 1)) (fun _u S12 => m_bx (f_X3_readMuseum Z S12 (x + 1) pd) (q_C0 Z x pd)))))))) := by
  unfold f_X3_readInto q_C0 q_C1 q_C2 q_C3 q_C4 q_C5
  simp only [m_jp_e]
def q_Z0 (m pd : Nat) (S T : m_S) : Prop := (S.1 pd 2 = 0 ∧ S.1 pd 6 = 0 ∧ S.1 pd 8 = 0 ∧ S.1 pd 10 = 0) ∧ (∀ j, j < 24 → S.1 (pd + 3) j = 0) ∧ (∀ j, 2 ≤ j → j < 116 → T.1 (m + 2) j = 0) ∧ ∀ j, j < 340 → T.1 (m + 6) j = 0
def q_Qe (Z : m_Z) (x m pd : Nat) (S0 T0 S T : m_S) : Prop := (∃ ns nv nk nc cnt nq, q_D Z x m pd ns nv nk nc cnt nq S T ∧ nq ≤ 30) ∧ q_F Z x m pd S0 T0 S T ∧ S.1 (x + 1) 1 = 0 ∧ T.1 m 18 = 0 ∧ S.1 (x + 1) 2 = 0 ∧ S.1 (x + 1) 3 = -1 ∧ T.1 m 19 = -1
section CHAIN
variable {Z : m_Z} {x m pd n st ns nv nk nc nq : Nat} {B : Nat → Int32} {S0 T0 S T : m_S}
theorem q_W_R5 (T : m_S) (h : q_wr Z m T) : q_W m T (q_R5 Z m T) := by
  unfold q_R5
  by_cases q : T.1 m 16 = 0
  · rw [if_pos q]; exact q_W_done
  · rw [if_neg q, e_fails1 h, m_bw_s]; exact q_W_done
theorem q_W_R4 (T : m_S) (h : q_wr Z m T) : q_W m T (q_R4 Z m T) := by
  have e : q_R4 Z m T = F_X9_reads_109 Z m (q_R5 Z m) (m_fx (F_X9_reads_109 Z m (q_R5 Z m)) 99999) T := m_fx_s _ 99999 _
  rw [e]
  unfold F_X9_reads_109
  rw [e_isWord1 h, m_b1_s, if_pos z00]
  exact q_W_R5 T h
theorem q_W_R3 (T : m_S) (h : q_wr Z m T) : q_W m T (q_R3 Z m T) := by
  have e : q_R3 Z m T = F_X9_reads_93 Z m (q_R4 Z m) (m_fx (F_X9_reads_93 Z m (q_R4 Z m)) 99999) T := m_fx_s _ 99999 _
  rw [e]
  unfold F_X9_reads_93
  rw [e_isWord1 h, m_b1_s, if_pos z00]
  exact q_W_R4 T h
theorem q_W_R2 (T : m_S) (h : q_wr Z m T) : q_W m T (q_R2 Z m T) := by
  have e : q_R2 Z m T = F_X9_reads_77 Z m (q_R3 Z m) (m_fx (F_X9_reads_77 Z m (q_R3 Z m)) 99999) T := m_fx_s _ 99999 _
  rw [e]
  unfold F_X9_reads_77
  rw [e_isWord1 h, m_b1_s, if_pos z00]
  exact q_W_R3 T h
theorem q_W_R1 (T : m_S) (h : q_wr Z m T) : q_W m T (q_R1 Z m T) := by
  have e : q_R1 Z m T = F_X9_reads_61 Z m (q_R2 Z m) (m_fx (F_X9_reads_61 Z m (q_R2 Z m)) 99999) T := m_fx_s _ 99999 _
  rw [e]
  unfold F_X9_reads_61
  rw [e_isWord1 h, m_b1_s, if_pos z00]
  exact q_W_R2 T h
theorem q_W_R0 (T : m_S) (h : q_wr Z m T) : q_W m T (q_R0 Z m T) := by
  have e : q_R0 Z m T = F_X9_reads_45 Z m (q_R1 Z m) (m_fx (F_X9_reads_45 Z m (q_R1 Z m)) 99999) T := m_fx_s _ 99999 _
  rw [e]
  unfold F_X9_reads_45
  rw [e_isWord1 h, m_b1_s, if_pos z00]
  exact q_W_R1 T h
theorem q_D_ag {cnt : Nat → Nat} {S' T' : m_S} (hm : m = x + 341) (hpd : pd = x + 5 ∨ pd = x + 71) (hD : q_D Z x m pd ns nv nk nc cnt nq S T) (aS : q_ag (fun b j => ¬ b = x + 1) S S') (aT : q_ag (fun b j => ¬ b = m) T T') : q_D Z x m pd ns nv nk nc cnt nq S' T' := by
  obtain ⟨hs9, hnv, hK, ⟨hq1, hq2, hq3⟩, ⟨hn1, hn2⟩, hcs, hz, hser⟩ := hD
  have hc6 : nc ≤ 6 := hs9.2.2.2.2.2.2
  have p2 : T'.1 (m + 2) = T.1 (m + 2) := funext fun j => (aT _ _ (by omega)).1
  have p6 : T'.1 (m + 6) = T.1 (m + 6) := funext fun j => (aT _ _ (by omega)).1
  unfold q_D
  rw [p2, p6]
  refine ⟨q_set9_ag hs9 (fun b j hb => aS b j (by omega)) (fun _ _ => rfl), hnv, q_Ks_g hK (fun b j _ _ => (aS _ _ (by omega)).1) (fun b j _ _ => (aS _ _ (by omega)).2.2) (fun _ _ _ => rfl), ⟨by rw [(aS _ _ (by omega)).1]; exact hq1, hq2, hq3⟩, ⟨q_nt_cg hn1 (fun j _ => (aS _ _ (by omega)).2.1) (fun j _ => (aT _ _ (by omega)).2.1), q_nt_cg hn2 (fun j _ => (aS _ _ (by omega)).2.1) (fun j _ => (aT _ _ (by omega)).2.1)⟩, fun c hc => ?_, hz, hser⟩
  obtain ⟨d5, dv, dw, d9⟩ := hcs c hc
  exact ⟨d5, q_vit_cp dv (fun j _ => (aS _ _ (by omega)).1) (fun i _ => ⟨fun j _ _ => (aS _ _ (by omega)).1, (aS _ _ (by omega)).2.2⟩) (fun _ _ _ => rfl), dw, d9⟩
theorem q_D_0 (hZ : q_ZL Z x) (hR : q_RS S.2.2 x 0 341) (hpd : pd = x + 5 ∨ pd = x + 71) (z : q_Z0 m pd S T) (e0 : S.1 pd 0 = T.1 (m + 2) 0) (e1 : S.1 pd 1 = T.1 (m + 2) 1) : q_D Z x m pd 0 0 0 0 (fun _ => 0) 0 S T := by
  obtain ⟨⟨z2, z6, z8, z10⟩, zv, zt, zf⟩ := z
  have hh : m_ok Z pd 5 ∧ (S.2.2 pd 3 = some (pd + 1) ∧ m_okn Z (pd + 1) 11 12) ∧ (S.2.2 pd 4 = some (pd + 2) ∧ m_okn Z (pd + 2) 11 12) ∧ S.2.2 pd 5 = some (pd + 3) ∧ m_okn Z (pd + 3) 11 24 := by
    rcases hpd with e | e
    · subst e
      exact ⟨(hZ.g (j := 5) (N := 0) (by decide +kernel)).1, ⟨hR.g (a := 5) (v := 6) (by decide +kernel), hZ.g (j := 6) (by decide +kernel)⟩, ⟨hR.g (a := 5) (v := 7) (by decide +kernel), hZ.g (j := 7) (by decide +kernel)⟩, hR.g (a := 5) (v := 8) (by decide +kernel), hZ.g (j := 8) (by decide +kernel)⟩
    · subst e
      exact ⟨(hZ.g (j := 71) (N := 0) (by decide +kernel)).1, ⟨hR.g (a := 71) (v := 72) (by decide +kernel), hZ.g (j := 72) (by decide +kernel)⟩, ⟨hR.g (a := 71) (v := 73) (by decide +kernel), hZ.g (j := 73) (by decide +kernel)⟩, hR.g (a := 71) (v := 74) (by decide +kernel), hZ.g (j := 74) (by decide +kernel)⟩
  refine ⟨⟨hh, ⟨e0, e1, z2, zt 2 (by omega) (by omega), z6, zt 4 (by omega) (by omega), z8, zt 5 (by omega) (by omega)⟩, fun i hi => absurd hi (by omega), fun i hi => ?_, ⟨by omega, fun i hi => absurd hi (by omega), fun i hi => absurd hi (by omega)⟩, by omega, by omega⟩, zt 3 (by omega) (by omega), ⟨by omega, fun k hk => absurd hk (by omega)⟩, ⟨z10, zf 3 (by omega), fun k hk => zf k (by omega)⟩, ⟨fun i hi => absurd hi (by omega), fun i hi => absurd hi (by omega)⟩, fun c hc => absurd hc (by omega), fun c k h1 h2 h3 h4 => zf k (by omega), ⟨0, Nat.le_refl _, zf 3 (by omega), fun c k hc => absurd hc (by omega), fun c k c' k' hc => absurd hc (by omega)⟩⟩
  rw [zv i hi, zt _ (by omega) (by omega)]
theorem q_end5 {cnt : Nat → Nat} (h : q_P Z x m pd n B S0 T0 st S T) (hD : q_D Z x m pd ns nv nk nc cnt nq S T) (h30 : nq ≤ 30) : q_E Z x m pd S0 T0 (q_Qe Z x m pd S0 T0) (q_C5 Z x S) (q_R5 Z m T) := by
  have hm := h.em
  have hpd := h.pdr
  obtain ⟨hF, ⟨tc, tm, hs, ⟨c1, c2, c3, c4⟩, m1, m2, m3, m4, m5⟩, e1, e2, e3, e4⟩ := id h
  have iN : ∀ a b : Nat, a < 10 → b < 10 → Int32.ofNat a = Int32.ofNat b → a = b := fun a b ha hb e => by have := t_eq.mp e; rw [t_ofNat (by omega), t_ofNat (by omega)] at this; omega
  have so4 : q_so B n st ≤ 4 := by unfold q_so; have := q_kd_b (B st); split <;> (try split) <;> omega
  unfold q_C5 q_R5
  by_cases q : q_so B n st = 0
  · have s4 : S.1 (x + 1) 4 = 0 := by rw [c3, q]; rfl
    have t16 : T.1 m 16 = 0 := by rw [m3, q]; rfl
    obtain ⟨S1, hS1⟩ : ∃ y, y = m_pI S (x + 1) 1 0 := ⟨_, rfl⟩
    have b1 : q_ag (fun b j => ¬ (b = x + 1 ∧ j = 1)) S S1 := by rw [hS1]; exact q_ag_I (q_ag_refl _ _) (by omega)
    rw [if_pos s4, if_pos t16, ← hS1, m_lt_s]
    refine Or.inl ⟨S1, T, rfl, rfl, ⟨ns, nv, nk, nc, cnt, nq, q_D_ag hm hpd hD (q_ag_sub b1 (fun b k hb => by omega)) (q_ag_refl _ _), h30⟩, hF.go (q_ag_sub b1 (fun b k hb => by omega)) (by rw [hS1]; exact h.rs) (q_ag_refl _ _) rfl, by rw [hS1, pI_same], e1, ?_, ?_, e4⟩
    · rw [(b1 _ _ (by omega)).1]; exact e2
    · rw [(b1 _ _ (by omega)).1]; exact e3
  · have s4 : ¬ S.1 (x + 1) 4 = 0 := by rw [c3]; exact fun z => q (iN _ 0 (by omega) (by omega) z)
    have t16 : ¬ T.1 m 16 = 0 := by rw [m3]; exact fun z => q (iN _ 0 (by omega) (by omega) z)
    obtain ⟨S', T', g1, r1, hE, hw⟩ := q_P_fail h (c := 1) z10
    refine q_E_er (S' := S') (T' := T') hE ?_ ?_
    · rw [if_neg s4, g1, m_bx_e]
    · rw [if_neg t16, r1, m_bw_s]; exact q_W_done
theorem q_end4 (h : q_P Z x m pd n B S0 T0 st S T) (hD : q_D Z x m pd ns nv nk nc (fun _ => 0) 0 S T) : q_E Z x m pd S0 T0 (q_Qe Z x m pd S0 T0) (q_C4 Z x pd () S) (q_R4 Z m T) := by
  have h6 : nc ≤ 6 := hD.1.2.2.2.2.2.2
  exact q_loop_cass h6 (fun st i cnt S T hi hP hD => q_end5 hP hD hi) q_W_R5 31 0 32 100000 st (fun _ => 0) S T (by omega) (by omega) (by omega) h hD (fun c _ => Nat.zero_le _) (q_cu_0 nc)
theorem q_end3 (h : q_P Z x m pd n B S0 T0 st S T) (hD : q_D Z x m pd ns nv nk 0 (fun _ => 0) 0 S T) : q_E Z x m pd S0 T0 (q_Qe Z x m pd S0 T0) (q_C3 Z x pd () S) (q_R3 Z m T) := q_loop_case (fun st i S T hi hP hD => q_end4 hP hD) q_W_R4 6 0 7 100000 st S T (by omega) (by omega) (by omega) h hD
theorem q_end2 (h : q_P Z x m pd n B S0 T0 st S T) (hD : q_D Z x m pd ns nv 0 0 (fun _ => 0) 0 S T) : q_E Z x m pd S0 T0 (q_Qe Z x m pd S0 T0) (q_C2 Z x pd () S) (q_R2 Z m T) := q_loop_kind (fun st i S T hi hP hD => q_end3 hP hD) q_W_R3 4 0 5 100000 st S T (by omega) (by omega) (by omega) h hD
theorem q_end1 (h : q_P Z x m pd n B S0 T0 st S T) (hD : q_D Z x m pd ns 0 0 0 (fun _ => 0) 0 S T) : q_E Z x m pd S0 T0 (q_Qe Z x m pd S0 T0) (q_C1 Z x pd () S) (q_R1 Z m T) := q_loop_visitors (fun st i S T hi hP hD => q_end2 hP hD) q_W_R2 6 0 7 100000 st S T (by omega) (by omega) (by omega) h hD
theorem q_end0 (h : q_P Z x m pd n B S0 T0 st S T) (hD : q_D Z x m pd 0 0 0 0 (fun _ => 0) 0 S T) : q_E Z x m pd S0 T0 (q_Qe Z x m pd S0 T0) (q_C0 Z x pd () S) (q_R0 Z m T) := q_loop_season (fun st i S T hi hP hD => q_end1 hP hD) q_W_R1 12 0 13 100000 st S T (by omega) (by omega) (by omega) h hD
theorem q_readInto (hF : q_F Z x m pd S0 T0 S T) (tc : q_txc Z x n B S) (tm : q_txm Z m n B T) (h14 : T.1 m 14 = 0) (h18 : T.1 m 18 = 0) (h19 : T.1 m 19 = -1) (zt : ∀ j, j < 116 → T.1 (m + 2) j = 0) (zf : ∀ j, j < 340 → T.1 (m + 6) j = 0) : q_E Z x m pd S0 T0 (q_Qe Z x m pd S0 T0) (f_X3_readInto Z S (x + 1) pd) (m_bw (f_X9_token Z T m) (fun _u S17 => f_X9_reads Z S17 m)) := by
  have hm := hF.1
  have hpd := hF.2.1
  have hZ := hF.2.2.1
  have hR : q_RS S.2.2 x 0 341 := hF.2.2.2.1
  have hh : m_ok Z pd 5 ∧ S.2.2 pd 5 = some (pd + 3) ∧ m_okn Z (pd + 3) 11 24 := by
    rcases hpd with e | e
    · subst e
      exact ⟨(hZ.g (j := 5) (N := 0) (by decide +kernel)).1, hR.g (a := 5) (v := 8) (by decide +kernel), hZ.g (j := 8) (by decide +kernel)⟩
    · subst e
      exact ⟨(hZ.g (j := 71) (N := 0) (by decide +kernel)).1, hR.g (a := 71) (v := 74) (by decide +kernel), hZ.g (j := 74) (by decide +kernel)⟩
  obtain ⟨S3, hS3⟩ : ∃ y, y = m_pI (m_pI (m_pI S (x + 1) 2 0) (x + 1) 3 (-1)) (x + 1) 6 0 := ⟨_, rfl⟩
  have b3 : q_ag (fun b j => ¬ (b = x + 1 ∧ (j = 2 ∨ j = 3 ∨ j = 6))) S S3 := by rw [hS3]; exact q_ag_I (q_ag_I (q_ag_I (q_ag_refl _ _) (by omega)) (by omega)) (by omega)
  have r3 : S3.2 = S.2 := by rw [hS3]; rfl
  obtain ⟨S4, gc, ⟨z0, z1, z2, z6, z8, z10⟩, zv, a4, r4⟩ := g_clear (S := S3) hh.1 (by rw [r3]; exact hh.2.1) hh.2.2
  have aS : q_ag (fun b j => ¬ (b = x + 1 ∧ (j = 2 ∨ j = 3 ∨ j = 6)) ∧ ¬ b = pd ∧ ¬ b = pd + 3) S S4 := q_ag_trans (q_ag_sub b3 (fun b k hb => by omega)) (q_ag_sub a4 (fun b k hb => by omega))
  have rS : S4.2 = S.2 := r4.trans r3
  have hF4 : q_F Z x m pd S0 T0 S4 T := hF.go (q_ag_sub aS (fun b k hb => by omega)) (by rw [rS]; exact hR) (q_ag_refl _ _) rfl
  have tc4 : q_txc Z x n B S4 := by
    obtain ⟨n9, o1, r0, o2, l1, ht⟩ := tc
    exact ⟨n9, o1, by rw [rS]; exact r0, o2, by rw [(aS _ _ (by omega)).1]; exact l1, fun j hj => ⟨(ht j hj).1, by rw [(aS _ _ (by omega)).1]; exact (ht j hj).2⟩⟩
  have s2 : S4.1 (x + 1) 2 = 0 := by rw [(a4 _ _ (by omega)).1, hS3, pI_ne (by omega), pI_ne (by omega), pI_same]
  have s3 : S4.1 (x + 1) 3 = -1 := by rw [(a4 _ _ (by omega)).1, hS3, pI_ne (by omega), pI_same]
  have s6 : S4.1 (x + 1) 6 = 0 := by rw [(a4 _ _ (by omega)).1, hS3, pI_same]
  obtain ⟨S5, T5, g5, e5, hP, f1, f2, f3, f4⟩ := q_P_tok (p := 0) hF4 tc4 tm (Nat.zero_le _) s6 h14 ⟨h18, s2, s3, h19⟩
  rw [q_readInto_eq, m_gd_t hF.o1, m_lt_s, m_lt_s, ← hS3, m_lt_s, m_gd_t hh.1, gc, m_bw_s, g5, m_bw_s, e5, m_bw_s]
  rw [q_reads_eq, m_gd_t hP.M.o]
  refine q_museum (kc := q_C0 Z x pd) (jm := q_R0 Z m) hP hh.1 (fun st' S' T' hP' y0 y1 yS yR yT yRT => ?_) (fun T' hw => q_W_R0 T' hw)
  have cS : ∀ b j, b ≠ x + 1 → ¬ (b = pd ∧ j < 2) → S'.1 b j = S4.1 b j := fun b j h1 h2 => by rw [(yS _ _ (by omega)).1, (f1 _ _ (by omega)).1]
  have cT : ∀ b j, b ≠ m → ¬ (b = m + 2 ∧ j < 2) → T'.1 b j = T.1 b j := fun b j h1 h2 => by rw [(yT _ _ (by omega)).1, (f3 _ _ (by omega)).1]
  refine q_end0 hP' (q_D_0 hZ hP'.rs hpd ⟨⟨?_, ?_, ?_, ?_⟩, fun j hj => ?_, fun j h1 h2 => ?_, fun j hj => ?_⟩ y0 y1)
  · rw [cS _ _ (by omega) (by omega)]; exact z2
  · rw [cS _ _ (by omega) (by omega)]; exact z6
  · rw [cS _ _ (by omega) (by omega)]; exact z8
  · rw [cS _ _ (by omega) (by omega)]; exact z10
  · rw [cS _ _ (by omega) (by omega)]; exact zv j hj
  · rw [cT _ _ (by omega) (by omega)]; exact zt j h2
  · rw [cT _ _ (by omega) (by omega)]; exact zf j hj
end CHAIN
