/-! the parser: both sides at one token -/
section PARSE
variable {Z : m_Z} {x m pd n st : Nat} {B : Nat → Int32} {S0 T0 S T : m_S}
/-- how far a load has come, seen from its beginning -/
def q_F (Z : m_Z) (x m pd : Nat) (S0 T0 S T : m_S) : Prop := m = x + 341 ∧ (pd = x + 5 ∨ pd = x + 71) ∧ q_ZL Z x ∧ q_RS S.2.2 x 0 341 ∧ q_RS T.2.2 x 341 355 ∧ q_ag (fun b k => ¬ (b = x + 1 ∧ 1 ≤ k ∧ k ≤ 7) ∧ ¬ (b = x + 3) ∧ ¬ (b = x + 4) ∧ ¬ (pd ≤ b ∧ b < pd + 66)) S0 S ∧ q_ag (fun b k => ¬ (b = m ∧ 14 ≤ k ∧ k ≤ 20) ∧ ¬ (b = m + 2) ∧ ¬ (b = m + 6) ∧ ¬ (b = m + 12) ∧ ¬ (b = m + 13)) T0 T ∧ T.2.2 = T0.2.2
def q_P (Z : m_Z) (x m pd n : Nat) (B : Nat → Int32) (S0 T0 : m_S) (st : Nat) (S T : m_S) : Prop := q_F Z x m pd S0 T0 S T ∧ (q_txc Z x n B S ∧ q_txm Z m n B T ∧ st ≤ n ∧ q_tkc x n B st S ∧ q_tkm m n B st T) ∧ T.1 m 18 = 0 ∧ S.1 (x + 1) 2 = 0 ∧ S.1 (x + 1) 3 = -1 ∧ T.1 m 19 = -1
/-- the class has thrown; the reference knows the same error -/
def q_Er (Z : m_Z) (x m pd : Nat) (S0 T0 : m_S) (S T : m_S) : Prop := q_F Z x m pd S0 T0 S T ∧ S.1 (x + 1) 2 = T.1 m 18 ∧ S.1 (x + 1) 3 = T.1 m 19 ∧ S.1 (x + 1) 1 = 0 ∧ ¬ T.1 m 18 = 0
/-- what the reference still does when it knows an error: nothing that counts -/
def q_W (m : Nat) (T : m_S) (r : Option (Unit × m_S)) : Prop := ∃ T', r = some ((), T') ∧ q_ag (fun b _ => ¬ (b = m + 2) ∧ ¬ (b = m + 6)) T T' ∧ T'.2.2 = T.2.2
/-- it knows an error -/
def q_wr (Z : m_Z) (m : Nat) (T : m_S) : Prop := q_M Z T.2.2 m ∧ ¬ T.1 m 18 = 0
def q_E (Z : m_Z) (x m pd : Nat) (S0 T0 : m_S) (Q : m_S → m_S → Prop) (rc : Option (Except String Unit × m_S)) (rm : Option (Unit × m_S)) : Prop := (∃ S' T', rc = some (.ok (), S') ∧ rm = some ((), T') ∧ Q S' T') ∨ ∃ S' T', rc = some (.error "java/lang/IllegalArgumentException", S') ∧ rm = some ((), T') ∧ q_Er Z x m pd S0 T0 S' T'
theorem q_F.M (h : q_F Z x m pd S0 T0 S T) : q_M Z T.2.2 m := q_M_of h.1 h.2.2.1 h.2.2.2.2.1
theorem q_F.o1 (h : q_F Z x m pd S0 T0 S T) : m_ok Z (x + 1) 3 := (h.2.2.1.g (j := 1) (N := 0) (by decide +kernel)).1
theorem q_F.go (h : q_F Z x m pd S0 T0 S T) {S' T' : m_S} (hS : q_ag (fun b k => ¬ (b = x + 1 ∧ 1 ≤ k ∧ k ≤ 7) ∧ ¬ (b = x + 3) ∧ ¬ (b = x + 4) ∧ ¬ (pd ≤ b ∧ b < pd + 66)) S S') (hr : q_RS S'.2.2 x 0 341) (hT : q_ag (fun b k => ¬ (b = m ∧ 14 ≤ k ∧ k ≤ 20) ∧ ¬ (b = m + 2) ∧ ¬ (b = m + 6) ∧ ¬ (b = m + 12) ∧ ¬ (b = m + 13)) T T') (hTr : T'.2.2 = T.2.2) : q_F Z x m pd S0 T0 S' T' := by
  obtain ⟨h1, h2, h3, h4, h5, h6, h7, h8⟩ := h
  exact ⟨h1, h2, h3, hr, by rw [hTr]; exact h5, q_ag_trans h6 hS, q_ag_trans h7 hT, hTr.trans h8⟩
theorem q_P.f (h : q_P Z x m pd n B S0 T0 st S T) : q_F Z x m pd S0 T0 S T := h.1
theorem q_P.M (h : q_P Z x m pd n B S0 T0 st S T) : q_M Z T.2.2 m := h.1.M
theorem q_P.em (h : q_P Z x m pd n B S0 T0 st S T) : m = x + 341 := h.1.1
theorem q_P.pdr (h : q_P Z x m pd n B S0 T0 st S T) : pd = x + 5 ∨ pd = x + 71 := h.1.2.1
theorem q_P.rs (h : q_P Z x m pd n B S0 T0 st S T) : q_RS S.2.2 x 0 341 := h.1.2.2.2.1
theorem q_P.w0 (h : q_P Z x m pd n B S0 T0 st S T) : T.1 m 18 = 0 := h.2.2.1
/-- a step outside the reader's own fields -/
theorem q_P.go (h : q_P Z x m pd n B S0 T0 st S T) {S' T' : m_S} (hS : q_ag (fun b _ => ¬ (b = x + 3) ∧ ¬ (b = x + 4) ∧ ¬ (pd ≤ b ∧ b < pd + 66)) S S') (hr : q_RS S'.2.2 x 0 341) (hT : q_ag (fun b _ => ¬ (b = m + 2) ∧ ¬ (b = m + 6) ∧ ¬ (b = m + 12) ∧ ¬ (b = m + 13)) T T') (hTr : T'.2.2 = T.2.2) : q_P Z x m pd n B S0 T0 st S' T' := by
  have hm := h.em
  have hp := h.pdr
  obtain ⟨hF, ⟨tc, tm, hs, ⟨c1, c2, c3, c4⟩, m1, m2, m3, m4, m5⟩, e1, e2, e3, e4⟩ := id h
  have cc : ∀ k, S'.1 (x + 1) k = S.1 (x + 1) k := fun k => (hS _ _ (by omega)).1
  have mm : ∀ k, T'.1 m k = T.1 m k := fun k => (hT _ _ (by omega)).1
  refine ⟨hF.go (q_ag_sub hS (fun b k hb => by omega)) hr (q_ag_sub hT (fun b k hb => by omega)) hTr, ⟨q_txc_ag tc (q_ag_sub hS (fun b k hb => by omega)) (hS (x + 1) 0 (by omega)).2.2, q_txm_ag tm (q_ag_sub hT (fun b k hb => by omega)) (by rw [hTr]; exact h.M), hs, ⟨by rw [cc]; exact c1, by rw [cc]; exact c2, by rw [cc]; exact c3, fun z => by rw [cc]; exact c4 z⟩, by rw [mm]; exact m1, by rw [mm]; exact m2, by rw [mm]; exact m3, fun z => by rw [mm]; exact m4 z, fun z => by rw [(hT m 20 (by omega)).2.1]; exact m5 z⟩, by rw [mm]; exact e1, by rw [cc]; exact e2, by rw [cc]; exact e3, by rw [mm]; exact e4⟩
/-- the next token -/
theorem q_P_tok {p : Nat} (hF : q_F Z x m pd S0 T0 S T) (tc : q_txc Z x n B S) (tm : q_txm Z m n B T) (hp : p ≤ n) (h6 : S.1 (x + 1) 6 = Int32.ofNat p) (h14 : T.1 m 14 = Int32.ofNat p) (e : T.1 m 18 = 0 ∧ S.1 (x + 1) 2 = 0 ∧ S.1 (x + 1) 3 = -1 ∧ T.1 m 19 = -1) : ∃ S' T', f_X3_readToken Z S (x + 1) = some ((), S') ∧ f_X9_token Z T m = some ((), T') ∧ q_P Z x m pd n B S0 T0 (q_nx B n p) S' T' ∧ q_ag (fun b k => ¬ (b = x + 1 ∧ 4 ≤ k ∧ k ≤ 7)) S S' ∧ S'.2 = S.2 ∧ q_ag (fun b k => ¬ (b = m ∧ ((14 ≤ k ∧ k ≤ 17) ∨ k = 20))) T T' ∧ T'.2.2 = T.2.2 := by
  obtain ⟨S', g1, g2, g3, g4⟩ := g_token tc hp h6
  obtain ⟨T', r1, r2, r3, r4⟩ := e_token tm hp h14
  have hm := hF.1
  refine ⟨S', T', g1, r1, ⟨hF.go (q_ag_sub g3 (fun b k hb => by omega)) (by rw [g4]; exact hF.2.2.2.1) (q_ag_sub r3 (fun b k hb => by omega)) r4, ⟨q_txc_ag tc (q_ag_sub g3 (fun b k hb => by omega)) (by rw [g4]), q_txm_ag tm (q_ag_sub r3 (fun b k hb => by omega)) (by rw [r4]; exact tm.2.1), (q_nx_b hp).2, g2, r2⟩, ?_, ?_, ?_, ?_⟩, g3, g4, r3, r4⟩
  · rw [(r3 _ _ (by omega)).1]; exact e.1
  · rw [(g3 _ _ (by omega)).1]; exact e.2.1
  · rw [(g3 _ _ (by omega)).1]; exact e.2.2.1
  · rw [(r3 _ _ (by omega)).1]; exact e.2.2.2
theorem q_P_next (h : q_P Z x m pd n B S0 T0 st S T) : ∃ st' S' T', f_X3_readToken Z S (x + 1) = some ((), S') ∧ f_X9_token Z T m = some ((), T') ∧ q_P Z x m pd n B S0 T0 st' S' T' ∧ q_ag (fun b k => ¬ (b = x + 1 ∧ 4 ≤ k ∧ k ≤ 7)) S S' ∧ S'.2 = S.2 ∧ q_ag (fun b k => ¬ (b = m ∧ ((14 ≤ k ∧ k ≤ 17) ∨ k = 20))) T T' ∧ T'.2.2 = T.2.2 := by
  obtain ⟨hF, ⟨tc, tm, hs, ⟨c1, c2, c3, c4⟩, m1, m2, m3, m4, m5⟩, e⟩ := h
  obtain ⟨S', T', r⟩ := q_P_tok hF tc tm (q_en_b (B := B) hs).2.1 c2 m2 e
  exact ⟨_, S', T', r⟩
theorem e_wrong0 (hM : q_M Z T.2.2 m) (h : T.1 m 18 = 0) : f_X9_isWrong Z T m = some 0 := by
  unfold f_X9_isWrong
  rw [m_gd_t hM.o, if_pos h]
theorem e_wrong1 (h : q_wr Z m T) : f_X9_isWrong Z T m = some 1 := by
  unfold f_X9_isWrong
  rw [m_gd_t h.1.o, if_neg h.2]
theorem e_fails1 (h : q_wr Z m T) (c : Int32) : f_X9_fails Z T m c = some ((), T) := by
  unfold f_X9_fails
  rw [m_gd_t h.1.o, e_wrong1 h, m_b1_s, if_neg z10]
/-- both say an error at the token -/
theorem q_P_fail (h : q_P Z x m pd n B S0 T0 st S T) {c : Int32} (hc : ¬ c = 0) : ∃ S' T', f_X3_fail Z S (x + 1) c = some (.error "java/lang/IllegalArgumentException", S') ∧ f_X9_fails Z T m c = some ((), T') ∧ q_Er Z x m pd S0 T0 S' T' ∧ q_wr Z m T' := by
  obtain ⟨hF, ⟨tc, tm, hs, ⟨c1, c2, c3, c4⟩, m1, m2, m3, m4, m5⟩, e1, e2, e3, e4⟩ := id h
  have hm := hF.1
  obtain ⟨S1, hS1⟩ : ∃ y, y = m_pI S (x + 1) 2 c := ⟨_, rfl⟩
  obtain ⟨S2, hS2⟩ : ∃ y, y = m_pI S1 (x + 1) 3 (Int32.ofNat st) := ⟨_, rfl⟩
  obtain ⟨S3, hS3⟩ : ∃ y, y = m_pI S2 (x + 1) 1 0 := ⟨_, rfl⟩
  obtain ⟨T1, hT1⟩ : ∃ y, y = m_pI T m 18 c := ⟨_, rfl⟩
  obtain ⟨T2, hT2⟩ : ∃ y, y = m_pI T1 m 19 (Int32.ofNat st) := ⟨_, rfl⟩
  have aS : q_ag (fun b k => ¬ (b = x + 1 ∧ 1 ≤ k ∧ k ≤ 7)) S S3 := by
    rw [hS3]; refine q_ag_I ?_ (by omega)
    rw [hS2]; refine q_ag_I ?_ (by omega)
    rw [hS1]; exact q_ag_I (q_ag_refl _ _) (by omega)
  have aT : q_ag (fun b k => ¬ (b = m ∧ (k = 18 ∨ k = 19))) T T2 := by
    rw [hT2]; refine q_ag_I ?_ (by omega)
    rw [hT1]; exact q_ag_I (q_ag_refl _ _) (by omega)
  have t18 : T2.1 m 18 = c := by rw [hT2, pI_ne (by omega), hT1, pI_same]
  have t19 : T2.1 m 19 = Int32.ofNat st := by rw [hT2, pI_same]
  refine ⟨S3, T2, ?_, ?_, ⟨hF.go (q_ag_sub aS (fun b k hb => by omega)) (by rw [hS3, hS2, hS1]; exact h.rs) (q_ag_sub aT (fun b k hb => by omega)) (by rw [hT2, hT1]; rfl), ?_, ?_, ?_, by rw [t18]; exact hc⟩, by rw [hT2, hT1]; exact h.M, by rw [t18]; exact hc⟩
  · unfold f_X3_fail
    rw [m_gd_t hF.o1, ← hS1, m_lt_s, show S1.1 (x + 1) 5 = Int32.ofNat st by rw [hS1, pI_ne (by omega)]; exact c1, ← hS2, m_lt_s, ← hS3, m_lt_s]
  · unfold f_X9_fails
    rw [m_gd_t h.M.o, e_wrong0 h.M e1, m_b1_s, if_pos z00, ← hT1, m_lt_s, show T1.1 m 15 = Int32.ofNat st by rw [hT1, pI_ne (by omega)]; exact m1, ← hT2, m_lt_s]
  · rw [t18, hS3, pI_ne (by omega), hS2, pI_ne (by omega), hS1, pI_same]
  · rw [t19, hS3, pI_ne (by omega), hS2, pI_same]
  · rw [hS3, pI_same]
theorem q_E_er {Q : m_S → m_S → Prop} {S' T' : m_S} (h : q_Er Z x m pd S0 T0 S' T') {rc : Option (Except String Unit × m_S)} {rm : Option (Unit × m_S)} (hc : rc = some (.error "java/lang/IllegalArgumentException", S')) (hm : q_W m T' rm) : q_E Z x m pd S0 T0 Q rc rm := by
  obtain ⟨T'', e1, e2, e3⟩ := hm
  obtain ⟨f, h1, h2, h3, h4⟩ := h
  have hmm := f.1
  refine Or.inr ⟨S', T'', hc, e1, f.go (q_ag_refl _ _) f.2.2.2.1 (q_ag_sub e2 (fun b k hb => by omega)) e3, ?_, ?_, h3, ?_⟩
  · rw [(e2 _ _ (by omega)).1]; exact h1
  · rw [(e2 _ _ (by omega)).1]; exact h2
  · rw [(e2 _ _ (by omega)).1]; exact h4
/-- a number taken -/
theorem q_E_num {Q : m_S → m_S → Prop} (h : q_P Z x m pd n B S0 T0 st S T) (p1 p2 : Int32) {kc : Int32 → m_S → Option (Except String Unit × m_S)} {km : Int32 → m_S → Option (Unit × m_S)} (ok : ∀ v st' S' T', p1.toInt ≤ v.toInt → v.toInt ≤ p2.toInt → q_P Z x m pd n B S0 T0 st' S' T' → q_ag (fun b k => ¬ (b = x + 1 ∧ 4 ≤ k ∧ k ≤ 7)) S S' → S'.2 = S.2 → q_ag (fun b k => ¬ (b = m ∧ ((14 ≤ k ∧ k ≤ 17) ∨ k = 20))) T T' → T'.2.2 = T.2.2 → q_E Z x m pd S0 T0 Q (kc v S') (km v T')) (wr : ∀ v T', q_wr Z m T' → q_W m T' (km v T')) : q_E Z x m pd S0 T0 Q (m_bx (f_X3_takeNumber Z S (x + 1) p1 p2) kc) (m_bw (f_X9_figure Z T m p1 p2) km) := by
  obtain ⟨hF, ⟨tc, tm, hs, ⟨c1, c2, c3, c4⟩, m1, m2, m3, m4, m5⟩, e1, e2, e3, e4⟩ := id h
  have iN : ∀ a b : Nat, a < 10 → b < 10 → Int32.ofNat a = Int32.ofNat b → a = b := fun a b ha hb e => by have := t_eq.mp e; rw [t_ofNat (by omega), t_ofNat (by omega)] at this; omega
  have so4 : q_so B n st ≤ 4 := by unfold q_so; have := q_kd_b (B st); split <;> (try split) <;> omega
  unfold f_X3_takeNumber f_X9_figure
  rw [m_gd_t hF.o1, m_gd_t h.M.o, e_wrong0 h.M e1, m_b1_s, if_pos z00]
  simp only [m_jp_s]
  by_cases q : q_so B n st = 2
  · have s4 : S.1 (x + 1) 4 = 2 := by rw [c3, q]; rfl
    have t16 : T.1 m 16 = 2 := by rw [m3, q]; rfl
    obtain ⟨v, hv⟩ : ∃ y, y = q_vl B st (q_en B n st - st) := ⟨_, rfl⟩
    have s7 := c4 q
    have t17 := m4 q
    rw [← hv] at s7 t17
    rw [if_pos s4, if_pos t16, s7, t17, e_isIn, m_b1_s]
    by_cases q2 : p1 ≤ v ∧ v ≤ p2
    · obtain ⟨st', S', T', g1, r1, hP, f1, f2, f3, f4⟩ := q_P_next h
      rw [if_neg (Int32.not_lt.mpr q2.1), if_pos q2.2, g1, m_bw_s, m_bx_s, if_pos q2, if_pos z10, e_wrong0 h.M e1, m_b1_s, if_neg (show ¬ ¬ (0 : Int32) = 0 from fun z => z rfl), r1, m_bw_s, m_bw_s]
      exact ok v st' S' T' (t_le.mp q2.1) (t_le.mp q2.2) hP f1 f2 f3 f4
    · obtain ⟨S', T', g1, r1, hE, hw⟩ := q_P_fail h (c := 2) z20
      refine q_E_er (S' := S') (T' := T') hE ?_ ?_
      · by_cases q3 : v < p1
        · rw [if_pos q3, g1, m_bx_e, m_bx_e]
        · rw [if_neg q3, if_neg (fun z => q2 ⟨Int32.not_lt.mp q3, z⟩), g1, m_bx_e, m_bx_e]
      · rw [if_neg q2, if_neg (show ¬ ¬ (0 : Int32) = 0 from fun z => z rfl), r1, m_bw_s, e_wrong1 hw, m_b1_s, if_pos z10, m_bw_s]
        exact wr _ T' hw
  · have s4 : ¬ S.1 (x + 1) 4 = 2 := by rw [c3]; exact fun z => q (iN _ 2 (by omega) (by omega) z)
    have t16 : ¬ T.1 m 16 = 2 := by rw [m3]; exact fun z => q (iN _ 2 (by omega) (by omega) z)
    obtain ⟨S', T', g1, r1, hE, hw⟩ := q_P_fail h (c := 1) z10
    refine q_E_er (S' := S') (T' := T') hE ?_ ?_
    · rw [if_neg s4, g1, m_bx_e, m_bx_e]
    · rw [if_neg t16, r1, m_bw_s, e_wrong1 hw, m_b1_s, if_pos z10, m_bw_s]
      exact wr _ T' hw
/-- a semicolon taken -/
theorem q_E_semi {Q : m_S → m_S → Prop} (h : q_P Z x m pd n B S0 T0 st S T) {kc : Unit → m_S → Option (Except String Unit × m_S)} {km : Unit → m_S → Option (Unit × m_S)} (ok : ∀ st' S' T', q_P Z x m pd n B S0 T0 st' S' T' → q_ag (fun b k => ¬ (b = x + 1 ∧ 4 ≤ k ∧ k ≤ 7)) S S' → S'.2 = S.2 → q_ag (fun b k => ¬ (b = m ∧ ((14 ≤ k ∧ k ≤ 17) ∨ k = 20))) T T' → T'.2.2 = T.2.2 → q_E Z x m pd S0 T0 Q (kc () S') (km () T')) (wr : ∀ T', q_wr Z m T' → q_W m T' (km () T')) : q_E Z x m pd S0 T0 Q (m_bx (f_X3_takeSemicolon Z S (x + 1)) kc) (m_bw (f_X9_ends Z T m) km) := by
  obtain ⟨hF, ⟨tc, tm, hs, ⟨c1, c2, c3, c4⟩, m1, m2, m3, m4, m5⟩, e1, e2, e3, e4⟩ := id h
  have iN : ∀ a b : Nat, a < 10 → b < 10 → Int32.ofNat a = Int32.ofNat b → a = b := fun a b ha hb e => by have := t_eq.mp e; rw [t_ofNat (by omega), t_ofNat (by omega)] at this; omega
  have so4 : q_so B n st ≤ 4 := by unfold q_so; have := q_kd_b (B st); split <;> (try split) <;> omega
  unfold f_X3_takeSemicolon f_X9_ends
  rw [m_gd_t hF.o1, m_gd_t h.M.o]
  by_cases q : q_so B n st = 3
  · have s4 : S.1 (x + 1) 4 = 3 := by rw [c3, q]; rfl
    have t16 : T.1 m 16 = 3 := by rw [m3, q]; rfl
    obtain ⟨st', S', T', g1, r1, hP, f1, f2, f3, f4⟩ := q_P_next h
    rw [if_pos s4, if_pos t16, g1, m_bw_s, m_bx_s, e_wrong0 h.M e1, m_b1_s, if_neg (show ¬ ¬ (0 : Int32) = 0 from fun z => z rfl), r1, m_bw_s, m_bw_s]
    exact ok st' S' T' hP f1 f2 f3 f4
  · have s4 : ¬ S.1 (x + 1) 4 = 3 := by rw [c3]; exact fun z => q (iN _ 3 (by omega) (by omega) z)
    have t16 : ¬ T.1 m 16 = 3 := by rw [m3]; exact fun z => q (iN _ 3 (by omega) (by omega) z)
    obtain ⟨S', T', g1, r1, hE, hw⟩ := q_P_fail h (c := 1) z10
    refine q_E_er (S' := S') (T' := T') hE ?_ ?_
    · rw [if_neg s4, g1, m_bx_e, m_bx_e]
    · rw [if_neg t16, r1, m_bw_s, e_wrong1 hw, m_b1_s, if_pos z10, m_bw_s]
      exact wr T' hw
/-! the reference in the wrong: nothing but writes -/
theorem q_W_fig {km : Int32 → m_S → Option (Unit × m_S)} (h : q_wr Z m T) (p1 p2 : Int32) (k : q_W m T (km p1 T)) : q_W m T (m_bw (f_X9_figure Z T m p1 p2) km) := by
  unfold f_X9_figure
  rw [m_gd_t h.1.o, e_wrong1 h, m_b1_s, if_neg z10, m_bw_s]
  exact k
theorem q_W_ends {km : Unit → m_S → Option (Unit × m_S)} (h : q_wr Z m T) (k : q_W m T (km () T)) : q_W m T (m_bw (f_X9_ends Z T m) km) := by
  unfold f_X9_ends
  rw [m_gd_t h.1.o, e_wrong1 h, m_b1_s, if_pos z10, e_fails1 h, m_bw_s, e_wrong1 h, m_b1_s, if_pos z10]
  split <;> exact k
theorem q_wr_I (h : q_wr Z m T) {b k : Nat} {v : Int32} (hb : b = m + 2 ∨ b = m + 6) : q_wr Z m (m_pI T b k v) := ⟨h.1, by rw [pI_ne (by omega)]; exact h.2⟩
theorem q_W_set {b k : Nat} {v : Int32} {km : m_S → Option (Unit × m_S)} (hb : b = m + 2 ∨ b = m + 6) (h : q_W m (m_pI T b k v) (km (m_pI T b k v))) : q_W m T (m_lt (m_pI T b k v) km) := by
  obtain ⟨T', e1, e2, e3⟩ := h
  exact ⟨T', e1, q_ag_trans (q_ag_I (q_ag_refl _ _) (by omega)) e2, e3⟩
theorem q_W_done : q_W m T (some ((), T)) := ⟨T, rfl, q_ag_refl _ _, rfl⟩
end PARSE
