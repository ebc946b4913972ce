section CASEB
variable {Z : m_Z} {x m pd n st ns nv nk nc nq : Nat} {B : Nat → Int32} {S0 T0 S T : m_S}
theorem q_vpb_of {R : Nat → Nat → Option Nat} (hZ : q_ZL Z x) (hR : q_RS R x 0 341) (hpd : pd = x + 5 ∨ pd = x + 71) : R pd 9 = some (pd + 5) ∧ m_okn Z (pd + 5) 18 6 := by
  rcases hpd with e | e
  · subst e; exact ⟨hR.g (a := 5) (k := 9) (v := 10) (by decide +kernel), hZ.g (j := 10) (by decide +kernel)⟩
  · subst e; exact ⟨hR.g (a := 71) (k := 9) (v := 76) (by decide +kernel), hZ.g (j := 76) (by decide +kernel)⟩
theorem q_vref_of {R : Nat → Nat → Option Nat} (hZ : q_ZL Z x) (hR : q_RS R x 0 341) (hpd : pd = x + 5 ∨ pd = x + 71) {c : Nat} (hc : c < 6) : R (pd + 5) c = some (pd + 18 + 8 * c) ∧ q_V Z R (pd + 18 + 8 * c) := by
  have h6 : c = 0 ∨ c = 1 ∨ c = 2 ∨ c = 3 ∨ c = 4 ∨ c = 5 := by omega
  rcases hpd with e | e
  · subst e
    rcases h6 with rfl | rfl | rfl | rfl | rfl | rfl
    · exact ⟨hR.g (a := 10) (k := 0) (v := 23) (by decide +kernel), q_V_of (v := 23) hZ hR (by decide +kernel)⟩
    · exact ⟨hR.g (a := 10) (k := 1) (v := 31) (by decide +kernel), q_V_of (v := 31) hZ hR (by decide +kernel)⟩
    · exact ⟨hR.g (a := 10) (k := 2) (v := 39) (by decide +kernel), q_V_of (v := 39) hZ hR (by decide +kernel)⟩
    · exact ⟨hR.g (a := 10) (k := 3) (v := 47) (by decide +kernel), q_V_of (v := 47) hZ hR (by decide +kernel)⟩
    · exact ⟨hR.g (a := 10) (k := 4) (v := 55) (by decide +kernel), q_V_of (v := 55) hZ hR (by decide +kernel)⟩
    · exact ⟨hR.g (a := 10) (k := 5) (v := 63) (by decide +kernel), q_V_of (v := 63) hZ hR (by decide +kernel)⟩
  · subst e
    rcases h6 with rfl | rfl | rfl | rfl | rfl | rfl
    · exact ⟨hR.g (a := 76) (k := 0) (v := 89) (by decide +kernel), q_V_of (v := 89) hZ hR (by decide +kernel)⟩
    · exact ⟨hR.g (a := 76) (k := 1) (v := 97) (by decide +kernel), q_V_of (v := 97) hZ hR (by decide +kernel)⟩
    · exact ⟨hR.g (a := 76) (k := 2) (v := 105) (by decide +kernel), q_V_of (v := 105) hZ hR (by decide +kernel)⟩
    · exact ⟨hR.g (a := 76) (k := 3) (v := 113) (by decide +kernel), q_V_of (v := 113) hZ hR (by decide +kernel)⟩
    · exact ⟨hR.g (a := 76) (k := 4) (v := 121) (by decide +kernel), q_V_of (v := 121) hZ hR (by decide +kernel)⟩
    · exact ⟨hR.g (a := 76) (k := 5) (v := 129) (by decide +kernel), q_V_of (v := 129) hZ hR (by decide +kernel)⟩
theorem q_Ks_g {kb : Nat} {S S' : m_S} {p p' : Nat → Int32} (h : q_Ks Z kb nk S p) (hS : ∀ b j, kb ≤ b → b < kb + 12 → S'.1 b j = S.1 b j) (hR : ∀ b j, kb ≤ b → b < kb + 12 → S'.2.2 b j = S.2.2 b j) (hp : ∀ j, 54 ≤ j → j < 110 → p' j = p j) : q_Ks Z kb nk S' p' := by
  obtain ⟨h4, hK⟩ := h
  refine ⟨h4, fun k hk => ?_⟩
  obtain ⟨⟨o1, ⟨r1, o2⟩, r2, o3⟩, ⟨kB1, kB2, kB3, kB4⟩, kC1, ⟨⟨kC2, kC2'⟩, kC3, kC4⟩, kC5, kC6⟩ := hK k hk
  have nn : q_nn p' k = q_nn p k := by unfold q_nn; rw [hp _ (by omega) (by omega)]
  refine ⟨⟨o1, ⟨by rw [hR _ _ (by omega) (by omega)]; exact r1, o2⟩, by rw [hR _ _ (by omega) (by omega)]; exact r2, o3⟩, ⟨?_, ?_, ?_, fun j hj => ?_⟩, ?_, ⟨⟨by rw [nn]; exact kC2, by rw [nn]; exact kC2'⟩, fun j hj => ?_, fun j hj => ?_⟩, ?_, ?_⟩
  · rw [hS _ _ (by omega) (by omega)]; exact kB1
  · rw [hS _ _ (by omega) (by omega), hp _ (by omega) (by omega)]; exact kB2
  · rw [hS _ _ (by omega) (by omega), hp _ (by omega) (by omega)]; exact kB3
  · rw [nn] at hj
    have := kB4 j hj
    unfold q_x q_y at this ⊢
    rw [hS _ _ (by omega) (by omega), hS _ _ (by omega) (by omega), hp _ (by omega) (by omega), hp _ (by omega) (by omega)]; exact this
  · rw [nn, hp _ (by omega) (by omega)]; exact kC1
  · rw [nn] at hj
    have := kC3 j hj
    unfold q_x q_y at this ⊢
    rw [hp _ (by omega) (by omega), hp _ (by omega) (by omega)]; exact this
  · rw [nn] at hj
    have := kC4 j hj
    unfold q_x q_y at this ⊢
    rw [hp _ (by omega) (by omega), hp _ (by omega) (by omega), hp _ (by omega) (by omega), hp _ (by omega) (by omega)]; exact this
  · rw [hp _ (by omega) (by omega)]; exact kC5
  · rw [hp _ (by omega) (by omega)]; exact kC6
theorem q_set9_g {pb nc' : Nat} {S S' : m_S} {p p' : Nat → Int32} (h : q_set9 Z pb ns nk nc S p) (hS : ∀ b j, pb ≤ b → b < pb + 4 → ¬ (b = pb ∧ (j = 8 ∨ j = 10)) → S'.1 b j = S.1 b j) (hR : ∀ j, S'.2.2 pb j = S.2.2 pb j) (hp : ∀ j, j < 54 → ¬ j = 5 → p' j = p j) (h8 : S'.1 pb 8 = Int32.ofNat nc') (h5 : p' 5 = Int32.ofNat nc') (h6 : nc' ≤ 6) : q_set9 Z pb ns nk nc' S' p' := by
  obtain ⟨⟨o5, ⟨rd1, od1⟩, ⟨rd2, od2⟩, rd3, od3⟩, ⟨w0, w1, w2, w3, w4, w5, w6, w7⟩, hds, hv, hws, hk4, hc6⟩ := h
  have n12 := hws.1
  refine ⟨⟨o5, ⟨by rw [hR]; exact rd1, od1⟩, ⟨by rw [hR]; exact rd2, od2⟩, by rw [hR]; exact rd3, od3⟩, ⟨?_, ?_, ?_, ?_, ?_, ?_, h8, h5⟩, fun i hi => ?_, fun i hi => ?_, ?_, hk4, h6⟩
  · rw [hS _ _ (by omega) (by omega) (by omega), hp _ (by omega) (by omega)]; exact w0
  · rw [hS _ _ (by omega) (by omega) (by omega), hp _ (by omega) (by omega)]; exact w1
  · rw [hS _ _ (by omega) (by omega) (by omega)]; exact w2
  · rw [hp _ (by omega) (by omega)]; exact w3
  · rw [hS _ _ (by omega) (by omega) (by omega)]; exact w4
  · rw [hp _ (by omega) (by omega)]; exact w5
  · have := hds i hi
    unfold q_d q_s at this ⊢
    rw [hS _ _ (by omega) (by omega) (by omega), hS _ _ (by omega) (by omega) (by omega), hp _ (by omega) (by omega), hp _ (by omega) (by omega)]; exact this
  · rw [hS _ _ (by omega) (by omega) (by omega), hp _ (by omega) (by omega)]; exact hv i hi
  · exact q_ws_congr (fun j hj => by
      unfold q_d q_s
      exact ⟨hp _ (by omega) (by omega), hp _ (by omega) (by omega)⟩) hws
theorem q_row_lo (p a : Nat → Int32) {c w : Nat} (h4 : 4 ≤ w) (h12 : w < 12) : q_row p a (w + 56 * c) = a (w + 56 * c) := if_neg (fun z => by
  have z1 := z.1
  have z2 := z.2.1
  omega)
/-- a case's end: the semicolon, and the counts -/
theorem q_caseE {S6 T6 : m_S} (h : q_P Z x m pd n B S0 T0 st S6 T6) (hD : q_D Z x m pd ns nv nk nc (fun _ => 0) nq S T) (hn : nc < 6) (fS : q_ag (fun b k => ¬ (b = x + 1 ∧ 4 ≤ k ∧ k ≤ 7) ∧ ¬ (b = x + 4 ∧ k = nc) ∧ ¬ (b = pd + 18 + 8 * nc)) S S6) (fR : S6.2.2 = S.2.2) (fT : q_ag (fun b k => ¬ (b = m ∧ ((14 ≤ k ∧ k ≤ 17) ∨ k = 20)) ∧ ¬ (b = m + 13 ∧ k = nc) ∧ ¬ (b = m + 2 ∧ k = 110 + nc) ∧ ¬ (b = m + 6 ∧ 4 + 56 * nc ≤ k ∧ k < 8 + 56 * nc)) T T6) (hnm : ∃ f l, l ≤ 8 ∧ (∀ k, k < l → 1 ≤ f k ∧ f k ≤ 26) ∧ S6.2.1 (x + 4) nc = Int64.ofNat (q_fo 32 f l) ∧ T6.2.1 (m + 13) nc = Int64.ofNat (q_fo 27 f l)) (hv : S6.1 (pd + 18 + 8 * nc) 0 = T6.1 (m + 2) (110 + nc) ∧ S6.1 (pd + 18 + 8 * nc) 1 = T6.1 (m + 6) (4 + 56 * nc) ∧ S6.1 (pd + 18 + 8 * nc) 2 = T6.1 (m + 6) (5 + 56 * nc) ∧ S6.1 (pd + 18 + 8 * nc) 3 = T6.1 (m + 6) (6 + 56 * nc) ∧ S6.1 (pd + 18 + 8 * nc) 4 = T6.1 (m + 6) (7 + 56 * nc) ∧ S6.1 (pd + 18 + 8 * nc) 5 = 0) (hw : (100 ≤ (T6.1 (m + 2) (110 + nc)).toInt ∧ (T6.1 (m + 2) (110 + nc)).toInt ≤ 9999) ∧ (0 ≤ (T6.1 (m + 6) (4 + 56 * nc)).toInt ∧ (T6.1 (m + 6) (4 + 56 * nc)).toInt ≤ 1000) ∧ 0 ≤ (T6.1 (m + 6) (7 + 56 * nc)).toInt ∧ (T6.1 (m + 6) (7 + 56 * nc)).toInt < 20000) : q_E Z x m pd S0 T0 (fun S' T' => (∃ st', q_P Z x m pd n B S0 T0 st' S' T') ∧ q_D Z x m pd ns nv nk (nc + 1) (fun _ => 0) nq S' T') (m_bx (f_X3_takeSemicolon Z S6 (x + 1)) (fun _u S40 => m_lt (m_pI S40 pd 8 (Int32.ofNat nc + (1 : Int32))) (fun S42 => some ((.ok ()), S42)))) (m_b1 (T6.2.2 m 2) (fun b63 => m_gd (m_ok Z b63 11) (m_gd (m_in (5 : Int32) (Z.2.2 b63)) (m_gd (m_in (5 : Int32) (Z.2.2 b63)) (m_lt (m_pI T6 b63 (5 : Int32).toNatClampNeg ((T6.1 b63 (5 : Int32).toNatClampNeg) + (1 : Int32))) (fun S68 => m_bw (f_X9_ends Z S68 m) (fun _u S71 => some ((), S71)))))))) := by
  have hm := h.em
  have hpd := h.pdr
  obtain ⟨hs9, hnv, hK, ⟨hq1, hq2, hq3⟩, ⟨hn1, hn2⟩, hcs, hz, hser⟩ := hD
  have hws12 : ns ≤ 12 := hs9.2.2.2.2.1.1
  have w7 : T.1 (m + 2) 5 = Int32.ofNat nc := hs9.2.1.2.2.2.2.2.2.2
  have i5 : m_in (5 : Int32) (Z.2.2 (m + 2)) := q_inl (wi := 5) (i := 5) rfl h.M.told.2 (by omega) (by omega)
  have t5 : (5 : Int32).toNatClampNeg = 5 := rfl
  obtain ⟨T7, hT7⟩ : ∃ y, y = m_pI T6 (m + 2) 5 (Int32.ofNat (nc + 1)) := ⟨_, rfl⟩
  have b7 : q_ag (fun b k => ¬ (b = m + 2 ∧ k = 5)) T6 T7 := by rw [hT7]; exact q_ag_I (q_ag_refl _ _) (by omega)
  have hP7 : q_P Z x m pd n B S0 T0 st S6 T7 := h.go (q_ag_refl _ _) h.rs (q_ag_sub b7 (fun b k hb => by omega)) (by rw [hT7]; rfl)
  rw [h.M.told.1, m_b1_s, m_gd_t h.M.told.2.1, m_gd_t i5, m_gd_t i5, t5, show T6.1 (m + 2) 5 = Int32.ofNat nc by rw [(fT _ _ (by omega)).1]; exact w7, io_one, ← hT7, m_lt_s]
  refine q_E_semi hP7 (fun st9 S9 T9 hP9 e1 e2 e3 e4 => ?_) (fun T' hw => q_W_done)
  obtain ⟨S10, hS10⟩ : ∃ y, y = m_pI S9 pd 8 (Int32.ofNat (nc + 1)) := ⟨_, rfl⟩
  have b10 : q_ag (fun b j => ¬ (b = pd ∧ j = 8)) S9 S10 := by rw [hS10]; exact q_ag_I (q_ag_refl _ _) (by omega)
  have r10 : S10.2 = S6.2 := by rw [hS10]; exact e2
  have r10R : S10.2.2 = S.2.2 := by rw [r10]; exact fR
  have sA : ∀ b j, b ≠ x + 1 → ¬ (b = pd ∧ j = 8) → S10.1 b j = S6.1 b j := fun b j h1 h2 => by rw [(b10 _ _ h2).1, (e1 _ _ (by omega)).1]
  have sB : ∀ b j, b ≠ x + 1 → b ≠ x + 4 → ¬ (b = pd ∧ j = 8) → ¬ (b = pd + 18 + 8 * nc) → S10.1 b j = S.1 b j := fun b j h1 h2 h3 h4 => by rw [sA b j h1 h3]; exact (fS _ _ (by omega)).1
  have tA : ∀ b j, b ≠ m → ¬ (b = m + 2 ∧ j = 5) → T9.1 b j = T6.1 b j := fun b j h1 h2 => by rw [(e3 _ _ (by omega)).1, (b7 _ _ h2).1]
  have tB : ∀ b j, b ≠ m → b ≠ m + 13 → ¬ (b = m + 2 ∧ (j = 5 ∨ j = 110 + nc)) → ¬ (b = m + 6 ∧ 4 + 56 * nc ≤ j ∧ j < 8 + 56 * nc) → T9.1 b j = T.1 b j := fun b j h1 h2 h3 h4 => by rw [tA b j h1 (by omega)]; exact (fT _ _ (by omega)).1
  have tJ6 : ∀ b j, b ≠ m → b ≠ m + 2 → T9.2.1 b j = T6.2.1 b j := fun b j h1 h2 => by rw [(e3 _ _ (by omega)).2.1, (b7 _ _ (by omega)).2.1]
  have sJ6 : ∀ b j, S10.2.1 b j = S6.2.1 b j := fun b j => by rw [r10]
  rw [← hS10, m_lt_s]
  obtain ⟨v0, v1, v2, v3, v4, v5⟩ := hv
  obtain ⟨u1, u2, u3⟩ := hw
  refine Or.inl ⟨S10, T9, rfl, rfl, ⟨st9, hP9.go (q_ag_sub b10 (fun b k hb => by omega)) (by rw [r10R, ← fR]; exact h.rs) (q_ag_refl _ _) rfl⟩, q_set9_g hs9 (fun b j h1 h2 h3 => sB b j (by omega) (by omega) (by omega) (by omega)) (fun j => by rw [r10R]) (fun j h1 h2 => tB _ _ (by omega) (by omega) (by omega) (by omega)) (by rw [hS10, pI_same]) ?_ (by omega), ?_, q_Ks_g hK (fun b j h1 h2 => sB b j (by omega) (by omega) (by omega) (by omega)) (fun b j _ _ => by rw [r10R]) (fun j h1 h2 => tB _ _ (by omega) (by omega) (by omega) (by omega)), ⟨?_, ?_, fun k hk => ?_⟩, ⟨fun j hj => ?_, fun j hj => ?_⟩, fun c hc => ?_, fun c k h1 h2 h3 h4 => ?_, ?_⟩
  · rw [(e3 _ _ (by omega)).1, hT7, pI_same]
  · rw [tB _ _ (by omega) (by omega) (by omega) (by omega)]; exact hnv
  · rw [sB _ _ (by omega) (by omega) (by omega) (by omega)]; exact hq1
  · rw [tB _ _ (by omega) (by omega) (by omega) (by omega)]; exact hq2
  · rw [tB _ _ (by omega) (by omega) (by omega) (by omega)]; exact hq3 k hk
  · have k4 := hK.1
    obtain ⟨g, l', z1, z2, z3, z4⟩ := hn1 j hj
    exact ⟨g, l', z1, z2, by rw [sJ6, (fS _ _ (by omega)).2.1]; exact z3, by rw [tJ6 _ _ (by omega) (by omega), (fT _ _ (by omega)).2.1]; exact z4⟩
  · by_cases q : j = nc
    · obtain ⟨g, l', z1, z2, z3, z4⟩ := hnm
      rw [q]
      exact ⟨g, l', z1, z2, by rw [sJ6]; exact z3, by rw [tJ6 _ _ (by omega) (by omega)]; exact z4⟩
    · obtain ⟨g, l', z1, z2, z3, z4⟩ := hn2 j (by omega)
      exact ⟨g, l', z1, z2, by rw [sJ6, (fS _ _ (by omega)).2.1]; exact z3, by rw [tJ6 _ _ (by omega) (by omega), (fT _ _ (by omega)).2.1]; exact z4⟩
  · refine ⟨Nat.zero_le _, ?_⟩
    have rl : ∀ w, 4 ≤ w → w < 12 → q_row (T9.1 (m + 2)) (T9.1 (m + 6)) (w + 56 * c) = T9.1 (m + 6) (w + 56 * c) := fun w h1 h2 => q_row_lo _ _ h1 h2
    unfold q_vit q_wv
    rw [rl 4 (by omega) (by omega), rl 5 (by omega) (by omega), rl 6 (by omega) (by omega), rl 7 (by omega) (by omega), rl 8 (by omega) (by omega)]
    by_cases q : c = nc
    · subst q
      have z8 : T9.1 (m + 6) (8 + 56 * c) = 0 := by rw [tB _ _ (by omega) (by omega) (by omega) (by omega)]; exact hz c _ (Nat.le_refl _) (by omega) (by omega) (by omega)
      refine ⟨⟨?_, ?_, ?_, ?_, ?_, ?_, z8, fun k hk => absurd hk (Nat.not_lt_zero k)⟩, ⟨?_, ?_, ?_, Nat.zero_le _, fun k hk => absurd hk (Nat.not_lt_zero k)⟩, ?_⟩
      · rw [sA _ _ (by omega) (by omega), tA _ _ (by omega) (by omega)]; exact v0
      · rw [sA _ _ (by omega) (by omega), tA _ _ (by omega) (by omega)]; exact v1
      · rw [sA _ _ (by omega) (by omega), tA _ _ (by omega) (by omega)]; exact v2
      · rw [sA _ _ (by omega) (by omega), tA _ _ (by omega) (by omega)]; exact v3
      · rw [sA _ _ (by omega) (by omega), tA _ _ (by omega) (by omega)]; exact v4
      · rw [sA _ _ (by omega) (by omega)]; exact v5
      · rw [tA _ _ (by omega) (by omega)]; exact u1
      · rw [tA _ _ (by omega) (by omega)]; exact u2
      · rw [tA _ _ (by omega) (by omega)]; exact u3
      · rw [tB _ _ (by omega) (by omega) (by omega) (by omega)]; exact hz c _ (Nat.le_refl _) (by omega) (by omega) (by omega)
    · obtain ⟨-, c1, c2, c3⟩ := hcs c (by omega)
      have rl' : ∀ w, 4 ≤ w → w < 12 → q_row (T.1 (m + 2)) (T.1 (m + 6)) (w + 56 * c) = T.1 (m + 6) (w + 56 * c) := fun w h1 h2 => q_row_lo _ _ h1 h2
      unfold q_vit at c1
      unfold q_wv at c2
      rw [rl' 4 (by omega) (by omega), rl' 5 (by omega) (by omega), rl' 6 (by omega) (by omega), rl' 7 (by omega) (by omega), rl' 8 (by omega) (by omega)] at c1
      rw [rl' 4 (by omega) (by omega), rl' 7 (by omega) (by omega)] at c2
      obtain ⟨y0, y1, y2, y3, y4, y5, y6, -⟩ := c1
      obtain ⟨x1, x2, x3, -⟩ := c2
      have ts : ∀ w, w < 12 → 4 ≤ w → T9.1 (m + 6) (w + 56 * c) = T.1 (m + 6) (w + 56 * c) := fun w h1 h2 => tB _ _ (by omega) (by omega) (by omega) (by omega)
      have tv : T9.1 (m + 2) (110 + c) = T.1 (m + 2) (110 + c) := tB _ _ (by omega) (by omega) (by omega) (by omega)
      have ss : ∀ k, S10.1 (pd + 18 + 8 * c) k = S.1 (pd + 18 + 8 * c) k := fun k => sB _ _ (by omega) (by omega) (by omega) (by omega)
      rw [ts 4 (by omega) (by omega), ts 5 (by omega) (by omega), ts 6 (by omega) (by omega), ts 7 (by omega) (by omega), ts 8 (by omega) (by omega), ts 9 (by omega) (by omega), tv, ss, ss, ss, ss, ss, ss]
      exact ⟨⟨y0, y1, y2, y3, y4, y5, y6, fun k hk => absurd hk (Nat.not_lt_zero k)⟩, ⟨x1, x2, x3, Nat.zero_le _, fun k hk => absurd hk (Nat.not_lt_zero k)⟩, c3⟩
  · rw [tB _ _ (by omega) (by omega) (by omega) (by omega)]; exact hz c k (by omega) h2 h3 h4
  · obtain ⟨q, q1, q2, -, -⟩ := hser
    exact ⟨q, q1, by rw [tB _ _ (by omega) (by omega) (by omega) (by omega)]; exact q2, fun c k _ hk => absurd hk (Nat.not_lt_zero k), fun c k c' k' _ hk => absurd hk (Nat.not_lt_zero k)⟩
end CASEB
