theorem q_log_cp2 {l l' c t : Nat} {S S' : m_S} {a a' : Nat → Int32} {b b' : Nat → Int64} (h : q_log S l a b c t) (hJ : ∀ k, k < 8 → ¬ (k = 4 ∨ k = 5 ∨ k = 6) → S'.2.1 l' k = S.2.1 l k) (hI : ∀ k, 4 ≤ k → k < 7 → S'.1 l' k = S.1 l k) (hr : ∀ j, j < 24 → S'.1 (l' + 1) j = S.1 (l + 1) j) (ha : ∀ k, 4 + 56 * c ≤ k → k < 60 + 56 * c → a' k = a k) (hb : ∀ k, 5 * c ≤ k → k < 5 * c + 5 → b' k = b k) : q_log S' l' a' b' c t := by
  obtain ⟨⟨l0, l1, l2, l3, l7⟩, l4, l5, l6, lr⟩ := h
  refine ⟨⟨?_, ?_, ?_, ?_, ?_⟩, ?_, ?_, ?_, fun j j1 j2 => ?_⟩
  · rw [hJ _ (by omega) (by omega), hb _ (by omega) (by omega)]; exact l0
  · rw [hJ _ (by omega) (by omega), hb _ (by omega) (by omega)]; exact l1
  · rw [hJ _ (by omega) (by omega), hb _ (by omega) (by omega)]; exact l2
  · rw [hJ _ (by omega) (by omega), hb _ (by omega) (by omega)]; exact l3
  · rw [hJ _ (by omega) (by omega), hb _ (by omega) (by omega)]; exact l7
  · rw [hI _ (by omega) (by omega), ha _ (by omega) (by omega)]; exact l4
  · rw [hI _ (by omega) (by omega), ha _ (by omega) (by omega)]; exact l5
  · rw [hI _ (by omega) (by omega), ha _ (by omega) (by omega)]; exact l6
  · rw [hr _ (by omega), ha _ (by omega) (by omega)]; exact lr j j1 j2
theorem q_G_cg {Z : m_Z} {R R' : Nat → Nat → Option Nat} {l : Nat} (g : q_G Z R l) (h : R' l 8 = R l 8) : q_G Z R' l := ⟨g.1, by rw [h]; exact g.2.1, g.2.2⟩
/-- refs that stay when a state is written -/
def q_rf (sb : Nat) (S S' : m_S) : Prop := ∀ b j, ¬ (∃ c k, c < 6 ∧ k < 6 ∧ b = sb + 6 + 10 * c + k) → S'.2.2 b j = S.2.2 b j
theorem g_copyS {Z : m_Z} {kb nk nc t sd ss : Nat} {cnt : Nat → Nat} {S : m_S} {p a : Nat → Int32} {b : Nat → Int64} (g : q_St Z S.2.2 sd) (gs : q_St Z S.2.2 ss) (hap : sd + 64 ≤ ss ∨ ss + 64 ≤ sd) (nc6 : nc ≤ 6) (h : q_state kb nk nc cnt S ss p a b t) : ∃ S', f_X6_copyFrom Z S sd ss = some ((), S') ∧ q_state kb nk nc cnt S' sd p a b t ∧ q_ag (fun b _ => ¬ (sd ≤ b ∧ b < sd + 64)) S S' ∧ q_rf sd S S' := by
  obtain ⟨⟨y0, y0'⟩, y1, y2, y3, y4, y5⟩ := h
  obtain ⟨S1, e1, r1, a1, j1⟩ := g_copyR (S := S) (r := sd + 1) (s := ss + 1) g.2.1.2 gs.2.1.2 (by omega)
  obtain ⟨S2, hS2⟩ : ∃ y, y = m_pI S1 sd 1 (S1.1 ss 1) := ⟨_, rfl⟩
  obtain ⟨S3, hS3⟩ : ∃ y, y = m_pI S2 sd 2 (S2.1 ss 2) := ⟨_, rfl⟩
  have i3 : ∀ b k, ¬ (b = sd + 1) → ¬ (b = sd ∧ (k = 1 ∨ k = 2)) → S3.1 b k = S.1 b k := fun b k q1 q2 => by rw [hS3, pI_ne (by omega), hS2, pI_ne (by omega)]; exact a1 b k q1
  have x3 : S3.2 = S.2 := by rw [hS3, hS2]; exact j1
  have c1 : S3.1 sd 1 = a 3 := by rw [hS3, pI_ne (by omega), hS2, pI_same, a1 _ _ (by omega)]; exact y3
  have c2 : S3.1 sd 2 = Int32.ofNat nc := by rw [hS3, pI_same, hS2, pI_ne (by omega), a1 _ _ (by omega)]; exact y4
  have rr : ∀ k, k < 3 → S3.1 (sd + 1) k = S.1 (ss + 1) k := fun k hk => by rw [hS3, pI_ne (by omega), hS2, pI_ne (by omega)]; exact r1 k hk
  obtain ⟨U, hU, hr⟩ := q_loop0 (F := F_X6_copyFrom_29 Z sd ss (fun (S14 : m_S) => some ((), S14))) (j := fun (S14 : m_S) => some ((), S14)) (N := nc) (fun i U => (∀ c, c < i → q_cs kb nk (cnt c) U (sd + 4 + 10 * c) p a b c t) ∧ q_ag (fun b k => ¬ (sd + 4 ≤ b ∧ b < sd + 64)) S3 U ∧ q_rf sd S3 U) (by omega) (fun i U hi hI => by
      obtain ⟨h1, h2, h3⟩ := hI
      have gU : q_V Z U.2.2 (sd + 4 + 10 * i) := q_V_cgr (g.2.2.2.2 i (by omega)).2.2.1 (fun b j hb => by rw [h3 b j (by rintro ⟨c, k, q1, q2, q3⟩; omega), x3])
      have gwU : q_V Z U.2.2 (ss + 4 + 10 * i) := q_V_cgr (gs.2.2.2.2 i (by omega)).2.2.1 (fun b j hb => by rw [(h2 b j (by omega)).2.2, x3])
      have hs := y5 i hi
      have n6 : cnt i ≤ 6 := hs.2.1.2.2.2.1
      have hs' : q_cs kb nk (cnt i) U (ss + 4 + 10 * i) p a b i t := q_cs_ag hs (fun b k hb => ⟨by rw [(h2 _ _ (by omega)).1]; exact i3 _ _ (by omega) (by omega), by rw [(h2 _ _ (by omega)).2.1, x3], by rw [(h2 _ _ (by omega)).2.2, x3]⟩) (fun _ _ _ => rfl) (fun _ _ _ => rfl)
      obtain ⟨V, eV, v1, v2, v3, v4, v5⟩ := g_copyV gU gwU hs'.1.2.2.2.2.2.1 n6 (by omega) (q_kind_ex hs'.1)
      have gl : q_G Z V.2.2 (sd + 4 + 10 * i + 8) := q_G_cg (g.2.2.2.2 i (by omega)).2.2.2 (by rw [v4 _ _ (by omega), h3 _ _ (by rintro ⟨c, k, q1, q2, q3⟩; omega), x3])
      have gls : q_G Z V.2.2 (ss + 4 + 10 * i + 8) := q_G_cg (gs.2.2.2.2 i (by omega)).2.2.2 (by rw [v4 _ _ (by omega), (h2 _ _ (by omega)).2.2, x3])
      obtain ⟨W, eW, w1, w2, w3, w4, w5⟩ := g_copyL gl gls (by omega)
      have aUW : q_ag (fun b k => ¬ (sd + 4 + 10 * i ≤ b ∧ b < sd + 14 + 10 * i)) U W := q_ag_trans (q_ag_sub v3 (fun b k hb => by omega)) (q_ag_sub w4 (fun b k hb => by omega))
      refine ⟨W, ⟨fun c hc => ?_, q_ag_trans h2 (q_ag_sub aUW (fun b k hb => by omega)), fun b j hb => ?_⟩, fun lp => ?_⟩
      · by_cases e : c = i
        · subst e
          refine ⟨q_vit_cp hs'.1 (fun k hk => by rw [(w4 _ _ (by omega)).1]; exact v1 k hk) (fun j hj => ⟨fun k hk hk1 => by rw [(w4 _ _ (by omega)).1]; exact (v2 j hj).1 k hk hk1, by rw [w5]; exact (v2 j hj).2⟩) (fun _ _ _ => rfl), hs'.2.1, q_log_cp2 hs'.2.2 (fun k hk hk2 => by rw [w1 k hk hk2, v5]) (fun k hk hk2 => by rw [w2 k hk hk2]; exact (v3 _ _ (by omega)).1) (fun j hj => by rw [w3 j hj]; exact (v3 _ _ (by omega)).1) (fun _ _ _ => rfl) (fun _ _ _ => rfl)⟩
        · exact q_cs_ag (h1 c (by omega)) (q_ag_sub aUW (fun b k hb => by omega)) (fun _ _ _ => rfl) (fun _ _ _ => rfl)
      · rw [w5, v4 _ _ (fun q => hb ⟨i, b - (sd + 6 + 10 * i), by omega, by omega, by omega⟩)]; exact h3 b j hb
      · have r : ∀ b j, b < sd + 4 ∧ sd ≤ b → U.2.2 b j = S.2.2 b j := fun b j hb => by rw [(h2 _ _ (by omega)).2.2, x3]
        have rs : ∀ b j, b < ss + 4 ∧ ss ≤ b → U.2.2 b j = S.2.2 b j := fun b j hb => by rw [(h2 _ _ (by omega)).2.2, x3]
        have rV : ∀ b j, b < sd + 4 ∧ sd ≤ b → V.2.2 b j = S.2.2 b j := fun b j hb => by rw [v4 _ _ (by omega)]; exact r b j hb
        have rVs : ∀ b j, b < ss + 4 ∧ ss ≤ b → V.2.2 b j = S.2.2 b j := fun b j hb => by rw [v4 _ _ (by omega)]; exact rs b j hb
        have e2 : U.1 sd 2 = Int32.ofNat nc := by rw [(h2 _ _ (by omega)).1]; exact c2
        have gi := g.2.2.2.2 i (by omega)
        have gsi := gs.2.2.2.2 i (by omega)
        unfold F_X6_copyFrom_29
        simp only [io_tn (show i < 2147483648 by omega)]
        rw [if_neg (show ¬ U.1 sd 2 ≤ Int32.ofNat i from by rw [e2]; exact fun q => absurd ((io_le (by omega) (by omega)).mp q) (by omega)), if_neg (show ¬ (6 : Int32) ≤ Int32.ofNat i from fun q => absurd ((io_le (a := 6) (by omega) (by omega)).mp q) (by omega)), r _ _ (by omega), g.2.2.1.1, m_b1_s, m_gd_t g.2.2.1.2.1, m_gd_t (q_inn g.2.2.1.2 (by omega) (by omega)), r _ _ (by omega), gi.1, m_b1_s, rs _ _ (by omega), gs.2.2.1.1, m_b1_s, m_gd_t gs.2.2.1.2.1, m_gd_t (q_inn gs.2.2.1.2 (by omega) (by omega)), rs _ _ (by omega), gsi.1, m_b1_s, m_gd_t gU.1, eV, m_bw_s, rV _ _ (by omega), g.2.2.2.1.1, m_b1_s, m_gd_t g.2.2.2.1.2.1, m_gd_t (q_inn g.2.2.2.1.2 (by omega) (by omega)), rV _ _ (by omega), gi.2.1, m_b1_s, rVs _ _ (by omega), gs.2.2.2.1.1, m_b1_s, m_gd_t gs.2.2.2.1.2.1, m_gd_t (q_inn gs.2.2.2.1.2 (by omega) (by omega)), rVs _ _ (by omega), gsi.2.1, m_b1_s, m_gd_t gl.1, eW, m_bw_s, m_lt_s, io_one])
    (fun U hI lp => by
      obtain ⟨h1, h2, h3⟩ := hI
      have e2 : U.1 sd 2 = Int32.ofNat nc := by rw [(h2 _ _ (by omega)).1]; exact c2
      unfold F_X6_copyFrom_29
      simp only []
      rw [if_pos (show U.1 sd 2 ≤ Int32.ofNat nc from by rw [e2]; exact Int32.le_refl _)]) S3 ⟨fun c hc => absurd hc (Nat.not_lt_zero _), q_ag_refl _ _, fun _ _ _ => rfl⟩
  obtain ⟨h1, h2, h3⟩ := hU
  refine ⟨U, ?_, ⟨⟨?_, y0'⟩, ?_, ?_, ?_, ?_, h1⟩, fun b k hb => ⟨?_, ?_, ?_⟩, fun b j hb => ?_⟩
  · unfold f_X6_copyFrom
    rw [m_gd_t g.1, g.2.1.1, m_b1_s, m_gd_t gs.1, gs.2.1.1, m_b1_s, m_gd_t g.2.1.2, e1, m_bw_s, m_lt_s, ← hS2, m_lt_s, ← hS3, m_jp_s]
    exact hr
  · rw [(h2 _ _ (by omega)).1, rr 0 (by omega)]; exact y0
  · rw [(h2 _ _ (by omega)).1, rr 1 (by omega)]; exact y1
  · rw [(h2 _ _ (by omega)).1, rr 2 (by omega)]; exact y2
  · rw [(h2 _ _ (by omega)).1]; exact c1
  · rw [(h2 _ _ (by omega)).1]; exact c2
  · rw [(h2 _ _ (by omega)).1]; exact i3 _ _ (by omega) (by omega)
  · rw [(h2 _ _ (by omega)).2.1, x3]
  · rw [(h2 _ _ (by omega)).2.2, x3]
  · rw [h3 b j hb, x3]
