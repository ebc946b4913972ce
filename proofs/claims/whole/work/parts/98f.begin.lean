section BEGIN2
variable {Z : m_Z}
theorem g_beginL {S : m_S} {l : Nat} {v : Int32} (g : m_ok Z l 2) : ∃ S', f_X2_begin Z S l v = some ((), S') ∧ (S'.2.1 l 0 = v.toInt64 ∧ S'.2.1 l 1 = 0 ∧ S'.2.1 l 2 = 0 ∧ S'.2.1 l 3 = 0 ∧ S'.2.1 l 7 = 0) ∧ (S'.1 l 4 = 0 ∧ S'.1 l 5 = -1 ∧ S'.1 l 6 = -1) ∧ q_ag (fun b _ => ¬ b = l) S S' ∧ S'.2.2 = S.2.2 := by
  obtain ⟨S1, hS1⟩ : ∃ y, y = m_pJ (m_pJ (m_pJ (m_pJ S l 0 v.toInt64) l 1 0) l 2 0) l 3 0 := ⟨_, rfl⟩
  obtain ⟨S2, hS2⟩ : ∃ y, y = m_pI (m_pI (m_pI S1 l 4 0) l 5 (-1)) l 6 (-1) := ⟨_, rfl⟩
  obtain ⟨S3, hS3⟩ : ∃ y, y = m_pJ S2 l 7 0 := ⟨_, rfl⟩
  have j2 : S2.2.1 = S1.2.1 := by rw [hS2]; rfl
  have i3 : S3.1 = S2.1 := by rw [hS3]; rfl
  refine ⟨S3, ?_, ⟨?_, ?_, ?_, ?_, ?_⟩, ⟨?_, ?_, ?_⟩, ?_, ?_⟩
  · unfold f_X2_begin
    rw [m_gd_t g, m_lt_s, m_lt_s, m_lt_s, m_lt_s, ← hS1, m_lt_s, m_lt_s, m_lt_s, ← hS2, m_lt_s, ← hS3]
  · rw [hS3, pJ_ne (by omega), j2, hS1, pJ_ne (by omega), pJ_ne (by omega), pJ_ne (by omega), pJ_same]
  · rw [hS3, pJ_ne (by omega), j2, hS1, pJ_ne (by omega), pJ_ne (by omega), pJ_same]
  · rw [hS3, pJ_ne (by omega), j2, hS1, pJ_ne (by omega), pJ_same]
  · rw [hS3, pJ_ne (by omega), j2, hS1, pJ_same]
  · rw [hS3, pJ_same]
  · rw [i3, hS2, pI_ne (by omega), pI_ne (by omega), pI_same]
  · rw [i3, hS2, pI_ne (by omega), pI_same]
  · rw [i3, hS2, pI_same]
  · rw [hS3]; refine q_ag_J ?_ (by omega)
    rw [hS2]; refine q_ag_I (q_ag_I (q_ag_I ?_ (by omega)) (by omega)) (by omega)
    rw [hS1]; exact q_ag_J (q_ag_J (q_ag_J (q_ag_J (q_ag_refl _ _) (by omega)) (by omega)) (by omega)) (by omega)
  · rw [hS3, hS2, hS1]; rfl
/-- what a case is when a run begins -/
def q_bc (kb nk n : Nat) (S : m_S) (v : Nat) (p a : Nat → Int32) (c : Nat) : Prop := q_vit kb nk n S v p a c ∧ (S.2.1 (v + 8) 0 = (S.1 v 4 + q_sm (fun i => S.1 (v + 2 + i) 3) n).toInt64 ∧ S.2.1 (v + 8) 1 = 0 ∧ S.2.1 (v + 8) 2 = 0 ∧ S.2.1 (v + 8) 3 = 0 ∧ S.2.1 (v + 8) 7 = 0) ∧ S.1 (v + 8) 4 = 0 ∧ S.1 (v + 8) 5 = -1 ∧ S.1 (v + 8) 6 = -1
theorem q_bc_ag {kb nk n v c : Nat} {S S' : m_S} {p a : Nat → Int32} (h : q_bc kb nk n S v p a c) (n6 : n ≤ 6) (hS : q_ag (fun y _ => v ≤ y ∧ y < v + 10) S S') : q_bc kb nk n S' v p a c := by
  obtain ⟨h1, ⟨x0, x1, x2, x3, x7⟩, y4, y5, y6⟩ := h
  refine ⟨q_vit_cp h1 (fun k _ => (hS _ _ (by omega)).1) (fun i hi => ⟨fun k _ _ => (hS _ _ (by omega)).1, (hS _ _ (by omega)).2.2⟩) (fun _ _ _ => rfl), ⟨?_, ?_, ?_, ?_, ?_⟩, ?_, ?_, ?_⟩
  · rw [(hS _ _ (by omega)).2.1, (hS _ _ (by omega)).1, q_sm_congr (g' := fun i => S.1 (v + 2 + i) 3) (fun i hi => (hS _ _ (by omega)).1)]; exact x0
  · rw [(hS _ _ (by omega)).2.1]; exact x1
  · rw [(hS _ _ (by omega)).2.1]; exact x2
  · rw [(hS _ _ (by omega)).2.1]; exact x3
  · rw [(hS _ _ (by omega)).2.1]; exact x7
  · rw [(hS _ _ (by omega)).1]; exact y4
  · rw [(hS _ _ (by omega)).1]; exact y5
  · rw [(hS _ _ (by omega)).1]; exact y6
theorem g_begin {kb nk nc nq pd sb : Nat} {cnt : Nat → Nat} {S : m_S} {p a : Nat → Int32} (g : q_St Z S.2.2 sb) (o5 : m_ok Z pd 5) (rv : S.2.2 pd 9 = some (pd + 5) ∧ m_okn Z (pd + 5) 18 6) (rvi : ∀ c, c < 6 → S.2.2 (pd + 5) c = some (pd + 18 + 8 * c) ∧ q_V Z S.2.2 (pd + 18 + 8 * c)) (hap : pd + 66 ≤ sb) (nc6 : nc ≤ 6) (h8 : S.1 pd 8 = Int32.ofNat nc) (h10 : S.1 pd 10 = Int32.ofNat nq) (hv : ∀ c, c < nc → q_vit kb nk (cnt c) S (pd + 18 + 8 * c) p a c ∧ cnt c ≤ 5) : ∃ S', f_X6_begin Z S sb pd = some ((), S') ∧ (S'.1 (sb + 1) 0 = 0 ∧ S'.1 (sb + 1) 1 = 0 ∧ S'.1 (sb + 1) 2 = 0) ∧ S'.1 sb 1 = Int32.ofNat nq ∧ S'.1 sb 2 = Int32.ofNat nc ∧ (∀ c, c < nc → q_bc kb nk (cnt c) S' (sb + 4 + 10 * c) p a c) ∧ q_ag (fun b _ => ¬ (sb ≤ b ∧ b < sb + 64)) S S' ∧ q_rf sb S S' := by
  obtain ⟨S1, hS1⟩ : ∃ y, y = m_pI (m_pI (m_pI S (sb + 1) 0 0) (sb + 1) 1 0) (sb + 1) 2 0 := ⟨_, rfl⟩
  have gr : f_X4_begin Z S (sb + 1) = some ((), S1) := by
    unfold f_X4_begin
    rw [m_gd_t g.2.1.2, m_lt_s, m_lt_s, ← hS1, m_lt_s]
  have b1 : q_ag (fun b _ => ¬ b = sb + 1) S S1 := by rw [hS1]; exact q_ag_I (q_ag_I (q_ag_I (q_ag_refl _ _) (by omega)) (by omega)) (by omega)
  obtain ⟨S3, hS3⟩ : ∃ y, y = m_pI (m_pI S1 sb 1 (Int32.ofNat nq)) sb 2 (Int32.ofNat nc) := ⟨_, rfl⟩
  have b3 : q_ag (fun b k => ¬ (b = sb ∧ (k = 1 ∨ k = 2))) S1 S3 := by rw [hS3]; exact q_ag_I (q_ag_I (q_ag_refl _ _) (by omega)) (by omega)
  have x3 : S3.2 = S.2 := by rw [hS3, hS1]; rfl
  have i3 : ∀ b k, ¬ b = sb + 1 → ¬ (b = sb ∧ (k = 1 ∨ k = 2)) → S3.1 b k = S.1 b k := fun b k q1 q2 => by rw [(b3 _ _ q2).1, (b1 _ _ q1).1]
  have c2 : S3.1 sb 2 = Int32.ofNat nc := by rw [hS3, pI_same]
  obtain ⟨U, hU, hr⟩ := q_loopA (F := F_X6_begin_25 Z sb pd) (N := nc) (fun i U => (∀ c, c < i → q_bc kb nk (cnt c) U (sb + 4 + 10 * c) p a c) ∧ q_ag (fun b k => ¬ (sb + 4 ≤ b ∧ b < sb + 64)) S3 U ∧ q_rf sb S3 U) (by omega) (fun i U hi hI => by
      obtain ⟨h1, h2, h3⟩ := hI
      obtain ⟨dv, n5⟩ := hv i hi
      have gU : q_V Z U.2.2 (sb + 4 + 10 * i) := q_V_cgr (g.2.2.2.2 i (by omega)).2.2.1 (fun b j hb => by rw [h3 b j (by rintro ⟨c, k, q1, q2, q3⟩; omega), x3])
      have gwU : q_V Z U.2.2 (pd + 18 + 8 * i) := q_V_cgr (rvi i (by omega)).2 (fun b j hb => by rw [(h2 b j (by omega)).2.2, x3])
      have dvU : q_vit kb nk (cnt i) U (pd + 18 + 8 * i) p a i := q_vit_cp dv (fun k _ => by rw [(h2 _ _ (by omega)).1]; exact i3 _ _ (by omega) (by omega)) (fun l hl => ⟨fun k _ _ => by rw [(h2 _ _ (by omega)).1]; exact i3 _ _ (by omega) (by omega), by rw [(h2 _ _ (by omega)).2.2, x3]⟩) (fun _ _ _ => rfl)
      obtain ⟨V, eV, v1, v2, v3, v4, v5⟩ := g_copyV gU gwU dvU.2.2.2.2.2.1 (by omega) (by omega) (q_kind_ex dvU)
      have gV : q_V Z V.2.2 (sb + 4 + 10 * i) := q_V_cgr gU (fun b j hb => by rw [v4 _ _ (by omega)])
      have dvV : q_vit kb nk (cnt i) V (sb + 4 + 10 * i) p a i := q_vit_cp dvU v1 v2 (fun _ _ _ => rfl)
      have em := g_moist gV dvV.2.2.2.2.2.1 (by omega)
      obtain ⟨w, hw⟩ : ∃ w, w = V.1 (sb + 4 + 10 * i) 4 + q_sm (fun l => V.1 (sb + 4 + 10 * i + 2 + l) 3) (cnt i) := ⟨_, rfl⟩
      rw [← hw] at em
      have ol : m_ok Z (sb + 4 + 10 * i + 8) 2 := (g.2.2.2.2 i (by omega)).2.2.2.1
      obtain ⟨W, eW, w1, w2, w3, w4⟩ := g_beginL (S := V) (v := w) ol
      have aUW : q_ag (fun b k => ¬ (sb + 4 + 10 * i ≤ b ∧ b < sb + 14 + 10 * i)) U W := q_ag_trans (q_ag_sub v3 (fun b k hb => by omega)) (q_ag_sub w3 (fun b k hb => by omega))
      refine ⟨W, ⟨fun c hc => ?_, q_ag_trans h2 (q_ag_sub aUW (fun b k hb => by omega)), fun b j hb => ?_⟩, fun _j lp => ?_⟩
      · by_cases e : c = i
        · subst e
          refine ⟨q_vit_cp dvV (fun k _ => (w3 _ _ (by omega)).1) (fun l hl => ⟨fun k _ _ => (w3 _ _ (by omega)).1, (w3 _ _ (by omega)).2.2⟩) (fun _ _ _ => rfl), ⟨?_, w1.2⟩, w2⟩
          rw [w1.1, (w3 _ _ (by omega)).1, q_sm_congr (g' := fun l => V.1 (sb + 4 + 10 * c + 2 + l) 3) (fun l hl => (w3 _ _ (by omega)).1), hw]
        · exact q_bc_ag (h1 c (by omega)) (by have := (hv c (by omega)).2; omega) (q_ag_sub aUW (fun b k hb => by omega))
      · rw [w4, v4 _ _ (fun q => hb ⟨i, b - (sb + 6 + 10 * i), by omega, by omega, by omega⟩)]; exact h3 b j hb
      · have r : ∀ b j, b < sb + 4 ∧ sb ≤ b → U.2.2 b j = S.2.2 b j := fun b j hb => by rw [(h2 _ _ (by omega)).2.2, x3]
        have rp : ∀ b j, b < pd + 18 ∧ pd ≤ b → U.2.2 b j = S.2.2 b j := fun b j hb => by rw [(h2 _ _ (by omega)).2.2, x3]
        have rV : ∀ b j, b < sb + 4 ∧ sb ≤ b → V.2.2 b j = S.2.2 b j := fun b j hb => by rw [v4 _ _ (by omega)]; exact r b j hb
        have e2 : U.1 sb 2 = Int32.ofNat nc := by rw [(h2 _ _ (by omega)).1]; exact c2
        have gi := g.2.2.2.2 i (by omega)
        unfold F_X6_begin_25
        simp only [io_tn (show i < 2147483648 by omega)]
        rw [if_neg (show ¬ U.1 sb 2 ≤ Int32.ofNat i from by rw [e2]; exact fun q => absurd ((io_le (by omega) (by omega)).mp q) (by omega)), if_neg (show ¬ (6 : Int32) ≤ Int32.ofNat i from fun q => absurd ((io_le (a := 6) (by omega) (by omega)).mp q) (by omega)), r _ _ (by omega), g.2.2.1.1, m_b1_s, m_gd_t g.2.2.1.2.1, m_gd_t (q_inn g.2.2.1.2 (by omega) (by omega)), r _ _ (by omega), gi.1, m_b1_s, rp _ _ (by omega), rv.1, m_b1_s, m_gd_t rv.2.1, m_gd_t (q_inn rv.2 (by omega) (by omega)), rp _ _ (by omega), (rvi i (by omega)).1, m_b1_s, m_gd_t gU.1, eV, m_bw_s, rV _ _ (by omega), g.2.2.2.1.1, m_b1_s, m_gd_t g.2.2.2.1.2.1, m_gd_t (q_inn g.2.2.2.1.2 (by omega) (by omega)), rV _ _ (by omega), gi.2.1, m_b1_s, rV _ _ (by omega), g.2.2.1.1, m_b1_s, m_gd_t g.2.2.1.2.1, m_gd_t (q_inn g.2.2.1.2 (by omega) (by omega)), rV _ _ (by omega), gi.1, m_b1_s, m_gd_t gU.1, em, m_b1_s, m_gd_t ol, eW, m_bw_s, io_one, m_lt_s])
    (fun U hI _j lp => by
      obtain ⟨h1, h2, h3⟩ := hI
      have e2 : U.1 sb 2 = Int32.ofNat nc := by rw [(h2 _ _ (by omega)).1]; exact c2
      unfold F_X6_begin_25
      simp only []
      rw [if_pos (show U.1 sb 2 ≤ Int32.ofNat nc from by rw [e2]; exact Int32.le_refl _)]) S3 ⟨fun c hc => absurd hc (Nat.not_lt_zero _), q_ag_refl _ _, fun _ _ _ => rfl⟩
  obtain ⟨h1, h2, h3⟩ := hU
  have s10 : S1.1 pd 10 = Int32.ofNat nq := by rw [(b1 _ _ (by omega)).1]; exact h10
  have s8 : (m_pI S1 sb 1 (Int32.ofNat nq)).1 pd 8 = Int32.ofNat nc := by rw [pI_ne (by omega), (b1 _ _ (by omega)).1]; exact h8
  refine ⟨U, ?_, ⟨?_, ?_, ?_⟩, ?_, ?_, h1, ?_, fun b j hb => ?_⟩
  · unfold f_X6_begin
    rw [m_gd_t g.1, g.2.1.1, m_b1_s, m_gd_t g.2.1.2, gr, m_bw_s, m_gd_t o5, s10, m_lt_s, s8, ← hS3, m_lt_s, m_jp_s, hr]
  · rw [(h2 _ _ (by omega)).1, (b3 _ _ (by omega)).1, hS1, pI_ne (by omega), pI_ne (by omega), pI_same]
  · rw [(h2 _ _ (by omega)).1, (b3 _ _ (by omega)).1, hS1, pI_ne (by omega), pI_same]
  · rw [(h2 _ _ (by omega)).1, (b3 _ _ (by omega)).1, hS1, pI_same]
  · rw [(h2 _ _ (by omega)).1, hS3, pI_ne (by omega), pI_same]
  · rw [(h2 _ _ (by omega)).1]; exact c2
  · exact q_ag_trans (q_ag_sub b1 (fun b k hb => by omega)) (q_ag_trans (q_ag_sub b3 (fun b k hb => by omega)) (q_ag_sub h2 (fun b k hb => by omega)))
  · rw [h3 b j hb, x3]
theorem e_plain {m : Nat} {T : m_S} (hM : q_M Z T.2.2 m) : ∃ T', f_X9_plain Z T m = some ((), T') ∧ (∀ j, j < 116 → T'.1 (m + 2) j = 0) ∧ (∀ j, j < 340 → T'.1 (m + 6) j = 0) ∧ q_ag (fun b _ => ¬ b = m + 2 ∧ ¬ b = m + 6) T T' ∧ T'.2 = T.2 := by
  obtain ⟨T1, h1, e1⟩ := q_loopA (F := F_X9_plain_2 Z m) (N := 116) (fun i U => (∀ j, j < i → U.1 (m + 2) j = 0) ∧ q_ag (fun b _ => ¬ b = m + 2) T U ∧ U.2 = T.2) (by omega) (fun i U hi hU => by
      obtain ⟨x1, x2, x3⟩ := hU
      have hMU : q_M Z U.2.2 m := by rw [x3]; exact hM
      refine ⟨m_pI U (m + 2) i 0, ⟨fun j hj => ?_, q_ag_I x2 (by omega), x3⟩, fun _j lp => ?_⟩
      · by_cases e : j = i
        · rw [e, pI_same]
        · rw [pI_ne (by omega)]; exact x1 j (by omega)
      · unfold F_X9_plain_2
        simp only [io_tn (show i < 2147483648 by omega)]
        rw [if_neg (show ¬ (116 : Int32) ≤ Int32.ofNat i from fun q => absurd ((io_le (a := 116) (by omega) (by omega)).mp q) (by omega)), m_gd_t hMU.o, hMU.told.1, m_b1_s, m_gd_t hMU.told.2.1, m_gd_t (q_inn hMU.told.2 (by omega) (by omega)), m_lt_s, m_lt_s, io_one])
    (fun U hU _j lp => by
      unfold F_X9_plain_2
      simp only []
      rw [if_pos (show (116 : Int32) ≤ Int32.ofNat 116 from Int32.le_refl _)]) T ⟨fun j hj => absurd hj (Nat.not_lt_zero _), q_ag_refl _ _, rfl⟩
  obtain ⟨x1, x2, x3⟩ := h1
  obtain ⟨T2, h2, e2⟩ := q_loopA (F := F_X9_plain_23 Z m) (N := 340) (fun i U => (∀ j, j < i → U.1 (m + 6) j = 0) ∧ q_ag (fun b _ => ¬ b = m + 6) T1 U ∧ U.2 = T1.2) (by omega) (fun i U hi hU => by
      obtain ⟨y1, y2, y3⟩ := hU
      have hMU : q_M Z U.2.2 m := by rw [y3, x3]; exact hM
      refine ⟨m_pI U (m + 6) i 0, ⟨fun j hj => ?_, q_ag_I y2 (by omega), y3⟩, fun _j lp => ?_⟩
      · by_cases e : j = i
        · rw [e, pI_same]
        · rw [pI_ne (by omega)]; exact y1 j (by omega)
      · unfold F_X9_plain_23
        simp only [io_tn (show i < 2147483648 by omega)]
        rw [if_neg (k340 hi), m_gd_t hMU.o, hMU.fresh.1, m_b1_s, m_gd_t hMU.fresh.2.1, m_gd_t (q_inn hMU.fresh.2 (by omega) (by omega)), m_lt_s, m_lt_s, io_one])
    (fun U hU _j lp => by
      unfold F_X9_plain_23
      simp only []
      rw [if_pos (show (340 : Int32) ≤ Int32.ofNat 340 from Int32.le_refl _)]) T1 ⟨fun j hj => absurd hj (Nat.not_lt_zero _), q_ag_refl _ _, rfl⟩
  obtain ⟨y1, y2, y3⟩ := h2
  refine ⟨T2, ?_, fun j hj => by rw [(y2 _ _ (by omega)).1]; exact x1 j hj, y1, q_ag_trans (q_ag_sub x2 (fun b k hb => hb.1)) (q_ag_sub y2 (fun b k hb => hb.2)), y3.trans x3⟩
  unfold f_X9_plain
  rw [m_jp_s, e1, m_jp_s, e2]
end BEGIN2
