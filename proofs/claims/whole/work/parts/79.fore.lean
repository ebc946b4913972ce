/-! the hours of many trials -/
def q_exN (p : Nat → Int32) (t : Nat) (ex gr : Int32) : Nat → Int32 × Int32
  | 0 => (ex, gr)
  | j + 1 => (q_ex p (t + j) (q_exN p t ex gr j).1 (q_exN p t ex gr j).2, 0)
def q_rmN (p : Nat → Int32) (ns t : Nat) (ex gr : Int32) (j : Nat) : Int32 := q_rm p ns (Int32.ofNat (t + j)) (q_exN p t ex gr (j + 1)).1
theorem g_foresee {Z : m_Z} {pb ns nk nc x t H : Nat} {S : m_S} {p : Nat → Int32} (ox : m_ok Z x 8) (o137 : m_ok Z (x + 137) 6) (o138 : m_ok Z (x + 138) 4) (o203 : m_ok Z (x + 203) 4) (o212 : m_okn Z (x + 212) 11 72) (r6 : S.2.2 x 6 = some (x + 203)) (r3 : S.2.2 x 3 = some (x + 137)) (r137 : S.2.2 (x + 137) 0 = some (x + 138)) (r8 : S.2.2 x 8 = some (x + 212)) (r1 : S.2.2 x 1 = some pb) (hap : pb + 4 ≤ x + 203) (hs : q_set9 Z pb ns nk nc S p) (ht : S.1 (x + 138) 0 = Int32.ofNat t) (t9 : t ≤ 99999) (hH : H ≤ 72) : ∃ S', f_X8_foreseeRooms Z S x (Int32.ofNat H) = some ((), S') ∧ (∀ j, j < H → S'.1 (x + 212) j = q_rmN p ns t (S.1 (x + 138) 1) (S.1 (x + 138) 2) j) ∧ (∀ b k, b ≠ x + 203 → b ≠ x + 212 → S'.1 b k = S.1 b k) ∧ S'.2 = S.2 := by
  obtain ⟨S1, g1, s1, s2, s3⟩ := g_copyR (S := S) (r := x + 203) (s := x + 138) o203 o138 (by omega)
  obtain ⟨U, ⟨h1, h2, h3, h4, h5, h6⟩, e1⟩ := q_loop0 (F := F_X8_foreseeRooms_16 Z x (Int32.ofNat H) (fun (S12 : m_S) => some ((), S12))) (j := fun (S12 : m_S) => some ((), S12)) (N := H) (fun i U => (∀ j, j < i → U.1 (x + 212) j = q_rmN p ns t (S.1 (x + 138) 1) (S.1 (x + 138) 2) j) ∧ (∀ b k, b ≠ x + 203 → b ≠ x + 212 → U.1 b k = S1.1 b k) ∧ U.2 = S1.2 ∧ U.1 (x + 203) 0 = Int32.ofNat (t + i) ∧ U.1 (x + 203) 1 = (q_exN p t (S.1 (x + 138) 1) (S.1 (x + 138) 2) i).1 ∧ U.1 (x + 203) 2 = (q_exN p t (S.1 (x + 138) 1) (S.1 (x + 138) 2) i).2) (by omega) (fun i U hi hI => by
      obtain ⟨h1, h2, h3, h4, h5, h6⟩ := hI
      have x3 : U.2 = S.2 := h3.trans s3
      have hsU : q_set9 Z pb ns nk nc U p := q_set9_ag hs (fun b k hb => ⟨(h2 b k (by omega) (by omega)).trans (s2 b k (by omega)), by rw [x3], by rw [x3]⟩) (fun _ _ => rfl)
      have gr := g_roomhour (r := x + 203) hsU o203 h4 (by omega) (Or.inr hap)
      rw [h5, h6] at gr
      refine ⟨m_pI (m_pI (m_pI (m_pI U (x + 203) 1 (q_exN p t (S.1 (x + 138) 1) (S.1 (x + 138) 2) (i + 1)).1) (x + 203) 2 0) (x + 203) 0 (Int32.ofNat (t + i + 1))) (x + 212) i (q_rmN p ns t (S.1 (x + 138) 1) (S.1 (x + 138) 2) i), ⟨fun j hj => ?_, fun b k b1 b2 => ?_, h3, ?_, ?_, ?_⟩, fun lp => ?_⟩
      · by_cases e : j = i
        · subst e; exact pI_same _ _ _ _
        · rw [pI_ne (by omega), pI_ne (by omega), pI_ne (by omega), pI_ne (by omega)]; exact h1 j (by omega)
      · rw [pI_ne (by omega), pI_ne (by omega), pI_ne (by omega), pI_ne (by omega)]; exact h2 b k b1 b2
      · rw [pI_ne (by omega), pI_same]; rfl
      · rw [pI_ne (by omega), pI_ne (by omega), pI_ne (by omega), pI_same]
      · rw [pI_ne (by omega), pI_ne (by omega), pI_same]; rfl
      · unfold F_X8_foreseeRooms_16
        simp only [io_tn (show i < 2147483648 by omega)]
        rw [if_neg (fun q => absurd ((io_le (by omega) (by omega)).mp q) (by omega)), x3, r8, m_b1_s, m_gd_t o212.1, if_neg (show ¬ Int32.ofNat (Z.2.2 (x + 212)) ≤ Int32.ofNat i from by rw [o212.2]; exact fun q => absurd ((io_le (by omega) (by omega)).mp q) (by omega)), r6, m_b1_s, r1, m_b1_s, m_gd_t o203, gr, m_bw_s, m_gd_t (q_inn o212 (by omega) (by omega)), m_lt_s, m_lt_s, io_one]
        rfl)
    (fun U hI lp => by
      unfold F_X8_foreseeRooms_16
      simp only []
      rw [if_pos (Int32.le_refl _)]) S1 ⟨fun j hj => absurd hj (Nat.not_lt_zero _), fun _ _ _ _ => rfl, rfl, by rw [s1 0 (by omega)]; exact ht, s1 1 (by omega), s1 2 (by omega)⟩
  refine ⟨U, ?_, h1, fun b k b1 b2 => (h2 b k b1 b2).trans (s2 b k b1), h3.trans s3⟩
  unfold f_X8_foreseeRooms
  rw [m_gd_t ox, r6, m_b1_s, r3, m_b1_s, m_gd_t o137, r137, m_b1_s, m_gd_t o203, g1, m_bw_s, m_jp_s]
  exact e1
/-- a case tried, its rooms foreseen -/
def q_trv (Z : m_Z) (pb ns nk nc n c x m t i : Nat) (ex gr : Int32) (S T : m_S) : Prop := q_M Z T.2.2 m ∧ q_V Z S.2.2 (x + 204) ∧ q_set9 Z pb ns nk nc S (T.1 (m + 1)) ∧ q_Ks Z (pb + 6) nk S (T.1 (m + 1)) ∧ (T.1 (m + 3) 0 = Int32.ofNat (t + i) ∧ T.1 (m + 3) 1 = (q_exN (T.1 (m + 1)) t ex gr i).1 ∧ T.1 (m + 3) 2 = (q_exN (T.1 (m + 1)) t ex gr i).2) ∧ q_vit (pb + 6) nk n S (x + 204) (T.1 (m + 1)) (T.1 (m + 3)) c ∧ q_wv (T.1 (m + 1)) (T.1 (m + 3)) n c
theorem j_trial3 {Z : m_Z} {pb ns nk nc n c x m t i : Nat} {ex gr : Int32} {S T : m_S} (hpb : pb = x + 5 ∨ pb = x + 71) (hc : c < 6) (t9 : t + i < 2000000) (h : q_trv Z pb ns nk nc n c x m t i ex gr S T) : ∃ fl u S2 T', f_X7_passHour Z S (x + 204) (q_rmN (T.1 (m + 1)) ns t ex gr i) = some (fl, S2) ∧ f_X7_isUnsafe Z S2 (x + 204) = some u ∧ f_X9_hour Z T m (Int32.ofNat c) (Int32.ofNat c) = some (u, T') ∧ (u = 0 ∨ u = 1) ∧ q_trv Z pb ns nk nc n c x m t (i + 1) ex gr S2 T' ∧ (∀ b k, ¬ (x + 204 ≤ b ∧ b < x + 212) → S2.1 b k = S.1 b k) ∧ S2.2 = S.2 ∧ q_fH m T T' := by
  obtain ⟨hM, hV, hs, hK, ⟨r0, r1, r2⟩, hv, hw⟩ := h
  obtain ⟨fl, u, S2, T', e1, e2, e3, e4, e5, e6, e7, e8, e9, e10, e11⟩ := j_trial1 (S := S) (v := x + 204) (kb := pb + 6) (room := q_rmN (T.1 (m + 1)) ns t ex gr i) hM hV hc (fun b b1 b2 => by omega) hv hw hK hs.2.1.2.2.2.1 hs.2.2.2.2.1 r0 t9 (by rw [r1, r2]; rfl)
  have f2 : ∀ b k, ¬ (x + 204 ≤ b ∧ b < x + 212) → S2.1 b k = S.1 b k := fun b k hb => e7.1 b k (by omega) (by omega)
  have pT : T'.1 (m + 1) = T.1 (m + 1) := funext fun k => e11.1 _ _ (by omega) (by omega)
  refine ⟨fl, u, S2, T', e1, e2, e3, e4, ⟨by rw [e11.2.2]; exact hM, by rw [e7.2]; exact hV, ?_, ?_, ⟨e8, ?_, ?_⟩, by rw [pT]; exact e5, by rw [pT]; exact e6⟩, f2, e7.2, e11⟩
  · rw [pT]; exact q_set9_ag hs (fun b k hb => ⟨f2 b k (by omega), by rw [e7.2], by rw [e7.2]⟩) (fun _ _ => rfl)
  · rw [pT]; exact q_Ks_ag hK (fun b k hb => ⟨f2 b k (by omega), by rw [e7.2], by rw [e7.2]⟩)
  · rw [pT, e9, r1, r2]; rfl
  · rw [pT, e10]; rfl
theorem q_ref_hours {Z : m_Z} {pb ns nk nc n c x m t H : Nat} {ex gr : Int32} (hpb : pb = x + 5 ∨ pb = x + 71) (hc : c < 6) (hH : H ≤ 72) (t9 : t ≤ 99999) : ∀ (d i fm : Nat), d + i = H → d < fm → ∀ (S T : m_S) (un : Nat), un ≤ i → q_trv Z pb ns nk nc n c x m t i ex gr S T → ∃ T' w, q_fH m T T' ∧ un ≤ w ∧ w ≤ un + d ∧ ∀ j3, m_fx (F_X9_hours_6 Z m (Int32.ofNat H) (Int32.ofNat c) (Int32.ofNat c) j3) fm (Int32.ofNat un, Int32.ofNat i, T) = j3 (Int32.ofNat w) T' := by
  intro d
  induction d with
  | zero =>
    intro i fm h1 h3 S T un hun h
    obtain ⟨f', rfl⟩ : ∃ f', fm = f' + 1 := ⟨fm - 1, by omega⟩
    have hi : i = H := by omega
    subst hi
    refine ⟨T, un, q_fH_refl _ _, Nat.le_refl _, Nat.le_refl _, fun j3 => ?_⟩
    rw [m_fx_s]
    unfold F_X9_hours_6
    simp only []
    rw [if_pos (Int32.le_refl _)]
  | succ d ih =>
    intro i fm h1 h3 S T un hun h
    obtain ⟨f', rfl⟩ : ∃ f', fm = f' + 1 := ⟨fm - 1, by omega⟩
    obtain ⟨fl, u, S2, T1, e1, e2, e3, e4, e5, e6, e7, e8⟩ := j_trial3 hpb hc (by omega) h
    have hu : ∃ k, k ≤ 1 ∧ u = Int32.ofNat k := by
      rcases e4 with q | q
      · exact ⟨0, by omega, q⟩
      · exact ⟨1, by omega, q⟩
    obtain ⟨k, k1, rfl⟩ := hu
    obtain ⟨T', w, z1, z2, z3, z4⟩ := ih (i + 1) f' (by omega) (by omega) S2 T1 (un + k) (by omega) e5
    refine ⟨T', w, q_fH_trans e8 z1, by omega, by omega, fun j3 => ?_⟩
    rw [m_fx_s]
    generalize hlp : m_fx (F_X9_hours_6 Z m (Int32.ofNat H) (Int32.ofNat c) (Int32.ofNat c) j3) f' = lp
    unfold F_X9_hours_6
    simp only []
    rw [if_neg (fun q => absurd ((io_le (by omega) (by omega)).mp q) (by omega)), m_gd_t h.1.o, e3, m_bw_s, m_lt_s, m_lt_s, io_one, io_add, ← hlp]
    exact z4 j3
theorem q_try_hours {Z : m_Z} {pb ns nk nc n c x m t H en : Nat} {ex gr : Int32} (hpb : pb = x + 5 ∨ pb = x + 71) (hc : c < 6) (hH : H ≤ 72) (t9 : t ≤ 99999) (hen : en ≤ 100) (ox : m_ok Z x 8) (o204 : m_ok Z (x + 204) 7) (o212 : m_okn Z (x + 212) 11 72) : ∀ (d i fc fm : Nat), d + i = H → d < fc → d < fm → ∀ (S T : m_S) (un : Nat), un ≤ i → un ≤ en → q_trv Z pb ns nk nc n c x m t i ex gr S T → (∀ j, j < H → S.1 (x + 212) j = q_rmN (T.1 (m + 1)) ns t ex gr j) → S.2.2 x 8 = some (x + 212) → S.2.2 x 7 = some (x + 204) → ∃ S' T' w, q_fH m T T' ∧ (∀ b k, ¬ (x + 204 ≤ b ∧ b < x + 212) → S'.1 b k = S.1 b k) ∧ S'.2 = S.2 ∧ un ≤ w ∧ w ≤ un + d ∧ (∀ j3, m_fx (F_X9_hours_6 Z m (Int32.ofNat H) (Int32.ofNat c) (Int32.ofNat c) j3) fm (Int32.ofNat un, Int32.ofNat i, T) = j3 (Int32.ofNat w) T') ∧ ∀ j3, m_fx (F_X8_unsafeHoursOfTrial_5 Z x (Int32.ofNat H) (Int32.ofNat en) j3) fc (Int32.ofNat un, Int32.ofNat i, S) = j3 (Int32.ofNat (if w < en then w else en)) S' := by
  intro d
  induction d with
  | zero =>
    intro i fc fm h1 h2 h3 S T un hun hue h hro r8 r7
    obtain ⟨f, rfl⟩ : ∃ f, fc = f + 1 := ⟨fc - 1, by omega⟩
    obtain ⟨f', rfl⟩ : ∃ f', fm = f' + 1 := ⟨fm - 1, by omega⟩
    have hi : i = H := by omega
    subst hi
    refine ⟨S, T, un, q_fH_refl _ _, fun _ _ _ => rfl, rfl, Nat.le_refl _, Nat.le_refl _, fun j3 => ?_, fun j3 => ?_⟩
    · rw [m_fx_s]
      unfold F_X9_hours_6
      simp only []
      rw [if_pos (Int32.le_refl _)]
    · rw [m_fx_s]
      unfold F_X8_unsafeHoursOfTrial_5
      simp only []
      rw [if_pos (Int32.le_refl _), show (if un < en then un else en) = un by split <;> omega]
  | succ d ih =>
    intro i fc fm h1 h2 h3 S T un hun hue h hro r8 r7
    obtain ⟨f, rfl⟩ : ∃ f, fc = f + 1 := ⟨fc - 1, by omega⟩
    by_cases hex : un = en
    · obtain ⟨T', w, z1, z2, z3, z4⟩ := q_ref_hours hpb hc hH t9 (d + 1) i fm h1 h3 S T un hun h
      refine ⟨S, T', w, z1, fun _ _ _ => rfl, rfl, z2, z3, z4, fun j3 => ?_⟩
      rw [m_fx_s]
      unfold F_X8_unsafeHoursOfTrial_5
      simp only []
      rw [if_neg (fun q => absurd ((io_le (by omega) (by omega)).mp q) (by omega)), m_gd_t ox, r8, m_b1_s, m_gd_t o212.1, if_neg (show ¬ Int32.ofNat (Z.2.2 (x + 212)) ≤ Int32.ofNat i from by rw [o212.2]; exact fun q => absurd ((io_le (by omega) (by omega)).mp q) (by omega)), if_pos ((io_le (by omega) (by omega)).mpr (by omega)), show (if w < en then w else en) = un by split <;> omega]
    · obtain ⟨f', rfl⟩ : ∃ f', fm = f' + 1 := ⟨fm - 1, by omega⟩
      obtain ⟨fl, u, S2, T1, e1, e2, e3, e4, e5, e6, e7, e8⟩ := j_trial3 hpb hc (by omega) h
      have pT : T1.1 (m + 1) = T.1 (m + 1) := funext fun k => e8.1 _ _ (by omega) (by omega)
      have hu : ∃ k, k ≤ 1 ∧ u = Int32.ofNat k := by
        rcases e4 with q | q
        · exact ⟨0, by omega, q⟩
        · exact ⟨1, by omega, q⟩
      obtain ⟨k, k1, rfl⟩ := hu
      have r7' : S2.2.2 x 7 = some (x + 204) := by rw [e7]; exact r7
      obtain ⟨S', T', w, z1, z2, z3, z4, z5, z6, z7⟩ := ih (i + 1) f f' (by omega) (by omega) (by omega) S2 T1 (un + k) (by omega) (by omega) e5 (fun j hj => by rw [e6 _ _ (by omega), pT]; exact hro j hj) (by rw [e7]; exact r8) r7'
      refine ⟨S', T', w, q_fH_trans e8 z1, fun b k hb => (z2 b k hb).trans (e6 b k hb), z3.trans e7, by omega, by omega, fun j3 => ?_, fun j3 => ?_⟩
      · rw [m_fx_s]
        generalize hlp : m_fx (F_X9_hours_6 Z m (Int32.ofNat H) (Int32.ofNat c) (Int32.ofNat c) j3) f' = lp
        unfold F_X9_hours_6
        simp only []
        rw [if_neg (fun q => absurd ((io_le (by omega) (by omega)).mp q) (by omega)), m_gd_t h.1.o, e3, m_bw_s, m_lt_s, m_lt_s, io_one, io_add, ← hlp]
        exact z6 j3
      · have z7' := z7 j3
        rw [m_fx_s]
        generalize m_fx (F_X8_unsafeHoursOfTrial_5 Z x (Int32.ofNat H) (Int32.ofNat en) j3) f = lp at *
        unfold F_X8_unsafeHoursOfTrial_5
        simp only [io_tn (show i < 2147483648 by omega)]
        rw [if_neg (fun q => absurd ((io_le (by omega) (by omega)).mp q) (by omega)), m_gd_t ox, r8, m_b1_s, m_gd_t o212.1, if_neg (show ¬ Int32.ofNat (Z.2.2 (x + 212)) ≤ Int32.ofNat i from by rw [o212.2]; exact fun q => absurd ((io_le (by omega) (by omega)).mp q) (by omega)), if_neg (fun q => absurd ((io_le (by omega) (by omega)).mp q) (by omega)), r7, m_b1_s, m_gd_t (q_inn o212 (by omega) (by omega)), m_gd_t o204, hro i (by omega), e1, m_bw_s, r7', m_b1_s, m_gd_t o204, e2, m_b1_s]
        have : k = 0 ∨ k = 1 := by omega
        rcases this with rfl | rfl
        · rw [if_pos (show Int32.ofNat 0 = 0 from rfl), m_lt_s, io_one]; exact z7'
        · rw [if_neg (show ¬ Int32.ofNat 1 = 0 by decide), m_lt_s, m_lt_s, io_one, io_one]; exact z7'
