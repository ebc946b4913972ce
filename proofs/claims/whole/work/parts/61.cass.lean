section CASSETTE
theorem g_moistAt {Z : m_Z} {S : m_S} {ca d k : Nat} {p : Nat → Int32} {hum : Int32} (g : m_ok Z ca 0) (hr : S.2.2 ca 1 = some d) (gk : q_K Z S.2.2 d) (hk : q_kin S d p k) (hw : q_wk p k) : f_X0_moistureAt Z S ca hum = some (q_mp p k (S.1 ca 2) hum) := by
  unfold f_X0_moistureAt
  rw [m_gd_t g, hr, m_b1_s, m_gd_t gk.1, g_would gk hk hw, m_b1_s]
variable {Z : m_Z} {x m N pb ns nk nc : Nat} {S T : m_S}
theorem J_cassette (h : q_Rel Z x m N pb ns nk nc S T) (p q w : Int32) : q_JR Z x m (N + 1) [("java/lang/IndexOutOfBoundsException", 1), ("java/lang/IllegalArgumentException", 2)] (fun a b => a = b) S T (f_X8_cassette Z S x p q w) (f_X9_cassette Z T m p q w) := by
  obtain ⟨T0, e0, z0, f0, h0⟩ := q_zero h
  have hM := h0.M
  have h6 := h0.nc6
  have h4 := h0.nk4
  obtain ⟨cnt, t, t9, c5, hg, hser, hst⟩ := h0.sta
  rcases q_cdec h0.cs p with ⟨c, hc, rfl⟩ | hp
  · have hcs := hst.2.2.2.2.2 c hc
    have hV := (h0.st.2.2.2.2 c (by omega)).2.2.1
    rw [show x + 137 + 4 + 10 * c = x + 141 + 10 * c by omega] at hcs hV
    have hn5 := c5 c hc
    have eN : f_X9_of Z T0 m (Int32.ofNat c) 4 = some (Int32.ofNat (cnt c)) := by
      rw [e_of (wi := 4) hM (w := 4) rfl (by omega) (by omega), show 4 + 56 * c + 4 = 8 + 56 * c by omega, hcs.1.2.2.2.2.2.2.1]
    rcases q_cdec (n := cnt c) (by omega) q with ⟨k, hk, rfl⟩ | hq
    · have hca := hcs.1.2.2.2.2.2.2.2 k hk
      obtain ⟨k1, k2, k3⟩ := h0.ks.2 _ hca.2.1.1
      have hok := (hV.2.2 k (by omega)).2
      rcases q_cdec (n := 5) (by omega) w with ⟨w, hw, rfl⟩ | hw
      · have key : ∀ a b, (f_X8_cassette Z S x (Int32.ofNat c) (Int32.ofNat k) (Int32.ofNat w) = some (.ok a)) → (if ¬ Int32.ofNat w = (4 : Int32) then m_b1 (f_X9_its Z T0 m (Int32.ofNat c) (Int32.ofNat k) (Int32.ofNat w)) (fun v20 => some (v20, T0)) else m_b1 (f_X9_ownHumidity Z T0 m (Int32.ofNat c) (Int32.ofNat k)) (fun v22 => some (v22, T0))) = some (b, T0) → a = b → q_JR Z x m (N + 1) [("java/lang/IndexOutOfBoundsException", 1), ("java/lang/IllegalArgumentException", 2)] (fun a b => a = b) S T (f_X8_cassette Z S x (Int32.ofNat c) (Int32.ofNat k) (Int32.ofNat w)) (f_X9_cassette Z T m (Int32.ofNat c) (Int32.ofNat k) (Int32.ofNat w)) := by
          intro a b ha hb hab
          refine q_JR_ok h0 f0 z0 (a := a) (b := b) ha ?_ hab
          unfold f_X9_cassette
          rw [m_gd_t hM.o, m_lt_s, e0, e_isCase hM h0.n5 h0.cs, m_b1_s, if_pos (q_yes hc (by omega))]
          simp only [m_jp_s]
          rw [if_neg z10, eN, m_b1_s, e_isN (m := m) (by omega), m_b1_s, if_pos (q_yes hk (by omega)), if_neg z10, e_may1 hM.o z10 z0, m_bw_s, if_neg z10, e_isInN (hi := 4) (n := 4) rfl (by omega), m_b1_s, e_may hM.o z0 z20, if_pos (q_yes hw (by omega)), if_pos z10]
          exact hb
        have hw' : w = 0 ∨ w = 1 ∨ w = 2 ∨ w = 3 ∨ w = 4 := by omega
        have ehead : ∀ (K : Nat → Option (Except String Int32)), True := fun _ => trivial
        have n4 : ∀ j, j < 4 → ¬ Int32.ofNat j = (4 : Int32) := fun j hj z => by
          have := t_eq.mp z
          rw [t_ofNat (by omega), show (4 : Int32).toInt = 4 from rfl] at this; omega
        rcases hw' with rfl | rfl | rfl | rfl | rfl
        · refine key (S.1 (x + 141 + 10 * c + 2 + k) 0) (T0.1 (m + 3) (12 + 56 * c + 4 * k + 0)) ?_ ?_ (hca.1)
          · unfold f_X8_cassette
            rw [m_gd_t h.ox, g_vitAt h hc, m_bt_s, if_neg (io_nn hk (by omega)), m_gd_t hV.1, hcs.1.2.2.2.2.2.1, if_pos ((io_lt (by omega) (by omega)).mpr hk), hV.2.1.1, m_b1_s, m_gd_t hV.2.1.2.1, m_gd_t (q_inn hV.2.1.2 (by omega) (by omega)), io_tn (by omega), (hV.2.2 k (by omega)).1, m_b1_s, if_pos (rfl : Int32.ofNat 0 = Int32.ofNat 0), m_gd_t hok]
          · rw [if_pos (n4 0 (by omega)), e_its (w := 0) hM rfl (by omega) (by omega) (by omega), m_b1_s]
        · refine key (S.1 (pb + 6 + 3 * q_kn (T0.1 (m + 3)) (12 + 56 * c + 4 * k)) 0) (T0.1 (m + 3) (12 + 56 * c + 4 * k + 1)) ?_ ?_ (k2.1.trans hca.2.1.2.1.symm)
          · unfold f_X8_cassette
            have g_kn : f_X0_kindNumber Z S (x + 141 + 10 * c + 2 + k) = some (S.1 (pb + 6 + 3 * q_kn (T0.1 (m + 3)) (12 + 56 * c + 4 * k)) 0) := by
              unfold f_X0_kindNumber
              rw [m_gd_t hok, hca.2.1.2.2, m_b1_s, m_gd_t k1.1]
            rw [m_gd_t h.ox, g_vitAt h hc, m_bt_s, if_neg (io_nn hk (by omega)), m_gd_t hV.1, hcs.1.2.2.2.2.2.1, if_pos ((io_lt (by omega) (by omega)).mpr hk), hV.2.1.1, m_b1_s, m_gd_t hV.2.1.2.1, m_gd_t (q_inn hV.2.1.2 (by omega) (by omega)), io_tn (by omega), (hV.2.2 k (by omega)).1, m_b1_s, if_neg (show ¬ Int32.ofNat 1 = Int32.ofNat 0 by decide), if_pos (rfl : Int32.ofNat 1 = Int32.ofNat 1), m_gd_t hok, g_kn, m_b1_s]
          · rw [if_pos (n4 1 (by omega)), e_its (w := 1) hM rfl (by omega) (by omega) (by omega), m_b1_s]
        · refine key (S.1 (x + 141 + 10 * c + 2 + k) 2) (T0.1 (m + 3) (12 + 56 * c + 4 * k + 2)) ?_ ?_ (hca.2.2.1)
          · unfold f_X8_cassette
            rw [m_gd_t h.ox, g_vitAt h hc, m_bt_s, if_neg (io_nn hk (by omega)), m_gd_t hV.1, hcs.1.2.2.2.2.2.1, if_pos ((io_lt (by omega) (by omega)).mpr hk), hV.2.1.1, m_b1_s, m_gd_t hV.2.1.2.1, m_gd_t (q_inn hV.2.1.2 (by omega) (by omega)), io_tn (by omega), (hV.2.2 k (by omega)).1, m_b1_s, if_neg (show ¬ Int32.ofNat 2 = Int32.ofNat 0 by decide), if_neg (show ¬ Int32.ofNat 2 = Int32.ofNat 1 by decide), if_pos (rfl : Int32.ofNat 2 = Int32.ofNat 2), m_gd_t hok]
          · rw [if_pos (n4 2 (by omega)), e_its (w := 2) hM rfl (by omega) (by omega) (by omega), m_b1_s]
        · refine key (S.1 (x + 141 + 10 * c + 2 + k) 3) (T0.1 (m + 3) (12 + 56 * c + 4 * k + 3)) ?_ ?_ (hca.2.2.2)
          · unfold f_X8_cassette
            rw [m_gd_t h.ox, g_vitAt h hc, m_bt_s, if_neg (io_nn hk (by omega)), m_gd_t hV.1, hcs.1.2.2.2.2.2.1, if_pos ((io_lt (by omega) (by omega)).mpr hk), hV.2.1.1, m_b1_s, m_gd_t hV.2.1.2.1, m_gd_t (q_inn hV.2.1.2 (by omega) (by omega)), io_tn (by omega), (hV.2.2 k (by omega)).1, m_b1_s, if_neg (show ¬ Int32.ofNat 3 = Int32.ofNat 0 by decide), if_neg (show ¬ Int32.ofNat 3 = Int32.ofNat 1 by decide), if_neg (show ¬ Int32.ofNat 3 = Int32.ofNat 2 by decide), if_pos (rfl : Int32.ofNat 3 = Int32.ofNat 3), m_gd_t hok]
          · rw [if_pos (n4 3 (by omega)), e_its (w := 3) hM rfl (by omega) (by omega) (by omega), m_b1_s]
        · have mono : ∀ a b, a ≤ b → b ≤ 1000 → q_mp (T0.1 (m + 1)) (q_kn (T0.1 (m + 3)) (12 + 56 * c + 4 * k)) (T0.1 (m + 3) (12 + 56 * c + 4 * k + 2)) (Int32.ofNat b) ≤ T0.1 (m + 3) (12 + 56 * c + 4 * k + 3) → q_mp (T0.1 (m + 1)) (q_kn (T0.1 (m + 3)) (12 + 56 * c + 4 * k)) (T0.1 (m + 3) (12 + 56 * c + 4 * k + 2)) (Int32.ofNat a) ≤ T0.1 (m + 3) (12 + 56 * c + 4 * k + 3) := by
            intro a b hab hb hP
            have w3 := (hcs.2.1.2.2.2.2 k hk).1
            rw [show 14 + 56 * c + 4 * k = 12 + 56 * c + 4 * k + 2 by omega] at w3
            refine Int32.le_trans (t_le.mpr ?_) hP
            exact q_mo_mono k3.2.1 (by omega) (by omega) (by rw [t_ofNat (by omega), t_ofNat (by omega)]; omega)
          obtain ⟨r, r1, r2⟩ := q_cut _ mono
          refine key (Int32.ofNat r - 1) (Int32.ofNat r - 1) ?_ ?_ rfl
          · unfold f_X8_cassette
            rw [m_gd_t h.ox, g_vitAt h hc, m_bt_s, if_neg (io_nn hk (by omega)), m_gd_t hV.1, hcs.1.2.2.2.2.2.1, if_pos ((io_lt (by omega) (by omega)).mpr hk), hV.2.1.1, m_b1_s, m_gd_t hV.2.1.2.1, m_gd_t (q_inn hV.2.1.2 (by omega) (by omega)), io_tn (by omega), (hV.2.2 k (by omega)).1, m_b1_s, if_neg (show ¬ Int32.ofNat 4 = Int32.ofNat 0 by decide), if_neg (show ¬ Int32.ofNat 4 = Int32.ofNat 1 by decide), if_neg (show ¬ Int32.ofNat 4 = Int32.ofNat 2 by decide), if_neg (show ¬ Int32.ofNat 4 = Int32.ofNat 3 by decide), if_pos (rfl : Int32.ofNat 4 = Int32.ofNat 4), m_gd_t hok, g_own (f := fun h => q_mp (T0.1 (m + 1)) (q_kn (T0.1 (m + 3)) (12 + 56 * c + 4 * k)) (T0.1 (m + 3) (12 + 56 * c + 4 * k + 2)) (Int32.ofNat h)) hok (fun h9 h9' => by rw [g_moistAt hok hca.2.1.2.2 k1 k2 k3, hca.2.2.1]) r1 (fun h9 h9' => by rw [hca.2.2.2]; exact r2 h9 h9'), m_b1_s]
          · rw [if_neg (show ¬ ¬ Int32.ofNat 4 = (4 : Int32) from fun z => z rfl), e_own hM (by omega) (by omega) hca.2.1.2.1 rfl rfl (by have := hca.2.1.1; omega) k3 r1 r2, m_b1_s]
      · refine q_JR_er h0 f0 (s := "java/lang/IllegalArgumentException") (b := 0) (k := 2) ?_ ?_ (by simp)
        · unfold f_X8_cassette
          rw [m_gd_t h.ox, g_vitAt h hc, m_bt_s, if_neg (io_nn hk (by omega)), m_gd_t hV.1, hcs.1.2.2.2.2.2.1, if_pos ((io_lt (by omega) (by omega)).mpr hk), hV.2.1.1, m_b1_s, m_gd_t hV.2.1.2.1, m_gd_t (q_inn hV.2.1.2 (by omega) (by omega)), io_tn (by omega), (hV.2.2 k (by omega)).1, m_b1_s, if_neg (q_ne hw (j := 0) (by omega) (by omega)), if_neg (q_ne hw (j := 1) (by omega) (by omega)), if_neg (q_ne hw (j := 2) (by omega) (by omega)), if_neg (q_ne hw (j := 3) (by omega) (by omega)), if_neg (q_ne hw (j := 4) (by omega) (by omega))]
        · unfold f_X9_cassette
          rw [m_gd_t hM.o, m_lt_s, e0, e_isCase hM h0.n5 h0.cs, m_b1_s, if_pos (q_yes hc (by omega))]
          simp only [m_jp_s]
          rw [if_neg z10, eN, m_b1_s, e_isN (m := m) (by omega), m_b1_s, if_pos (q_yes hk (by omega)), if_neg z10, e_may1 hM.o z10 z0, m_bw_s, if_neg z10, e_isInN (hi := 4) (n := 4) rfl (by omega), m_b1_s, e_may hM.o z0 z20, if_neg (q_no hw), if_neg nz0]
    · refine q_JR_er h0 f0 (s := "java/lang/IndexOutOfBoundsException") (b := 0) (k := 1) ?_ ?_ (by simp)
      · unfold f_X8_cassette
        rw [m_gd_t h.ox, g_vitAt h hc, m_bt_s]
        by_cases q1 : q < 0
        · rw [if_pos q1]
        · rw [if_neg q1, m_gd_t hV.1, hcs.1.2.2.2.2.2.1, if_neg (Int32.not_lt.mpr (hq.resolve_left q1))]
      · unfold f_X9_cassette
        rw [m_gd_t hM.o, m_lt_s, e0, e_isCase hM h0.n5 h0.cs, m_b1_s, if_pos (q_yes hc (by omega))]
        simp only [m_jp_s]
        rw [if_neg z10, eN, m_b1_s, e_isN (m := m) (by omega), m_b1_s, if_neg (q_no hq), if_pos z00, e_may0 hM.o z0 z10, m_bw_s, if_pos z00]
  · refine q_JR_er h0 f0 (s := "java/lang/IndexOutOfBoundsException") (b := 0) (k := 1) ?_ ?_ (by simp)
    · unfold f_X8_cassette
      rw [m_gd_t h.ox, g_vitNo h hp, m_bt_e]
    · unfold f_X9_cassette
      rw [m_gd_t hM.o, m_lt_s, e0, e_isCase hM h0.n5 h0.cs, m_b1_s, if_neg (q_no hp)]
      simp only [m_jp_s]
      rw [if_pos trivial, e_may0 hM.o z0 z10, m_bw_s, if_pos z00]
end CASSETTE
