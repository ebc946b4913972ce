section CASEC
variable {Z : m_Z} {x m pd n st ns nv nk nc nq : Nat} {B : Nat → Int32} {S0 T0 S T : m_S}
/-- what the reference does behind the word safe and its two numbers -/
def q_J61 (Z : m_Z) (m : Nat) (S62 : m_S) : Option (Unit × m_S) := m_b1 (S62.2.2 m 2) (fun b63 => m_gd (m_ok Z b63 11) (m_gd (m_in (5 : Int32) (Z.2.2 b63)) (m_gd (m_in (5 : Int32) (Z.2.2 b63)) (m_lt (m_pI S62 b63 (5 : Int32).toNatClampNeg ((S62.1 b63 (5 : Int32).toNatClampNeg) + (1 : Int32))) (fun S68 => m_bw (f_X9_ends Z S68 m) (fun _u S71 => some ((), S71)))))))
theorem q_W_J61 (h : q_wr Z m T) : q_W m T (q_J61 Z m T) := by
  have i5 : m_in (5 : Int32) (Z.2.2 (m + 2)) := q_inl (wi := 5) (i := 5) rfl h.1.told.2 (by omega) (by omega)
  unfold q_J61
  rw [h.1.told.1, m_b1_s, m_gd_t h.1.told.2.1, m_gd_t i5, m_gd_t i5]
  refine q_W_set (Or.inl rfl) ?_
  exact q_W_ends (q_wr_I h (Or.inl rfl)) q_W_done
def q_J73 (Z : m_Z) (m : Nat) (v20 : Int32) (S59 : m_S) : Option (Unit × m_S) := m_b1 (S59.2.2 m 6) (fun b73 => m_bw (f_X9_figure Z S59 m (0 : Int32) (1000 : Int32)) (fun v77 S76 => m_gd (m_ok Z b73 11) (m_gd (m_in (v20 + (1 : Int32)) (Z.2.2 b73)) (m_lt (m_pI S76 b73 (v20 + (1 : Int32)).toNatClampNeg v77) (fun S80 => m_b1 (S80.2.2 m 6) (fun b82 => m_gd (m_ok Z b82 11) (m_lt (v20 + (1 : Int32)) (fun v85 => m_gd (m_in v85 (Z.2.2 b82)) (m_bw (f_X9_figure Z S80 m (S80.1 b82 v85.toNatClampNeg) (1000 : Int32)) (fun v90 S89 => m_gd (m_in (v20 + (2 : Int32)) (Z.2.2 b82)) (m_lt (m_pI S89 b82 (v20 + (2 : Int32)).toNatClampNeg v90) (fun S92 => q_J61 Z m S92))))))))))))
def q_J59 (Z : m_Z) (m : Nat) (v20 : Int32) (S46 : m_S) (b37 : Nat) (w : Int32) : Option (Unit × m_S) := m_gd (m_ok Z b37 11) (m_gd (m_in (v20 + (3 : Int32)) (Z.2.2 b37)) (m_lt (m_pI S46 b37 (v20 + (3 : Int32)).toNatClampNeg w) (fun S50 => m_b1 (S50.2.2 m 6) (fun b52 => m_gd (m_ok Z b52 11) (m_gd (m_in (v20 + (2 : Int32)) (Z.2.2 b52)) (m_lt (m_pI S50 b52 (v20 + (2 : Int32)).toNatClampNeg (1000 : Int32)) (fun S56 => m_bw (f_X9_takesWord Z S56 m 7) (fun v60 S59 => (if v60 = 0 then q_J61 Z m S59 else q_J73 Z m v20 S59)))))))))
theorem q_W_J59 (h : q_wr Z m T) (hn : nc < 6) (w : Int32) : q_W m T (q_J59 Z m (Int32.ofNat (4 + 56 * nc)) T (m + 6) w) := by
  have e7 : Int32.ofNat (4 + 56 * nc) + (3 : Int32) = Int32.ofNat (4 + 56 * nc + 3) := io_add (4 + 56 * nc) 3
  have e6 : Int32.ofNat (4 + 56 * nc) + (2 : Int32) = Int32.ofNat (4 + 56 * nc + 2) := io_add (4 + 56 * nc) 2
  unfold q_J59
  rw [e7, e6, m_gd_t h.1.fresh.2.1, m_gd_t (q_inn h.1.fresh.2 (by omega) (by omega))]
  refine q_W_set (Or.inr rfl) ?_
  have h1 := q_wr_I (b := m + 6) (k := (Int32.ofNat (4 + 56 * nc + 3)).toNatClampNeg) (v := w) h (Or.inr rfl)
  generalize m_pI T (m + 6) (Int32.ofNat (4 + 56 * nc + 3)).toNatClampNeg w = T1 at h1 ⊢
  rw [h1.1.fresh.1, m_b1_s, m_gd_t h.1.fresh.2.1, m_gd_t (q_inn h.1.fresh.2 (by omega) (by omega))]
  refine q_W_set (Or.inr rfl) ?_
  have h2 := q_wr_I (b := m + 6) (k := (Int32.ofNat (4 + 56 * nc + 2)).toNatClampNeg) (v := 1000) h1 (Or.inr rfl)
  generalize m_pI T1 (m + 6) (Int32.ofNat (4 + 56 * nc + 2)).toNatClampNeg 1000 = T2 at h2 ⊢
  rw [e_takesWord1 h2, m_bw_s, if_pos z00]
  exact q_W_J61 h2
theorem e_takes0 (hM : q_M Z T.2.2 m) {w : Nat} (h : f_X9_isWord Z T m w = some 0) : f_X9_takesWord Z T m w = some (0, T) := by
  unfold f_X9_takesWord
  rw [m_gd_t hM.o, h, m_b1_s, if_pos z00, m_gd_t (Or.inl rfl)]
theorem e_takes1 (hM : q_M Z T.2.2 m) {w : Nat} {T1 : m_S} (h : f_X9_isWord Z T m w = some 1) (e : f_X9_token Z T m = some ((), T1)) : f_X9_takesWord Z T m w = some (1, T1) := by
  unfold f_X9_takesWord
  rw [m_gd_t hM.o, h, m_b1_s, if_neg z10, e, m_bw_s, m_gd_t (Or.inr rfl)]
/-- a case -/
theorem q_case (h : q_P Z x m pd n B S0 T0 st S T) (hD : q_D Z x m pd ns nv nk nc (fun _ => 0) nq S T) (hn : nc < 6) : q_E Z x m pd S0 T0 (fun S' T' => (∃ st', q_P Z x m pd n B S0 T0 st' S' T') ∧ q_D Z x m pd ns nv nk (nc + 1) (fun _ => 0) nq S' T') (f_X3_readCase Z S (x + 1) pd (Int32.ofNat nc)) (f_X9_oneCase Z T m) := by
  have hm := h.em
  have hpd := h.pdr
  have w7 : T.1 (m + 2) 5 = Int32.ofNat nc := hD.1.2.1.2.2.2.2.2.2.2
  have hn2 := hD.2.2.2.2.1.2
  have o5 : m_ok Z pd 5 := hD.1.1.1
  obtain ⟨st1, S1, T1, g1, r1, hP1, f1, f2, f3, f4⟩ := q_P_next h
  have eb := e_begins_ok (i := 5) (wi := 5) (lim := 6) h.M h.w0 rfl (by omega) (by rw [w7]; exact fun z => by have := t_eq.mp z; rw [t_ofNat (by omega), show (6 : Int32).toInt = 6 from rfl] at this; omega) r1 hP1.M hP1.w0
  have oc : m_okn Z (x + 4) 12 6 := h.f.2.2.1.g (j := 4) (by decide +kernel)
  have hnt1 : q_nt (x + 4) (m + 13) nc S1 T1 := q_nt_cg hn2 (fun j _ => by rw [f2]) (fun j _ => (f3 _ _ (by omega)).2.1)
  have t5 : (5 : Int32).toNatClampNeg = 5 := rfl
  have i5 : m_in (5 : Int32) (Z.2.2 (m + 2)) := q_inl (wi := 5) (i := 5) rfl h.M.told.2 (by omega) (by omega)
  have ok2 : m_ok Z (m + 2) 11 := h.M.told.2.1
  have ok6 : m_ok Z (m + 6) 11 := h.M.fresh.2.1
  obtain ⟨v, hv⟩ : ∃ v, v = pd + 18 + 8 * nc := ⟨_, rfl⟩
  unfold f_X3_readCase f_X9_oneCase
  rw [m_gd_t h.f.o1, m_gd_t h.M.o, g1, m_bw_s, eb, m_bw_s, if_neg z10, show S1.2.2 (x + 1) 9 = some (x + 4) from hP1.rs.g (a := 1) (by decide +kernel), m_b1_s, hP1.M.caseN.1, m_b1_s, hP1.M.told.1, m_b1_s, m_gd_t ok2, m_gd_t i5, show T1.1 (m + 2) (5 : Int32).toNatClampNeg = Int32.ofNat nc from ((f3 (m + 2) 5 (by omega)).1).trans w7]
  rcases q_newn hP1 oc hP1.M.caseN.2 (Or.inr rfl) hn (by omega) hnt1 with ⟨st2, S2, T2, f, l, y1, y2, hP2, a1, a2, a3, a4, a5, a6, a7⟩ | ⟨S', T', y1, y2, hE, hw⟩
  · rw [y1, m_bx_s, y2, m_bw_s, if_pos z10, m_gd_t oc.1, m_gd_t (q_inn oc (by omega) (by omega))]
    obtain ⟨S3, hS3⟩ : ∃ y, y = m_pJ S2 (x + 4) nc (Int64.ofNat (q_fo 32 f l)) := ⟨_, rfl⟩
    have b3 : q_ag (fun b j => ¬ (b = x + 4 ∧ j = nc)) S2 S3 := by rw [hS3]; exact q_ag_J (q_ag_refl _ _) (by omega)
    have r3 : S3.2.2 = S.2.2 := by rw [hS3]; show S2.2.2 = _; rw [a2, f2]
    have hP3 : q_P Z x m pd n B S0 T0 st2 S3 T2 := hP2.go (q_ag_sub b3 (fun b k hb => by omega)) (by rw [r3]; exact h.rs) (q_ag_refl _ _) rfl
    have kp := q_vpb_of (R := S.2.2) h.f.2.2.1 h.rs hpd
    have kr := (q_vref_of (R := S.2.2) h.f.2.2.1 h.rs hpd hn)
    rw [← hv] at kr
    obtain ⟨kr, kV⟩ := kr
    have ov : m_ok Z v 7 := kV.1
    have t25 : T2.1 (m + 2) 5 = Int32.ofNat nc := by rw [(a3 _ _ (by omega)).1, (f3 _ _ (by omega)).1]; exact w7
    have e4 : (4 : Int32) + (56 : Int32) * Int32.ofNat nc = Int32.ofNat (4 + 56 * nc) := by
      show Int32.ofNat 4 + Int32.ofNat 56 * Int32.ofNat nc = _
      rw [io_mul, io_add]
    have e110 : (110 : Int32) + Int32.ofNat nc = Int32.ofNat (110 + nc) := io_add 110 nc
    have eo : ∀ w : Nat, Int32.ofNat (4 + 56 * nc) + Int32.ofNat w = Int32.ofNat (4 + 56 * nc + w) := fun w => io_add _ _
    have i110 : m_in (Int32.ofNat (110 + nc)) (Z.2.2 (m + 2)) := q_inn h.M.told.2 (by omega) (by omega)
    have n110 : (Int32.ofNat (110 + nc)).toNatClampNeg = 110 + nc := io_tn (by omega)
    have io : ∀ w : Nat, w < 4 → m_in (Int32.ofNat (4 + 56 * nc + w)) (Z.2.2 (m + 6)) := fun w hw => q_inn h.M.fresh.2 (by omega) (by omega)
    have no : ∀ w : Nat, w < 4 → (Int32.ofNat (4 + 56 * nc + w)).toNatClampNeg = 4 + 56 * nc + w := fun w hw => io_tn (by omega)
    have eS3 : m_pJ S2 (x + 4) (Int32.ofNat nc).toNatClampNeg (Int64.ofNat (q_fo 32 f l)) = S3 := by rw [io_tn (by omega), hS3]
    have kr' : S.2.2 (pd + 5) (Int32.ofNat nc).toNatClampNeg = some v := by rw [io_tn (by omega)]; exact kr
    rw [eS3, m_lt_s, m_gd_t o5, r3, kp.1, m_b1_s, m_gd_t kp.2.1, m_gd_t (q_inn kp.2 (by omega) (by omega)), kr', m_b1_s, hP2.M.told.1, m_b1_s, m_gd_t ok2, m_gd_t i5, show T2.1 (m + 2) (5 : Int32).toNatClampNeg = Int32.ofNat nc from t25, e4, e110, m_lt_s]
    have aS3 : q_ag (fun b k => ¬ (b = x + 1 ∧ 4 ≤ k ∧ k ≤ 7) ∧ ¬ (b = x + 4 ∧ k = nc) ∧ ¬ (b = v)) S S3 := q_ag_trans (q_ag_sub f1 (fun b k hb => by omega)) (q_ag_trans (q_ag_sub a1 (fun b k hb => by omega)) (q_ag_sub b3 (fun b k hb => by omega)))
    have aT2 : q_ag (fun b k => ¬ (b = m ∧ ((14 ≤ k ∧ k ≤ 17) ∨ k = 20)) ∧ ¬ (b = m + 13 ∧ k = nc) ∧ ¬ (b = m + 2 ∧ k = 110 + nc) ∧ ¬ (b = m + 6 ∧ 4 + 56 * nc ≤ k ∧ k < 8 + 56 * nc)) T T2 := q_ag_trans (q_ag_sub f3 (fun b k hb => by omega)) (q_ag_sub a3 (fun b k hb => by omega))
    refine q_E_num hP3 100 9999 (fun vol st4 S4 T4 vo1 vo2 hP4 c1 c2 c3 c4 => ?_) (fun vol T' hw => ?_)
    · obtain ⟨T5, hT5⟩ : ∃ y, y = m_pI T4 (m + 2) (110 + nc) vol := ⟨_, rfl⟩
      have d5 : q_ag (fun b j => ¬ (b = m + 2 ∧ j = 110 + nc)) T4 T5 := by rw [hT5]; exact q_ag_I (q_ag_refl _ _) (by omega)
      have hP5 : q_P Z x m pd n B S0 T0 st4 S4 T5 := hP4.go (q_ag_refl _ _) hP4.rs (q_ag_sub d5 (fun b k hb => by omega)) (by rw [hT5]; rfl)
      rw [m_gd_t i110, n110, ← hT5, m_lt_s, hP5.M.fresh.1, m_b1_s]
      refine q_E_num hP5 0 1000 (fun lk st6 S6 T6 l1 l2 hP6 p1 p2 p3 p4 => ?_) (fun lk T' hw => ?_)
      · obtain ⟨T7, hT7⟩ : ∃ y, y = m_pI T6 (m + 6) (4 + 56 * nc + 0) lk := ⟨_, rfl⟩
        have d7 : q_ag (fun b j => ¬ (b = m + 6 ∧ j = 4 + 56 * nc)) T6 T7 := by rw [hT7]; exact q_ag_I (q_ag_refl _ _) (by omega)
        have hP7 : q_P Z x m pd n B S0 T0 st6 S6 T7 := hP6.go (q_ag_refl _ _) hP6.rs (q_ag_sub d7 (fun b k hb => by omega)) (by rw [hT7]; rfl)
        have tvol : T7.1 (m + 2) (110 + nc) = vol := by rw [(d7 _ _ (by omega)).1, (p3 _ _ (by omega)).1, hT5, pI_same]
        rw [m_gd_t ok6, show Int32.ofNat (4 + 56 * nc) + (0 : Int32) = Int32.ofNat (4 + 56 * nc + 0) from eo 0, m_gd_t (io 0 (by omega)), no 0 (by omega), ← hT7, m_lt_s, hP7.M.fresh.1, m_b1_s, hP7.M.told.1, m_b1_s, m_gd_t ok2, m_lt_s, m_gd_t i110, n110, tvol]
        refine q_E_num hP7 0 1000 (fun hu st8 S8 T8 u1 u2 hP8 s1 s2 s3 s4 => ?_) (fun hu T' hw => ?_)
        · obtain ⟨ai, hai⟩ : ∃ y, y = vol * hu / 1000 := ⟨_, rfl⟩
          have k100 : (100 : Int32).toInt = 100 := rfl
          have k9999 : (9999 : Int32).toInt = 9999 := rfl
          have k0 : (0 : Int32).toInt = 0 := rfl
          have k1000 : (1000 : Int32).toInt = 1000 := rfl
          rw [k100] at vo1
          rw [k9999] at vo2
          rw [k0] at l1 u1
          rw [k1000] at l2 u2
          have hprod : 0 ≤ vol.toInt * hu.toInt ∧ vol.toInt * hu.toInt ≤ 9999000 := by
            refine ⟨Int.mul_nonneg (by omega) u1, ?_⟩
            have : vol.toInt * hu.toInt ≤ 9999 * 1000 := Int.mul_le_mul vo2 u2 u1 (by omega)
            omega
          have ait : ai.toInt = vol.toInt * hu.toInt / 1000 := by
            rw [hai, t_div (by rw [k1000]; omega), t_mul (by omega) (by omega), k1000, d_pos hprod.1]
          have aib : 0 ≤ ai.toInt ∧ ai.toInt < 20000 := by rw [ait]; omega
          obtain ⟨S9, hS9⟩ : ∃ y, y = m_pI (m_pI (m_pI (m_pI (m_pI S8 v 0 vol) v 1 lk) v 2 0) v 3 1000) v 5 0 := ⟨_, rfl⟩
          obtain ⟨S10, hS10⟩ : ∃ y, y = m_pI S9 v 4 ai := ⟨_, rfl⟩
          have b10 : q_ag (fun b _ => ¬ (b = v)) S8 S10 := by
            rw [hS10, hS9]
            exact q_ag_I (q_ag_I (q_ag_I (q_ag_I (q_ag_I (q_ag_I (q_ag_refl _ _) (by omega)) (by omega)) (by omega)) (by omega)) (by omega)) (by omega)
          have r10 : S10.2 = S8.2 := by rw [hS10, hS9]; rfl
          have gb : f_X7_begin Z S8 v vol lk hu = some ((), S10) := by
            unfold f_X7_begin f_X7_fillAir f_X7_airAt
            rw [m_gd_t ov, m_lt_s, m_lt_s, m_lt_s, m_lt_s, ← hS9, m_lt_s, m_gd_t ov, m_gd_t ov, m_b1_s, show S9.1 v 0 = vol by rw [hS9, pI_ne (by omega), pI_ne (by omega), pI_ne (by omega), pI_ne (by omega), pI_same], ← hai, ← hS10, m_lt_s, m_bw_s]
          obtain ⟨T10, hT10⟩ : ∃ y, y = m_pI (m_pI T8 (m + 6) (4 + 56 * nc + 3) ai) (m + 6) (4 + 56 * nc + 2) 1000 := ⟨_, rfl⟩
          have d10 : q_ag (fun b j => ¬ (b = m + 6 ∧ (j = 4 + 56 * nc + 2 ∨ j = 4 + 56 * nc + 3))) T8 T10 := by rw [hT10]; exact q_ag_I (q_ag_I (q_ag_refl _ _) (by omega)) (by omega)
          have hP10 : q_P Z x m pd n B S0 T0 st8 S10 T10 := hP8.go (q_ag_sub b10 (fun b k hb => by omega)) (by rw [r10]; exact hP8.rs) (q_ag_sub d10 (fun b k hb => by omega)) (by rw [hT10]; rfl)
          have aS10 : q_ag (fun b k => ¬ (b = x + 1 ∧ 4 ≤ k ∧ k ≤ 7) ∧ ¬ (b = x + 4 ∧ k = nc) ∧ ¬ (b = v)) S S10 := q_ag_trans aS3 (q_ag_trans (q_ag_sub c1 (fun b k hb => by omega)) (q_ag_trans (q_ag_sub p1 (fun b k hb => by omega)) (q_ag_trans (q_ag_sub s1 (fun b k hb => by omega)) (q_ag_sub b10 (fun b k hb => by omega)))))
          have aT10 : q_ag (fun b k => ¬ (b = m ∧ ((14 ≤ k ∧ k ≤ 17) ∨ k = 20)) ∧ ¬ (b = m + 13 ∧ k = nc) ∧ ¬ (b = m + 2 ∧ k = 110 + nc) ∧ ¬ (b = m + 6 ∧ 4 + 56 * nc ≤ k ∧ k < 8 + 56 * nc)) T T10 := q_ag_trans aT2 (q_ag_trans (q_ag_sub c3 (fun b k hb => by omega)) (q_ag_trans (q_ag_sub d5 (fun b k hb => by omega)) (q_ag_trans (q_ag_sub p3 (fun b k hb => by omega)) (q_ag_trans (q_ag_sub d7 (fun b k hb => by omega)) (q_ag_trans (q_ag_sub s3 (fun b k hb => by omega)) (q_ag_sub d10 (fun b k hb => by omega)))))))
          have rS10 : S10.2 = S3.2 := by rw [r10, s2, p2, c2]
          have rS10R : S10.2.2 = S.2.2 := by rw [rS10]; exact r3
          have nmS : S10.2.1 (x + 4) nc = Int64.ofNat (q_fo 32 f l) := by rw [rS10, hS3]; exact pJ_same _ _ _ _
          have nmT : T10.2.1 (m + 13) nc = Int64.ofNat (q_fo 27 f l) := by rw [(d10 _ _ (by omega)).2.1, (s3 _ _ (by omega)).2.1, (d7 _ _ (by omega)).2.1, (p3 _ _ (by omega)).2.1, (d5 _ _ (by omega)).2.1, (c3 _ _ (by omega)).2.1]; exact a5
          have x0 : S10.1 v 0 = vol := by rw [hS10, hS9, pI_ne (by omega), pI_ne (by omega), pI_ne (by omega), pI_ne (by omega), pI_ne (by omega), pI_same]
          have x1 : S10.1 v 1 = lk := by rw [hS10, hS9, pI_ne (by omega), pI_ne (by omega), pI_ne (by omega), pI_ne (by omega), pI_same]
          have x2 : S10.1 v 2 = 0 := by rw [hS10, hS9, pI_ne (by omega), pI_ne (by omega), pI_ne (by omega), pI_same]
          have x3 : S10.1 v 3 = 1000 := by rw [hS10, hS9, pI_ne (by omega), pI_ne (by omega), pI_same]
          have x4 : S10.1 v 4 = ai := by rw [hS10, pI_same]
          have x5 : S10.1 v 5 = 0 := by rw [hS10, hS9, pI_ne (by omega), pI_same]
          have z0 : T10.1 (m + 2) (110 + nc) = vol := by rw [(d10 _ _ (by omega)).1, (s3 _ _ (by omega)).1]; exact tvol
          have z1 : T10.1 (m + 6) (4 + 56 * nc) = lk := by rw [(d10 _ _ (by omega)).1, (s3 _ _ (by omega)).1, hT7]; exact pI_same _ _ _ _
          have z2' : T10.1 (m + 6) (5 + 56 * nc) = 0 := by rw [(d10 _ _ (by omega)).1, (s3 _ _ (by omega)).1, (d7 _ _ (by omega)).1, (p3 _ _ (by omega)).1, (d5 _ _ (by omega)).1, (c3 _ _ (by omega)).1, (a3 _ _ (by omega)).1, (f3 _ _ (by omega)).1]; exact hD.2.2.2.2.2.2.1 nc _ (Nat.le_refl _) hn (by omega) (by omega)
          have z3 : T10.1 (m + 6) (6 + 56 * nc) = 1000 := by rw [hT10, show 6 + 56 * nc = 4 + 56 * nc + 2 by omega, pI_same]
          have z4 : T10.1 (m + 6) (7 + 56 * nc) = ai := by rw [hT10, pI_ne (by omega), show 7 + 56 * nc = 4 + 56 * nc + 3 by omega, pI_same]
          rw [m_gd_t ov, gb, m_bw_s, m_gd_t ok6, show Int32.ofNat (4 + 56 * nc) + (3 : Int32) = Int32.ofNat (4 + 56 * nc + 3) from eo 3, m_gd_t (io 3 (by omega)), show m_pI T8 (m + 6) (Int32.ofNat (4 + 56 * nc + 3)).toNatClampNeg (vol * hu / 1000) = m_pI T8 (m + 6) (4 + 56 * nc + 3) ai by rw [no 3 (by omega), hai], m_lt_s, show (m_pI T8 (m + 6) (4 + 56 * nc + 3) ai).2.2 m 6 = some (m + 6) from hP8.M.fresh.1, m_b1_s, m_gd_t ok6, show Int32.ofNat (4 + 56 * nc) + (2 : Int32) = Int32.ofNat (4 + 56 * nc + 2) from eo 2, m_gd_t (io 2 (by omega)), show m_pI (m_pI T8 (m + 6) (4 + 56 * nc + 3) ai) (m + 6) (Int32.ofNat (4 + 56 * nc + 2)).toNatClampNeg 1000 = T10 by rw [no 2 (by omega), hT10], m_lt_s]
          obtain ⟨r, q1, q2, q3⟩ := q_at hP10 (w := 7) (by omega)
          rcases q3 with rfl | ⟨rfl, -⟩
          · rw [q1, m_b1_s, if_pos z00, e_takes0 hP10.M q2, m_bw_s, m_jp_s, if_pos z00]
            refine q_caseE hP10 hD hn (by rw [← hv]; exact aS10) rS10R aT10 ⟨f, l, a6, a7, nmS, nmT⟩ ?_ ?_
            · rw [← hv, x0, x1, x2, x3, x4, z0, z1, z2', z3, z4]; exact ⟨rfl, rfl, rfl, rfl, rfl, x5⟩
            · rw [z0, z1, z4]; exact ⟨⟨vo1, vo2⟩, ⟨l1, l2⟩, aib⟩
          · obtain ⟨st11, S11, T11, g11, r11, hP11, j1, j2, j3, j4⟩ := q_P_next hP10
            rw [q1, m_b1_s, if_neg z10, e_takes1 hP10.M q2 r11, m_bw_s, m_jp_s, if_neg z10, g11, m_bw_s, hP11.M.fresh.1, m_b1_s]
            refine q_E_num hP11 0 1000 (fun lo st12 S12 T12 lo1 lo2 hP12 t1 t2 t3 t4 => ?_) (fun lo T' hw => ?_)
            · obtain ⟨S13, hS13⟩ : ∃ y, y = m_pI S12 v 2 lo := ⟨_, rfl⟩
              obtain ⟨T13, hT13⟩ : ∃ y, y = m_pI T12 (m + 6) (4 + 56 * nc + 1) lo := ⟨_, rfl⟩
              have b13 : q_ag (fun b j => ¬ (b = v ∧ j = 2)) S12 S13 := by rw [hS13]; exact q_ag_I (q_ag_refl _ _) (by omega)
              have d13 : q_ag (fun b j => ¬ (b = m + 6 ∧ j = 4 + 56 * nc + 1)) T12 T13 := by rw [hT13]; exact q_ag_I (q_ag_refl _ _) (by omega)
              have hP13 : q_P Z x m pd n B S0 T0 st12 S13 T13 := hP12.go (q_ag_sub b13 (fun b k hb => by omega)) (by rw [hS13]; exact hP12.rs) (q_ag_sub d13 (fun b k hb => by omega)) (by rw [hT13]; rfl)
              rw [← hS13, m_lt_s, show S13.1 v 2 = lo by rw [hS13, pI_same], m_gd_t ok6, show Int32.ofNat (4 + 56 * nc) + (1 : Int32) = Int32.ofNat (4 + 56 * nc + 1) from eo 1, m_gd_t (io 1 (by omega)), no 1 (by omega), ← hT13, m_lt_s, hP13.M.fresh.1, m_b1_s, m_gd_t ok6, m_lt_s, m_gd_t (io 1 (by omega)), no 1 (by omega), show T13.1 (m + 6) (4 + 56 * nc + 1) = lo by rw [hT13, pI_same]]
              refine q_E_num hP13 lo 1000 (fun hi st14 S14 T14 hi1 hi2 hP14 i1 i2 i3 i4 => ?_) (fun hi T' hw => ?_)
              · obtain ⟨S15, hS15⟩ : ∃ y, y = m_pI S14 v 3 hi := ⟨_, rfl⟩
                obtain ⟨T15, hT15⟩ : ∃ y, y = m_pI T14 (m + 6) (4 + 56 * nc + 2) hi := ⟨_, rfl⟩
                have b15 : q_ag (fun b j => ¬ (b = v ∧ j = 3)) S14 S15 := by rw [hS15]; exact q_ag_I (q_ag_refl _ _) (by omega)
                have d15 : q_ag (fun b j => ¬ (b = m + 6 ∧ j = 4 + 56 * nc + 2)) T14 T15 := by rw [hT15]; exact q_ag_I (q_ag_refl _ _) (by omega)
                have hP15 : q_P Z x m pd n B S0 T0 st14 S15 T15 := hP14.go (q_ag_sub b15 (fun b k hb => by omega)) (by rw [hS15]; exact hP14.rs) (q_ag_sub d15 (fun b k hb => by omega)) (by rw [hT15]; rfl)
                rw [← hS15, m_lt_s, m_gd_t (io 2 (by omega)), no 2 (by omega), ← hT15, m_lt_s]
                have aSx : q_ag (fun b j => ¬ (b = x + 1 ∧ 4 ≤ j ∧ j ≤ 7) ∧ ¬ (b = v ∧ (j = 2 ∨ j = 3))) S10 S15 := q_ag_trans (q_ag_sub j1 (fun b k hb => by omega)) (q_ag_trans (q_ag_sub t1 (fun b k hb => by omega)) (q_ag_trans (q_ag_sub b13 (fun b k hb => by omega)) (q_ag_trans (q_ag_sub i1 (fun b k hb => by omega)) (q_ag_sub b15 (fun b k hb => by omega)))))
                have aTx : q_ag (fun b j => ¬ (b = m ∧ ((14 ≤ j ∧ j ≤ 17) ∨ j = 20)) ∧ ¬ (b = m + 6 ∧ (j = 5 + 56 * nc ∨ j = 6 + 56 * nc))) T10 T15 := q_ag_trans (q_ag_sub j3 (fun b k hb => by omega)) (q_ag_trans (q_ag_sub t3 (fun b k hb => by omega)) (q_ag_trans (q_ag_sub d13 (fun b k hb => by omega)) (q_ag_trans (q_ag_sub i3 (fun b k hb => by omega)) (q_ag_sub d15 (fun b k hb => by omega)))))
                have rSx : S15.2 = S10.2 := by rw [hS15]; show S14.2 = _; rw [i2, hS13]; show S12.2 = _; rw [t2, j2]
                have y2 : S15.1 v 2 = lo := by rw [(b15 _ _ (by omega)).1, (i1 _ _ (by omega)).1, hS13, pI_same]
                have y3 : S15.1 v 3 = hi := by rw [hS15, pI_same]
                have w2 : T15.1 (m + 6) (5 + 56 * nc) = lo := by rw [(d15 _ _ (by omega)).1, (i3 _ _ (by omega)).1, hT13, show 5 + 56 * nc = 4 + 56 * nc + 1 by omega, pI_same]
                have w3 : T15.1 (m + 6) (6 + 56 * nc) = hi := by rw [hT15, show 6 + 56 * nc = 4 + 56 * nc + 2 by omega, pI_same]
                refine q_caseE hP15 hD hn (by rw [← hv]; exact q_ag_trans aS10 (q_ag_sub aSx (fun b k hb => by omega))) (by rw [rSx]; exact rS10R) (q_ag_trans aT10 (q_ag_sub aTx (fun b k hb => by omega))) ⟨f, l, a6, a7, by rw [(aSx _ _ (by omega)).2.1]; exact nmS, by rw [(aTx _ _ (by omega)).2.1]; exact nmT⟩ ?_ ?_
                · rw [← hv, y2, y3, w2, w3, (aSx v 0 (by omega)).1, (aSx v 1 (by omega)).1, (aSx v 4 (by omega)).1, (aSx v 5 (by omega)).1, (aTx (m + 2) (110 + nc) (by omega)).1, (aTx (m + 6) (4 + 56 * nc) (by omega)).1, (aTx (m + 6) (7 + 56 * nc) (by omega)).1, x0, x1, x4, z0, z1, z4]; exact ⟨rfl, rfl, rfl, rfl, rfl, x5⟩
                · rw [(aTx (m + 2) (110 + nc) (by omega)).1, (aTx (m + 6) (4 + 56 * nc) (by omega)).1, (aTx (m + 6) (7 + 56 * nc) (by omega)).1, z0, z1, z4]; exact ⟨⟨vo1, vo2⟩, ⟨l1, l2⟩, aib⟩
              · rw [m_gd_t (io 2 (by omega))]
                refine q_W_set (Or.inr rfl) ?_
                exact q_W_J61 (q_wr_I hw (Or.inr rfl))
            · rw [m_gd_t ok6, show Int32.ofNat (4 + 56 * nc) + (1 : Int32) = Int32.ofNat (4 + 56 * nc + 1) from eo 1, m_gd_t (io 1 (by omega))]
              refine q_W_set (Or.inr rfl) ?_
              have h1 := q_wr_I (b := m + 6) (k := (Int32.ofNat (4 + 56 * nc + 1)).toNatClampNeg) (v := lo) hw (Or.inr rfl)
              generalize m_pI T' (m + 6) (Int32.ofNat (4 + 56 * nc + 1)).toNatClampNeg lo = T8 at h1 ⊢
              rw [h1.1.fresh.1, m_b1_s, m_gd_t ok6, m_lt_s, m_gd_t (io 1 (by omega))]
              refine q_W_fig h1 _ _ ?_
              rw [m_gd_t (io 2 (by omega))]
              refine q_W_set (Or.inr rfl) ?_
              exact q_W_J61 (q_wr_I h1 (Or.inr rfl))
        · exact q_W_J59 hw hn _
      · rw [m_gd_t ok6, show Int32.ofNat (4 + 56 * nc) + (0 : Int32) = Int32.ofNat (4 + 56 * nc + 0) from eo 0, m_gd_t (io 0 (by omega))]
        refine q_W_set (Or.inr rfl) ?_
        have h1 := q_wr_I (b := m + 6) (k := (Int32.ofNat (4 + 56 * nc + 0)).toNatClampNeg) (v := lk) hw (Or.inr rfl)
        generalize m_pI T' (m + 6) (Int32.ofNat (4 + 56 * nc + 0)).toNatClampNeg lk = T8 at h1 ⊢
        rw [h1.1.fresh.1, m_b1_s, h1.1.told.1, m_b1_s, m_gd_t ok2, m_lt_s, m_gd_t i110]
        refine q_W_fig h1 _ _ ?_
        exact q_W_J59 h1 hn _
    · rw [m_gd_t i110]
      refine q_W_set (Or.inl rfl) ?_
      have h0 := q_wr_I (b := m + 2) (k := (Int32.ofNat (110 + nc)).toNatClampNeg) (v := vol) hw (Or.inl rfl)
      generalize m_pI T' (m + 2) (Int32.ofNat (110 + nc)).toNatClampNeg vol = T9 at h0 ⊢
      rw [h0.1.fresh.1, m_b1_s]
      refine q_W_fig h0 _ _ ?_
      rw [m_gd_t ok6, show Int32.ofNat (4 + 56 * nc) + (0 : Int32) = Int32.ofNat (4 + 56 * nc + 0) from eo 0, m_gd_t (io 0 (by omega))]
      refine q_W_set (Or.inr rfl) ?_
      have h1 := q_wr_I (b := m + 6) (k := (Int32.ofNat (4 + 56 * nc + 0)).toNatClampNeg) (v := 0) h0 (Or.inr rfl)
      generalize m_pI T9 (m + 6) (Int32.ofNat (4 + 56 * nc + 0)).toNatClampNeg 0 = T8 at h1 ⊢
      rw [h1.1.fresh.1, m_b1_s, h1.1.told.1, m_b1_s, m_gd_t ok2, m_lt_s, m_gd_t i110]
      refine q_W_fig h1 _ _ ?_
      exact q_W_J59 h1 hn _
  · refine q_E_er hE (by rw [y1, m_bx_e]) ?_
    rw [y2, m_bw_s, if_neg nz0]
    exact q_W_done
end CASEC
