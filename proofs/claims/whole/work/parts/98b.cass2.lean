section CASSB
variable {Z : m_Z} {x m pd n st ns nv nk nc nq i k : Nat} {B : Nat → Int32} {S0 T0 S T : m_S}
def q_J94 (Z : m_Z) (m : Nat) (v81 : Int32) (S78 : m_S) : Option (Unit × m_S) := m_b1 (S78.2.2 m 6) (fun b80 => m_lt v81 (fun v82 => m_gd (m_ok Z b80 11) (m_gd (m_in v82 (Z.2.2 b80)) (m_gd (m_in v82 (Z.2.2 b80)) (m_lt (m_pI S78 b80 v82.toNatClampNeg ((S78.1 b80 v82.toNatClampNeg) + (1 : Int32))) (fun S87 => m_b1 (S87.2.2 m 6) (fun b89 => m_gd (m_ok Z b89 11) (m_gd (m_in (3 : Int32) (Z.2.2 b89)) (m_gd (m_in (3 : Int32) (Z.2.2 b89)) (m_lt (m_pI S87 b89 (3 : Int32).toNatClampNeg ((S87.1 b89 (3 : Int32).toNatClampNeg) + (1 : Int32))) (fun S94 => m_bw (f_X9_ends Z S94 m) (fun _u S97 => some ((), S97)))))))))))))
theorem q_W_J94 (h : q_wr Z m T) (hi : i < 6) : q_W m T (q_J94 Z m (Int32.ofNat (4 + 56 * i + 4)) T) := by
  have i3 : m_in (3 : Int32) (Z.2.2 (m + 6)) := q_inl (wi := 3) (i := 3) rfl h.1.fresh.2 (by omega) (by omega)
  have i8 : m_in (Int32.ofNat (4 + 56 * i + 4)) (Z.2.2 (m + 6)) := q_inn h.1.fresh.2 (by omega) (by omega)
  unfold q_J94
  rw [h.1.fresh.1, m_b1_s, m_lt_s, m_gd_t h.1.fresh.2.1, m_gd_t i8, m_gd_t i8]
  refine q_W_set (Or.inr rfl) ?_
  have h1 := q_wr_I (b := m + 6) (k := (Int32.ofNat (4 + 56 * i + 4)).toNatClampNeg) (v := T.1 (m + 6) (Int32.ofNat (4 + 56 * i + 4)).toNatClampNeg + 1) h (Or.inr rfl)
  generalize m_pI T (m + 6) (Int32.ofNat (4 + 56 * i + 4)).toNatClampNeg (T.1 (m + 6) (Int32.ofNat (4 + 56 * i + 4)).toNatClampNeg + 1) = T1 at h1 ⊢
  rw [h1.1.fresh.1, m_b1_s, m_gd_t h.1.fresh.2.1, m_gd_t i3, m_gd_t i3]
  refine q_W_set (Or.inr rfl) ?_
  exact q_W_ends (q_wr_I h1 (Or.inr rfl)) q_W_done
/-- a cassette -/
theorem q_cassette {cnt : Nat → Nat} (h : q_P Z x m pd n B S0 T0 st S T) (hD : q_D Z x m pd ns nv nk nc cnt nq S T) (hnq : nq ≤ 30) : q_E Z x m pd S0 T0 (fun S' T' => (∃ st', q_P Z x m pd n B S0 T0 st' S' T') ∧ ∃ i, i < nc ∧ cnt i < 5 ∧ q_D Z x m pd ns nv nk nc (q_up cnt i) (nq + 1) S' T') (f_X3_readCassette Z S (x + 1) pd) (f_X9_oneCassette Z T m) := by
  have hm := h.em
  have hpd := h.pdr
  have hD0 := hD
  obtain ⟨hs9, hnv, hK, ⟨hq1, hq2, hq3⟩, ⟨hn1, hn2⟩, hcs, hz, hser⟩ := hD0
  have hc6 : nc ≤ 6 := hs9.2.2.2.2.2.2
  have hk4 : nk ≤ 4 := hK.1
  have w7 : T.1 (m + 2) 5 = Int32.ofNat nc := hs9.2.1.2.2.2.2.2.2.2
  have w5 : T.1 (m + 2) 4 = Int32.ofNat nk := hs9.2.1.2.2.2.2.2.1
  have w6 : S.1 pd 8 = Int32.ofNat nc := hs9.2.1.2.2.2.2.2.2.1
  have w4 : S.1 pd 6 = Int32.ofNat nk := hs9.2.1.2.2.2.2.1
  have o5 : m_ok Z pd 5 := hs9.1.1
  obtain ⟨st1, S1, T1, g1, r1, hP1, f1, f2, f3, f4⟩ := q_P_next h
  have oc : m_okn Z (x + 4) 12 6 := h.f.2.2.1.g (j := 4) (by decide +kernel)
  have ok : m_okn Z (x + 3) 12 4 := h.f.2.2.1.g (j := 3) (by decide +kernel)
  have hnt1 : q_nt (x + 4) (m + 13) nc S1 T1 := q_nt_cg hn2 (fun j _ => by rw [f2]) (fun j _ => (f3 _ _ (by omega)).2.1)
  have t5 : (5 : Int32).toNatClampNeg = 5 := rfl
  have t4 : (4 : Int32).toNatClampNeg = 4 := rfl
  have t3 : (3 : Int32).toNatClampNeg = 3 := rfl
  have i5 : m_in (5 : Int32) (Z.2.2 (m + 2)) := q_inl (wi := 5) (i := 5) rfl h.M.told.2 (by omega) (by omega)
  have i4 : m_in (4 : Int32) (Z.2.2 (m + 2)) := q_inl (wi := 4) (i := 4) rfl h.M.told.2 (by omega) (by omega)
  have i3 : m_in (3 : Int32) (Z.2.2 (m + 6)) := q_inl (wi := 3) (i := 3) rfl h.M.fresh.2 (by omega) (by omega)
  have ok2 : m_ok Z (m + 2) 11 := h.M.told.2.1
  have ok6 : m_ok Z (m + 6) 11 := h.M.fresh.2.1
  have kp := q_vpb_of (R := S1.2.2) h.f.2.2.1 hP1.rs hpd
  unfold f_X3_readCassette f_X9_oneCassette
  rw [m_gd_t h.f.o1, m_gd_t h.M.o, g1, m_bw_s, r1, m_bw_s, m_gd_t o5, kp.1, m_b1_s, show S1.2.2 (x + 1) 9 = some (x + 4) from hP1.rs.g (a := 1) (by decide +kernel), m_b1_s, hP1.M.caseN.1, m_b1_s, hP1.M.told.1, m_b1_s, m_gd_t ok2, m_gd_t i5, t5, show T1.1 (m + 2) 5 = Int32.ofNat nc by rw [(f3 _ _ (by omega)).1]; exact w7, show S1.1 pd 8 = Int32.ofNat nc by rw [(f1 _ _ (by omega)).1]; exact w6]
  rcases q_known hP1 oc hP1.M.caseN.2 hc6 (by omega) hnt1 with ⟨i, hi, y1, y2⟩ | ⟨S', T', v, T1', y1, y2, hE, hw, hv⟩
  · obtain ⟨v, hv⟩ : ∃ v, v = pd + 18 + 8 * i := ⟨_, rfl⟩
    obtain ⟨kr, kV⟩ := q_vref_of (R := S1.2.2) h.f.2.2.1 hP1.rs hpd (c := i) (by omega)
    obtain ⟨d5, dv, dw, d9⟩ := hcs i hi
    rw [← hv] at kr kV dv
    have s5 : S1.1 v 5 = Int32.ofNat (cnt i) := by rw [(f1 _ _ (by omega)).1]; exact dv.2.2.2.2.2.1
    have t8 : T.1 (m + 6) (8 + 56 * i) = Int32.ofNat (cnt i) := by
      have := dv.2.2.2.2.2.2.1
      rw [q_row_lo _ _ (by omega) (by omega)] at this
      exact this
    have e4 : (4 : Int32) + (56 : Int32) * Int32.ofNat i = Int32.ofNat (4 + 56 * i) := by
      show Int32.ofNat 4 + Int32.ofNat 56 * Int32.ofNat i = _
      rw [io_mul, io_add]
    have e8 : Int32.ofNat (4 + 56 * i) + (4 : Int32) = Int32.ofNat (4 + 56 * i + 4) := io_add (4 + 56 * i) 4
    have i8 : m_in (Int32.ofNat (4 + 56 * i + 4)) (Z.2.2 (m + 6)) := q_inn h.M.fresh.2 (by omega) (by omega)
    have n8 : (Int32.ofNat (4 + 56 * i + 4)).toNatClampNeg = 8 + 56 * i := (io_tn (by omega)).trans (by omega)
    have T18 : T1.1 (m + 6) (8 + 56 * i) = Int32.ofNat (cnt i) := by rw [(f3 _ _ (by omega)).1]; exact t8
    have ki : (Int32.ofNat i).toNatClampNeg = i := io_tn (by omega)
    rw [y1, m_bx_s, y2, m_bw_s, m_gd_t kp.2.1, m_gd_t (q_inn kp.2 (by omega) (by omega)), ki, kr, m_b1_s, m_gd_t kV.1, g_full kV s5 (by omega), m_b1_s]
    rw [m_jp_c (d := T1) (fun j => if_pos (q_nm1 (by omega)))]
    rw [e_wrong0 hP1.M hP1.w0, m_b1_s, if_pos z00, e4, m_lt_s, hP1.M.fresh.1, m_b1_s, m_gd_t ok6, e8, m_lt_s, m_gd_t i8, n8, T18]
    by_cases hc5 : cnt i < 5
    · have n5 : ¬ Int32.ofNat (cnt i) = 5 := fun z => by have := t_eq.mp z; rw [t_ofNat (by omega), show (5 : Int32).toInt = 5 from rfl] at this; omega
      obtain ⟨st2, S2, T2, g2, r2, hP2, p1, p2, p3, p4⟩ := q_P_next hP1
      have kk := q_kpb_of (R := S2.2.2) h.f.2.2.1 hP2.rs hpd
      have hnt2 : q_nt (x + 3) (m + 12) nk S2 T2 := q_nt_cg hn1 (fun j _ => by rw [p2, f2]) (fun j _ => by rw [(p3 _ _ (by omega)).2.1]; exact (f3 _ _ (by omega)).2.1)
      rw [if_pos hc5, m_jp_c (d := S1) (fun j => if_pos z00)]
      rw [g2, m_bw_s, kk.1, m_b1_s, show S2.2.2 (x + 1) 8 = some (x + 3) from hP2.rs.g (a := 1) (by decide +kernel), m_b1_s, show S2.1 pd 6 = Int32.ofNat nk by rw [(p1 _ _ (by omega)).1, (f1 _ _ (by omega)).1]; exact w4]
      rw [m_jp_c (d := T1) (fun j => if_pos n5)]
      rw [e_wrong0 hP1.M hP1.w0, m_b1_s, m_jp_c (d := T2) (fun j => by rw [if_neg (fun z => z rfl), r2, m_bw_s])]
      rw [e_wrong0 hP2.M hP2.w0, m_b1_s]
      have jn : ∀ (j34 : Int32 → m_S → Option (Unit × m_S)), (if (0 : Int32) = 0 then m_b1 (T2.2.2 m 21) (fun b102 => m_b1 (T2.2.2 m 2) (fun b104 => m_gd (m_ok Z b104 11) (m_gd (m_in (4 : Int32) (Z.2.2 b104)) (m_bw (f_X9_named Z T2 m b102 (T2.1 b104 (4 : Int32).toNatClampNeg)) (fun v110 S109 => j34 v110 S109))))) else j34 (0 : Int32) T2) = m_bw (f_X9_named Z T2 m (m + 12) (Int32.ofNat nk)) j34 := fun j34 => by
        rw [if_pos z00, hP2.M.kindN.1, m_b1_s, hP2.M.told.1, m_b1_s, m_gd_t ok2, m_gd_t i4, t4, show T2.1 (m + 2) 4 = Int32.ofNat nk by rw [(p3 _ _ (by omega)).1, (f3 _ _ (by omega)).1]; exact w5]
      rcases q_known hP2 ok hP2.M.kindN.2 hk4 (by omega) hnt2 with ⟨k, hk, y3, y4⟩ | ⟨S', T', v', T2', y3, y4, hE, hw, hv'⟩
      · obtain ⟨d, hd⟩ : ∃ d, d = pd + 6 + 3 * k := ⟨_, rfl⟩
        have kr2 := q_kref_of (R := S2.2.2) hP2.rs hpd (k := k) (by omega)
        rw [← hd] at kr2
        have kk' : (Int32.ofNat k).toNatClampNeg = k := io_tn (by omega)
        obtain ⟨st3, S3, T3, g3, r3, hP3, a1, a2, a3, a4⟩ := q_P_next hP2
        obtain ⟨o, ho⟩ : ∃ o, o = 12 + 56 * i + 4 * cnt i := ⟨_, rfl⟩
        have e50 : (Int32.ofNat (4 + 56 * i) + (8 : Int32)) + (4 : Int32) * Int32.ofNat (cnt i) = Int32.ofNat o := by
          show (Int32.ofNat (4 + 56 * i) + Int32.ofNat 8) + Int32.ofNat 4 * Int32.ofNat (cnt i) = _
          rw [io_mul, io_add, io_add]; exact congrArg Int32.ofNat (by omega)
        have eo : ∀ w : Nat, Int32.ofNat o + Int32.ofNat w = Int32.ofNat (o + w) := fun w => io_add _ _
        have io : ∀ w : Nat, w < 4 → m_in (Int32.ofNat (o + w)) (Z.2.2 (m + 6)) := fun w hw => q_inn h.M.fresh.2 (by omega) (by omega)
        have no : ∀ w : Nat, w < 4 → (Int32.ofNat (o + w)).toNatClampNeg = o + w := fun w hw => io_tn (by omega)
        have tA : q_ag (fun b j => ¬ (b = m ∧ ((14 ≤ j ∧ j ≤ 17) ∨ j = 20))) T T3 := q_ag_trans (q_ag_sub f3 (fun b k hb => by omega)) (q_ag_trans (q_ag_sub p3 (fun b k hb => by omega)) (q_ag_sub a3 (fun b k hb => by omega)))
        have sA : q_ag (fun b j => ¬ (b = x + 1 ∧ 4 ≤ j ∧ j ≤ 7)) S S3 := q_ag_trans (q_ag_sub f1 (fun b k hb => by omega)) (q_ag_trans (q_ag_sub p1 (fun b k hb => by omega)) (q_ag_sub a1 (fun b k hb => by omega)))
        have rA : S3.2 = S.2 := by rw [a2, p2, f2]
        rw [y3, m_bx_s, m_gd_t kk.2.1, m_gd_t (q_inn kk.2 (by omega) (by omega)), kk', kr2, m_b1_s, g3, m_bw_s]
        rw [m_jp_c2 (d := Int32.ofNat k) (e := T2) (fun j => by rw [jn, y4, m_bw_s])]
        rw [m_jp_c (d := T2) (fun j => if_pos (q_nm1 (by omega)))]
        rw [e_wrong0 hP2.M hP2.w0, m_b1_s, if_pos z00, r3, m_bw_s, hP3.M.fresh.1, m_b1_s, m_gd_t ok6, m_lt_s, m_gd_t i8, n8, show T3.1 (m + 6) (8 + 56 * i) = Int32.ofNat (cnt i) by rw [(tA _ _ (by omega)).1]; exact t8, e50, m_lt_s, m_gd_t i3, show Int32.ofNat o + (0 : Int32) = Int32.ofNat (o + 0) from eo 0, m_gd_t (io 0 (by omega)), show m_pI T3 (m + 6) (Int32.ofNat (o + 0)).toNatClampNeg (T3.1 (m + 6) (3 : Int32).toNatClampNeg) = m_pI T3 (m + 6) (o + 0) (Int32.ofNat nq) by rw [no 0 (by omega), t3, (tA _ _ (by omega)).1, hq2], m_lt_s, show (m_pI T3 (m + 6) (o + 0) (Int32.ofNat nq)).2.2 m 6 = some (m + 6) from hP3.M.fresh.1, m_b1_s, m_gd_t ok6, show Int32.ofNat o + (1 : Int32) = Int32.ofNat (o + 1) from eo 1, m_gd_t (io 1 (by omega))]
        obtain ⟨T4, hT4⟩ : ∃ y, y = m_pI (m_pI T3 (m + 6) (o + 0) (Int32.ofNat nq)) (m + 6) (o + 1) (Int32.ofNat k) := ⟨_, rfl⟩
        have b4 : q_ag (fun b j => ¬ (b = m + 6 ∧ o ≤ j ∧ j < o + 2)) T3 T4 := by rw [hT4]; exact q_ag_I (q_ag_I (q_ag_refl _ _) (by omega)) (by omega)
        have hP4 : q_P Z x m pd n B S0 T0 st3 S3 T4 := hP3.go (q_ag_refl _ _) hP3.rs (q_ag_sub b4 (fun b k hb => by omega)) (by rw [hT4]; rfl)
        rw [show m_pI (m_pI T3 (m + 6) (o + 0) (Int32.ofNat nq)) (m + 6) (Int32.ofNat (o + 1)).toNatClampNeg (Int32.ofNat k) = T4 by rw [no 1 (by omega), hT4], m_lt_s, hP4.M.fresh.1, m_b1_s]
        refine q_E_num hP4 1 999 (fun mass st5 S5 T5 v1 v2 hP5 c1 c2 c3 c4 => ?_) (fun mass T' hw => ?_)
        · obtain ⟨T6, hT6⟩ : ∃ y, y = m_pI T5 (m + 6) (o + 2) mass := ⟨_, rfl⟩
          have b6 : q_ag (fun b j => ¬ (b = m + 6 ∧ j = o + 2)) T5 T6 := by rw [hT6]; exact q_ag_I (q_ag_refl _ _) (by omega)
          have hP6 : q_P Z x m pd n B S0 T0 st5 S5 T6 := hP5.go (q_ag_refl _ _) hP5.rs (q_ag_sub b6 (fun b k hb => by omega)) (by rw [hT6]; rfl)
          rw [m_gd_t ok6, show Int32.ofNat o + (2 : Int32) = Int32.ofNat (o + 2) from eo 2, m_gd_t (io 2 (by omega)), show m_pI T5 (m + 6) (Int32.ofNat (o + 2)).toNatClampNeg mass = T6 by rw [no 2 (by omega), hT6], m_lt_s, hP6.M.fresh.1, m_b1_s]
          refine q_E_num hP6 0 1000 (fun hum st7 S7 T7 u1 u2 hP7 l1 l2 l3 l4 => ?_) (fun hum T' hw => ?_)
          · obtain ⟨T8, hT8⟩ : ∃ y, y = m_pI T7 (m + 6) (o + 3) hum := ⟨_, rfl⟩
            obtain ⟨T9, hT9⟩ : ∃ y, y = m_pI T8 (m + 6) (8 + 56 * i) (Int32.ofNat (cnt i + 1)) := ⟨_, rfl⟩
            obtain ⟨T10, hT10⟩ : ∃ y, y = m_pI T9 (m + 6) 3 (Int32.ofNat (nq + 1)) := ⟨_, rfl⟩
            have b8 : q_ag (fun b j => ¬ (b = m + 6 ∧ j = o + 3)) T7 T8 := by rw [hT8]; exact q_ag_I (q_ag_refl _ _) (by omega)
            have b10 : q_ag (fun b j => ¬ (b = m + 6 ∧ (j = 8 + 56 * i ∨ j = 3))) T8 T10 := by rw [hT10, hT9]; exact q_ag_I (q_ag_I (q_ag_refl _ _) (by omega)) (by omega)
            have hP10 : q_P Z x m pd n B S0 T0 st7 S7 T10 := hP7.go (q_ag_refl _ _) hP7.rs (q_ag_trans (q_ag_sub b8 (fun b k hb => by omega)) (q_ag_sub b10 (fun b k hb => by omega))) (by rw [hT10, hT9, hT8]; rfl)
            have tB : q_ag (fun b j => ¬ (b = m ∧ ((14 ≤ j ∧ j ≤ 17) ∨ j = 20)) ∧ ¬ (b = m + 6 ∧ o ≤ j ∧ j < o + 4)) T T8 := q_ag_trans (q_ag_sub tA (fun b k hb => by omega)) (q_ag_trans (q_ag_sub b4 (fun b k hb => by omega)) (q_ag_trans (q_ag_sub c3 (fun b k hb => by omega)) (q_ag_trans (q_ag_sub b6 (fun b k hb => by omega)) (q_ag_trans (q_ag_sub l3 (fun b k hb => by omega)) (q_ag_sub b8 (fun b k hb => by omega))))))
            rw [m_gd_t ok6, show Int32.ofNat o + (3 : Int32) = Int32.ofNat (o + 3) from eo 3, m_gd_t (io 3 (by omega)), show m_pI T7 (m + 6) (Int32.ofNat (o + 3)).toNatClampNeg hum = T8 by rw [no 3 (by omega), hT8], m_lt_s, show T8.2.2 m 6 = some (m + 6) by rw [hT8]; exact hP7.M.fresh.1, m_b1_s, m_lt_s, m_gd_t ok6, m_gd_t i8, m_gd_t i8, show m_pI T8 (m + 6) (Int32.ofNat (4 + 56 * i + 4)).toNatClampNeg (T8.1 (m + 6) (Int32.ofNat (4 + 56 * i + 4)).toNatClampNeg + 1) = T9 by rw [n8, (tB _ _ (by omega)).1, t8, io_one, hT9], m_lt_s, show T9.2.2 m 6 = some (m + 6) by rw [hT9, hT8]; exact hP7.M.fresh.1, m_b1_s, m_gd_t ok6, m_gd_t i3, m_gd_t i3, show m_pI T9 (m + 6) (3 : Int32).toNatClampNeg (T9.1 (m + 6) (3 : Int32).toNatClampNeg + 1) = T10 by rw [t3, show T9.1 (m + 6) 3 = Int32.ofNat nq by rw [hT9, pI_ne (by omega), (tB _ _ (by omega)).1]; exact hq2, io_one, hT10], m_lt_s]
            refine q_E_semi hP10 (fun st11 S11 T11 hP11 s1 s2 s3 s4 => ?_) (fun T' hw => q_W_done)
            have sB : q_ag (fun b j => ¬ (b = x + 1 ∧ 4 ≤ j ∧ j ≤ 7)) S S11 := q_ag_trans sA (q_ag_trans (q_ag_sub c1 (fun b k hb => by omega)) (q_ag_trans (q_ag_sub l1 (fun b k hb => by omega)) (q_ag_sub s1 (fun b k hb => by omega))))
            have rB : S11.2 = S.2 := by rw [s2, l2, c2, rA]
            have tC : q_ag (fun b j => ¬ (b = m ∧ ((14 ≤ j ∧ j ≤ 17) ∨ j = 20)) ∧ ¬ (b = m + 6 ∧ (j = 3 ∨ j = 8 + 56 * i ∨ (12 + 56 * i + 4 * cnt i ≤ j ∧ j < 16 + 56 * i + 4 * cnt i)))) T T11 := q_ag_trans (q_ag_sub tB (fun b k hb => by omega)) (q_ag_trans (q_ag_sub b10 (fun b k hb => by omega)) (q_ag_sub s3 (fun b k hb => by omega)))
            have hK11 := q_Ks_g (S' := S11) (p' := T.1 (m + 2)) hK (fun b j h1 h2 => (sB _ _ (by omega)).1) (fun b j _ _ => by rw [rB]) (fun _ _ _ => rfl)
            obtain ⟨k1, k2, k3⟩ := hK11.2 k hk
            rw [← hd] at k1 k2
            have kV11 : q_V Z S11.2.2 v := by rw [rB, ← f2]; exact kV
            have s11 : S11.1 v 5 = Int32.ofNat (cnt i) := by rw [(sB _ _ (by omega)).1]; exact dv.2.2.2.2.2.1
            obtain ⟨mo, hmo⟩ : ∃ y, y = q_mp (T.1 (m + 2)) k mass hum := ⟨_, rfl⟩
            obtain ⟨S12, hS12⟩ : ∃ y, y = q_put S11 v (cnt i) d (Int32.ofNat nq) mass mo := ⟨_, rfl⟩
            have aP := q_put_ag S11 v (cnt i) d (Int32.ofNat nq) mass mo
            have cP := q_put_c (S := S11) (v := v) (n := cnt i) (kd := d) (s := Int32.ofNat nq) (mass := mass) (mo := mo)
            rw [← hS12] at aP cP
            obtain ⟨S13, hS13⟩ : ∃ y, y = m_pI S12 pd 10 (Int32.ofNat (nq + 1)) := ⟨_, rfl⟩
            have b13 : q_ag (fun b j => ¬ (b = pd ∧ j = 10)) S12 S13 := by rw [hS13]; exact q_ag_I (q_ag_refl _ _) (by omega)
            have s10 : S11.1 pd 10 = Int32.ofNat nq := by rw [(sB _ _ (by omega)).1]; exact hq1
            rw [m_gd_t k1.1, g_would k1 k2 k3, m_b1_s, ← hmo, s10, g_put kV11 s11 (by omega), ← hS12, m_bw_s, show S12.1 pd 10 = Int32.ofNat nq by rw [(aP _ _ (by omega)).1]; exact s10, io_one, ← hS13, m_lt_s]
            have r12 : S13.2.2 = (m_pR S11 (v + 2 + cnt i) 1 (some d)).2.2 := by rw [hS13, hS12]; rfl
            have rS13 : q_RS S13.2.2 x 0 341 := q_RS_R hP11.rs (fun j k' hj hne => by
              rw [r12]
              refine pR_ne (fun e => hne ?_)
              exact q_kcas4 (x := x) (pd := pd) (i := i) (k := cnt i) hpd (by omega) (by omega) (by omega))
            have hP13 : q_P Z x m pd n B S0 T0 st11 S13 T11 := hP11.go (q_ag_trans (q_ag_sub aP (fun b k hb => by omega)) (q_ag_sub b13 (fun b k hb => by omega))) rS13 (q_ag_refl _ _) rfl
            have aS13 : q_ag (fun b j => ¬ (b = x + 1 ∧ 4 ≤ j ∧ j ≤ 7) ∧ ¬ (b = pd + 18 + 8 * i + 2 + cnt i) ∧ ¬ (b = pd + 18 + 8 * i ∧ j = 5) ∧ ¬ (b = pd ∧ j = 10)) S S13 := q_ag_trans (q_ag_sub sB (fun b k hb => by omega)) (q_ag_trans (q_ag_sub aP (fun b k hb => by omega)) (q_ag_sub b13 (fun b k hb => by omega)))
            refine Or.inl ⟨S13, T11, rfl, rfl, ⟨st11, hP13⟩, i, hi, hc5, q_D_put (k := k) (mass := mass) (hum := hum) hm hpd hD hi hk hc5 hnq aS13 tC ?_ ?_ ?_ ?_ ?_ ?_ ?_ ?_ ?_ ?_ ?_ ?_ v1 v2⟩
            · rw [← hv, (b13 _ _ (by omega)).1]; exact cP.1
            · rw [hS13, pI_same]
            · rw [← hv, (b13 _ _ (by omega)).1]; exact cP.2.1
            · rw [← hv, ← hd, (b13 _ _ (by omega)).2.2]; exact cP.2.2.1
            · rw [← hv, (b13 _ _ (by omega)).1]; exact cP.2.2.2.1
            · rw [← hv, (b13 _ _ (by omega)).1, ← hmo]; exact cP.2.2.2.2
            · rw [(s3 _ _ (by omega)).1, hT10, pI_same]
            · rw [(s3 _ _ (by omega)).1, hT10, pI_ne (by omega), hT9, pI_same]
            · rw [← ho, (s3 _ _ (by omega)).1, (b10 _ _ (by omega)).1, (b8 _ _ (by omega)).1, (l3 _ _ (by omega)).1, (b6 _ _ (by omega)).1, (c3 _ _ (by omega)).1, hT4, pI_ne (by omega)]; exact pI_same _ _ _ _
            · rw [← ho, (s3 _ _ (by omega)).1, (b10 _ _ (by omega)).1, (b8 _ _ (by omega)).1, (l3 _ _ (by omega)).1, (b6 _ _ (by omega)).1, (c3 _ _ (by omega)).1, hT4, pI_same]
            · rw [← ho, (s3 _ _ (by omega)).1, (b10 _ _ (by omega)).1, (b8 _ _ (by omega)).1, (l3 _ _ (by omega)).1, hT6, pI_same]
            · rw [← ho, (s3 _ _ (by omega)).1, (b10 _ _ (by omega)).1, hT8, pI_same]
          · rw [m_gd_t ok6, show Int32.ofNat o + (3 : Int32) = Int32.ofNat (o + 3) from eo 3, m_gd_t (io 3 (by omega))]
            refine q_W_set (Or.inr rfl) ?_
            exact q_W_J94 (q_wr_I hw (Or.inr rfl)) (by omega)
        · rw [m_gd_t ok6, show Int32.ofNat o + (2 : Int32) = Int32.ofNat (o + 2) from eo 2, m_gd_t (io 2 (by omega))]
          refine q_W_set (Or.inr rfl) ?_
          have h1 := q_wr_I (b := m + 6) (k := (Int32.ofNat (o + 2)).toNatClampNeg) (v := mass) hw (Or.inr rfl)
          generalize m_pI T' (m + 6) (Int32.ofNat (o + 2)).toNatClampNeg mass = T8 at h1 ⊢
          rw [h1.1.fresh.1, m_b1_s]
          refine q_W_fig h1 _ _ ?_
          rw [m_gd_t ok6, show Int32.ofNat o + (3 : Int32) = Int32.ofNat (o + 3) from eo 3, m_gd_t (io 3 (by omega))]
          refine q_W_set (Or.inr rfl) ?_
          exact q_W_J94 (q_wr_I h1 (Or.inr rfl)) (by omega)
      · refine q_E_er hE (by rw [y3, m_bx_e]) ?_
        rw [m_jp_c2 (d := v') (e := T2') (fun j => by rw [jn, y4, m_bw_s])]
        rw [m_jp_c (d := T') (fun j => by
          rcases hv' with ⟨z1, z2⟩ | ⟨z1, z2⟩
          · rw [if_neg (fun z => z z1), z2, m_bw_s]
          · rw [if_pos z1, z2])]
        rw [e_wrong1 hw, m_b1_s, if_neg z10]
        exact q_W_done
    · have e5 : cnt i = 5 := by omega
      obtain ⟨S', T', g2, r2, hE, hw⟩ := q_P_fail hP1 (c := 4) (by decide)
      refine q_E_er hE (by rw [if_neg hc5, m_jp_s, if_neg z10, g2, m_bx_e]) ?_
      rw [m_jp_c (d := T') (fun j => by rw [if_neg (fun z => z (by rw [e5]; rfl)), r2, m_bw_s])]
      rw [e_wrong1 hw, m_b1_s, m_jp_c (d := T') (fun j => if_pos z10)]
      rw [e_wrong1 hw, m_b1_s, m_jp_c2 (d := (0 : Int32)) (e := T') (fun j => if_neg z10)]
      rw [m_jp_c (d := T') (fun j => if_pos (by decide))]
      rw [e_wrong1 hw, m_b1_s, if_neg z10]
      exact q_W_done
  · refine q_E_er hE (by rw [y1, m_bx_e]) ?_
    rw [y2, m_bw_s]
    rw [m_jp_c (d := T') (fun j => by
      rcases hv with ⟨z1, z2⟩ | ⟨z1, z2⟩
      · rw [if_neg (fun z => z z1), z2, m_bw_s]
      · rw [if_pos z1, z2])]
    rw [e_wrong1 hw, m_b1_s, if_neg z10]
    exact q_W_done
end CASSB
