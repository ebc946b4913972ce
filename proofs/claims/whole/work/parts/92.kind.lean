section KIND
variable {Z : m_Z} {x m pd n st k : Nat} {B : Nat → Int32} {S0 T0 S T : m_S}
theorem q_kpb_of {R : Nat → Nat → Option Nat} (hZ : q_ZL Z x) (hR : q_RS R x 0 341) (hpd : pd = x + 5 ∨ pd = x + 71) : R pd 7 = some (pd + 4) ∧ m_okn Z (pd + 4) 15 4 := by
  rcases hpd with e | e
  · subst e; exact ⟨hR.g (a := 5) (k := 7) (v := 9) (by decide +kernel), hZ.g (j := 9) (by decide +kernel)⟩
  · subst e; exact ⟨hR.g (a := 71) (k := 7) (v := 75) (by decide +kernel), hZ.g (j := 75) (by decide +kernel)⟩
theorem q_kref_of {R : Nat → Nat → Option Nat} (hR : q_RS R x 0 341) (hpd : pd = x + 5 ∨ pd = x + 71) (hk : k < 4) : R (pd + 4) k = some (pd + 6 + 3 * k) := by
  have h4 : k = 0 ∨ k = 1 ∨ k = 2 ∨ k = 3 := by omega
  rcases hpd with e | e
  · subst e
    rcases h4 with rfl | rfl | rfl | rfl
    · exact hR.g (a := 9) (k := 0) (v := 11) (by decide +kernel)
    · exact hR.g (a := 9) (k := 1) (v := 14) (by decide +kernel)
    · exact hR.g (a := 9) (k := 2) (v := 17) (by decide +kernel)
    · exact hR.g (a := 9) (k := 3) (v := 20) (by decide +kernel)
  · subst e
    rcases h4 with rfl | rfl | rfl | rfl
    · exact hR.g (a := 75) (k := 0) (v := 77) (by decide +kernel)
    · exact hR.g (a := 75) (k := 1) (v := 80) (by decide +kernel)
    · exact hR.g (a := 75) (k := 2) (v := 83) (by decide +kernel)
    · exact hR.g (a := 75) (k := 3) (v := 86) (by decide +kernel)
/-- what the class does behind a kind's points, and the reference -/
def q_J37 (Z : m_Z) (x pd k : Nat) (S28 : m_S) : Option (Except String Unit × m_S) := m_bx (f_X3_refuse Z S28 (x + 1) 6) (fun _u S30 => m_bx (f_X3_takeSemicolon Z S30 (x + 1)) (fun _u S33 => m_lt (m_pI S33 pd 6 (Int32.ofNat k + (1 : Int32))) (fun S35 => some ((.ok ()), S35))))
def q_J50 (Z : m_Z) (m : Nat) (v20 : Int32) (v28 : Int32) (S29 : m_S) : Option (Unit × m_S) := m_jp (fun (S31 : m_S) => m_b1 (S31.2.2 m 2) (fun b32 => m_gd (m_ok Z b32 11) (m_gd (m_in (v20 + (1 : Int32)) (Z.2.2 b32)) (m_lt (m_pI S31 b32 (v20 + (1 : Int32)).toNatClampNeg v28) (fun S36 => m_b1 (S36.2.2 m 2) (fun b38 => m_gd (m_ok Z b38 11) (m_gd (m_in (4 : Int32) (Z.2.2 b38)) (m_gd (m_in (4 : Int32) (Z.2.2 b38)) (m_lt (m_pI S36 b38 (4 : Int32).toNatClampNeg ((S36.1 b38 (4 : Int32).toNatClampNeg) + (1 : Int32))) (fun S43 => m_bw (f_X9_ends Z S43 m) (fun _u S46 => some ((), S46)))))))))))) (fun j30 => (if (2 : Int32) ≤ v28 then j30 S29 else m_bw (f_X9_fails Z S29 m (1 : Int32)) (fun _u S49 => j30 S49)))
theorem q_W_J50 (h : q_wr Z m T) (hk : k < 4) (v : Int32) : q_W m T (q_J50 Z m (Int32.ofNat (54 + 14 * k)) v T) := by
  have e55 : Int32.ofNat (54 + 14 * k) + (1 : Int32) = Int32.ofNat (55 + 14 * k) := (io_one _).trans (congrArg Int32.ofNat (by omega))
  have i4 : m_in (4 : Int32) (Z.2.2 (m + 2)) := q_inl (wi := 4) (i := 4) rfl h.1.told.2 (by omega) (by omega)
  unfold q_J50
  rw [e55]
  simp only [m_jp_s]
  have main : q_W m T (m_b1 (T.2.2 m 2) (fun b32 => m_gd (m_ok Z b32 11) (m_gd (m_in (Int32.ofNat (55 + 14 * k)) (Z.2.2 b32)) (m_lt (m_pI T b32 (Int32.ofNat (55 + 14 * k)).toNatClampNeg v) (fun S36 => m_b1 (S36.2.2 m 2) (fun b38 => m_gd (m_ok Z b38 11) (m_gd (m_in (4 : Int32) (Z.2.2 b38)) (m_gd (m_in (4 : Int32) (Z.2.2 b38)) (m_lt (m_pI S36 b38 (4 : Int32).toNatClampNeg ((S36.1 b38 (4 : Int32).toNatClampNeg) + (1 : Int32))) (fun S43 => m_bw (f_X9_ends Z S43 m) (fun _u S46 => some ((), S46)))))))))))) := by
    rw [h.1.told.1, m_b1_s, m_gd_t h.1.told.2.1, m_gd_t (q_inn h.1.told.2 (by omega) (by omega))]
    refine q_W_set (Or.inl rfl) ?_
    have hw0 := q_wr_I (b := m + 2) (k := (Int32.ofNat (55 + 14 * k)).toNatClampNeg) (v := v) h (Or.inl rfl)
    generalize m_pI T (m + 2) (Int32.ofNat (55 + 14 * k)).toNatClampNeg v = T8 at hw0 ⊢
    rw [hw0.1.told.1, m_b1_s, m_gd_t h.1.told.2.1, m_gd_t i4, m_gd_t i4]
    refine q_W_set (Or.inl rfl) ?_
    exact q_W_ends (q_wr_I hw0 (Or.inl rfl)) q_W_done
  by_cases q : (2 : Int32) ≤ v
  · rw [if_pos q]; exact main
  · rw [if_neg q, e_fails1 h, m_bw_s]; exact main
/-- in the wrong the loop of points ends -/
theorem q_W_pts (h : q_wr Z m T) (hk : k < 4) (f : Nat) (v : Int32) : q_W m T (m_fx (F_X9_kind_56 Z m (Int32.ofNat (54 + 14 * k)) (q_J50 Z m (Int32.ofNat (54 + 14 * k))) (fun S => some ((), S))) (f + 1) (v, T)) := by
  rw [m_fx_s]
  unfold F_X9_kind_56
  simp only []
  rw [e_isWord1 h, m_b1_s, if_pos z00]
  exact q_W_J50 h hk v
/-- the points of one kind -/
def q_kfr (x m d k : Nat) (Sb Tb S T : m_S) : Prop := q_ag (fun b j => ¬ (b = x + 1 ∧ 4 ≤ j ∧ j ≤ 7) ∧ ¬ (b = d + 1) ∧ ¬ (b = d + 2) ∧ ¬ (b = d ∧ j = 2)) Sb S ∧ S.2 = Sb.2 ∧ q_ag (fun b j => ¬ (b = m ∧ ((14 ≤ j ∧ j ≤ 17) ∨ j = 20)) ∧ ¬ (b = m + 2 ∧ 56 + 14 * k ≤ j ∧ j < 68 + 14 * k)) Tb T ∧ T.2.2 = Tb.2.2
theorem q_points {Q : m_S → m_S → Prop} {Sb Tb : m_S} (hk : k < 4) (endk : ∀ i st S T, 2 ≤ i → i ≤ 6 → q_P Z x m pd n B S0 T0 st S T → q_kp m pd k i S T → q_kfr x m (pd + 6 + 3 * k) k Sb Tb S T → f_X3_at Z S (x + 1) 6 = some 0 → q_E Z x m pd S0 T0 Q (q_J37 Z x pd k S) (q_J50 Z m (Int32.ofNat (54 + 14 * k)) (Int32.ofNat i) T)) : ∀ (e i fc fm st : Nat) (S T : m_S), e + i = 6 → e < fc → e + 1 < fm → q_P Z x m pd n B S0 T0 st S T → q_kp m pd k i S T → q_kfr x m (pd + 6 + 3 * k) k Sb Tb S T → q_E Z x m pd S0 T0 Q (m_fx (F_X3_readKind_42 Z (x + 1) (pd + 6 + 3 * k) (q_J37 Z x pd k)) fc (Int32.ofNat i, S)) (m_fx (F_X9_kind_56 Z m (Int32.ofNat (54 + 14 * k)) (q_J50 Z m (Int32.ofNat (54 + 14 * k))) (fun S => some ((), S))) fm (Int32.ofNat i, T)) := by
  have k6 : ∀ i : Nat, i < 10 → ((6 : Int32) ≤ Int32.ofNat i ↔ 6 ≤ i) := fun i hi => io_le (a := 6) (by omega) (by omega)
  have l2 : ∀ i : Nat, i < 10 → (Int32.ofNat i < (2 : Int32) ↔ i < 2) := fun i hi => io_lt (b := 2) (by omega) (by omega)
  have g2 : ∀ i : Nat, i < 10 → ((2 : Int32) ≤ Int32.ofNat i ↔ 2 ≤ i) := fun i hi => io_le (a := 2) (by omega) (by omega)
  have q6 : ∀ i : Nat, i < 10 → (Int32.ofNat i = (6 : Int32) ↔ i = 6) := fun i hi => ⟨fun e => by have := t_eq.mp e; rw [t_ofNat (by omega), show (6 : Int32).toInt = 6 from rfl] at this; omega, fun e => by rw [e]; rfl⟩
  intro e
  induction e with
  | zero =>
    intro i fc fm st S T h1 h2 h3 h hp hf
    obtain ⟨fc, rfl⟩ : ∃ g, fc = g + 1 := ⟨fc - 1, by omega⟩
    obtain ⟨fm, rfl⟩ : ∃ g, fm = g + 1 := ⟨fm - 1, by omega⟩
    obtain ⟨r, r1, r2, r3⟩ := q_at h (w := 6) (by omega)
    have hi6 : i = 6 := by omega
    rw [m_fx_s, m_fx_s]
    unfold F_X3_readKind_42 F_X9_kind_56
    simp only []
    rw [if_pos ((k6 i (by omega)).mpr (by omega)), r2, m_b1_s]
    rcases r3 with q | ⟨q, -⟩
    · rw [if_pos q]
      exact endk i st S T (by omega) (by omega) h hp hf (by rw [r1, q])
    · obtain ⟨S', T', g1, e1, hE, hw⟩ := q_P_fail h (c := 4) (by decide)
      rw [if_neg (by rw [q]; exact z10), m_jp_s, if_neg (fun z => z ((q6 i (by omega)).mpr hi6)), e1, m_bw_s]
      simp only []
      rw [e_wrong1 hw, m_b1_s, if_neg z10]
      refine q_E_er hE ?_ q_W_done
      unfold q_J37 f_X3_refuse
      rw [m_gd_t h.f.o1, r1, m_b1_s, if_neg (by rw [q]; exact z10), g1, m_bx_e, m_bx_e]
  | succ e ih =>
    intro i fc fm st S T h1 h2 h3 h hp hf
    obtain ⟨fc, rfl⟩ : ∃ g, fc = g + 1 := ⟨fc - 1, by omega⟩
    obtain ⟨fm, rfl⟩ : ∃ g, fm = g + 1 := ⟨fm - 1, by omega⟩
    obtain ⟨r, r1, r2, r3⟩ := q_at h (w := 6) (by omega)
    have hi5 : i < 6 := by omega
    obtain ⟨st1, S1, T1, g1, e1, hP1, -⟩ := q_P_next h
    rw [m_fx_s, m_fx_s]
    have ih' := ih (i + 1) fc fm
    have wp : ∀ T' : m_S, q_wr Z m T' → q_W m T' (m_fx (F_X9_kind_56 Z m (Int32.ofNat (54 + 14 * k)) (q_J50 Z m (Int32.ofNat (54 + 14 * k))) (fun S => some ((), S))) fm (Int32.ofNat (i + 1), T')) := fun T' hw => by
      obtain ⟨f, rfl⟩ : ∃ f, fm = f + 1 := ⟨fm - 1, by omega⟩
      exact q_W_pts hw hk f _
    generalize m_fx (F_X3_readKind_42 Z (x + 1) (pd + 6 + 3 * k) (q_J37 Z x pd k)) fc = lc at *
    generalize m_fx (F_X9_kind_56 Z m (Int32.ofNat (54 + 14 * k)) (q_J50 Z m (Int32.ofNat (54 + 14 * k))) (fun S => some ((), S))) fm = lm at *
    unfold F_X3_readKind_42 F_X9_kind_56
    simp only []
    rw [if_neg (fun z => absurd ((k6 i (by omega)).mp z) (by omega)), r2, m_b1_s, r1]
    rcases r3 with q | ⟨q, -⟩
    · rw [if_pos q, m_b1_s, if_pos q]
      by_cases q2 : i < 2
      · rw [if_pos ((l2 i (by omega)).mpr q2)]
        obtain ⟨S', T', y1, y2, hE, hw⟩ := q_P_fail h (c := 1) z10
        refine q_E_er (T' := T') hE ?_ ?_
        · unfold f_X3_readPoint f_X3_takeWord
          rw [m_gd_t h.f.o1, m_gd_t h.f.o1, r1, m_b1_s, if_neg (fun z => z q), y1, m_bx_e, m_bx_e, m_bx_e]
        · have w1 := q_W_J50 (k := k) hw hk (Int32.ofNat i)
          unfold q_J50 at w1 ⊢
          simp only [m_jp_s] at w1 ⊢
          rw [if_neg (fun z => absurd ((g2 i (by omega)).mp z) (by omega)), e_fails1 hw, m_bw_s] at w1
          rw [if_neg (fun z => absurd ((g2 i (by omega)).mp z) (by omega)), y2, m_bw_s]
          exact w1
      · rw [if_neg (fun z => q2 ((l2 i (by omega)).mp z))]
        exact endk i st S T (by omega) (by omega) h hp hf (by rw [r1, q])
    · have hC : (if Int32.ofNat i < (2 : Int32) then m_bx (f_X3_readPoint Z S (x + 1) (pd + 6 + 3 * k)) (fun _u S49 => m_lt (Int32.ofNat i + (1 : Int32)) (fun v51 => lc (v51, S49))) else m_b1 (some r) (fun v54 => (if v54 = 0 then q_J37 Z x pd k S else m_bx (f_X3_readPoint Z S (x + 1) (pd + 6 + 3 * k)) (fun _u S57 => m_lt (Int32.ofNat i + (1 : Int32)) (fun v59 => lc (v59, S57)))))) = m_bx (f_X3_readPoint Z S (x + 1) (pd + 6 + 3 * k)) (fun _u S49 => lc (Int32.ofNat (i + 1), S49)) := by
        simp only [m_b1_s, m_lt_s, io_one]
        rw [if_neg (show ¬ r = 0 from by rw [q]; exact z10)]
        by_cases q2 : Int32.ofNat i < (2 : Int32)
        · rw [if_pos q2]
        · rw [if_neg q2]
      rw [hC, if_neg (show ¬ r = 0 from by rw [q]; exact z10), m_jp_s, if_pos (fun z => absurd ((q6 i (by omega)).mp z) (by omega))]
      simp only []
      rw [e_wrong0 h.M h.w0, m_b1_s, if_pos z00, e1, m_bw_s]
      have pt := q_point h hk hi5 hp (by rw [r1, q])
      rw [e1, m_bw_s] at pt
      rcases pt with ⟨S', T', y1, y2, ⟨st', hP'⟩, hp', f1, f2, f3, f4⟩ | ⟨S', T', y1, y2, hE⟩
      · rw [y1, m_bx_s, y2, m_bw_s, io_one, m_lt_s]
        exact ih' st' S' T' (by omega) (by omega) (by omega) hP' hp' ⟨q_ag_trans hf.1 (q_ag_sub f1 (fun b j hb => by omega)), f2.trans hf.2.1, q_ag_trans hf.2.2.1 (q_ag_sub f3 (fun b j hb => by omega)), f4.trans hf.2.2.2⟩
      · refine q_E_er hE (by rw [y1, m_bx_e]) ?_
        rw [y2, m_bw_s, io_one, m_lt_s]
        exact wp T' ⟨hE.1.M, hE.2.2.2.2⟩
end KIND
