theorem pI_id (S : m_S) (a k : Nat) : m_pI S a k (S.1 a k) = S := by
  refine Prod.ext ?_ rfl
  funext b j
  show (if b = a ∧ j = k then S.1 a k else S.1 b j) = S.1 b j
  by_cases h : b = a ∧ j = k
  · rw [if_pos h, h.1, h.2]
  · rw [if_neg h]
def q_uns (hv lo hi : Int32) : Int32 := if hv < lo then 1 else if hv ≤ hi then 0 else 1
theorem e_records {Z : m_Z} {S : m_S} {m c t : Nat} {hv : Int32} (h : q_M Z S.2.2 m) (hc : c < 6) (ht : S.1 (m + 3) 0 = Int32.ofNat t) (t9 : t < 2147483648) (hh : f_X9_humidityOf Z S m (Int32.ofNat c) = some hv) (h0 : 0 ≤ hv.toInt) : f_X9_records Z S m (Int32.ofNat c) = some (q_uns hv (S.1 (m + 3) (5 + 56 * c)) (S.1 (m + 3) (6 + 56 * c)), m_pI (m_pI (m_pI (m_pJ (m_pI S (m + 3) (36 + 56 * c + t % 24) hv) (m + 7) (5 * c) (S.2.1 (m + 7) (5 * c) + hv.toInt64)) (m + 3) (10 + 56 * c) (q_low (S.1 (m + 3) (10 + 56 * c)) hv)) (m + 3) (11 + 56 * c) (q_high (S.1 (m + 3) (11 + 56 * c)) hv)) (m + 3) (9 + 56 * c) (S.1 (m + 3) (9 + 56 * c) + if q_uns hv (S.1 (m + 3) (5 + 56 * c)) (S.1 (m + 3) (6 + 56 * c)) = 0 then 0 else 1)) := by
  have z0 : (0 : Int32).toNatClampNeg = 0 := rfl
  have e32 : (32 : Int32) + Int32.ofNat (t % 24) = Int32.ofNat (32 + t % 24) := io_add 32 _
  have k1 : ((-1 : Int32)).toInt = -1 := rfl
  unfold f_X9_records
  rw [m_gd_t h.o, hh, m_b1_s, h.a.1, m_b1_s, m_gd_t h.a.2.1, m_gd_t (show m_in 0 (Z.2.2 (m + 3)) from q_inn (i := 0) h.a.2 (by omega) (by omega)), z0, ht, io_mod24 t9, e32, e_lays h rfl hc (by omega), m_bw_s, show 4 + 56 * c + (32 + t % 24) = 36 + 56 * c + t % 24 by omega]
  generalize hS1 : m_pI S (m + 3) (36 + 56 * c + t % 24) hv = S1
  have hM1 : q_M Z S1.2.2 m := by rw [← hS1]; exact h
  have g1 : ∀ w, w ≠ 36 + 56 * c + t % 24 → S1.1 (m + 3) w = S.1 (m + 3) w := fun w hw => by rw [← hS1]; exact pI_ne (fun q => hw q.2)
  have j1 : S1.2.1 = S.2.1 := by rw [← hS1]; rfl
  rw [e_counts (wi := 0) hM1 (w := 0) rfl hc (by omega), m_bw_s, j1, show 5 * c + 0 = 5 * c by omega]
  generalize hS2 : m_pJ S1 (m + 7) (5 * c) (S.2.1 (m + 7) (5 * c) + hv.toInt64) = S2
  have hM2 : q_M Z S2.2.2 m := by rw [← hS2]; exact hM1
  have g2 : ∀ w, w ≠ 36 + 56 * c + t % 24 → S2.1 (m + 3) w = S.1 (m + 3) w := fun w hw => by rw [← hS2]; exact g1 w hw
  rw [e_of (wi := 6) hM2 (w := 6) rfl hc (by omega), m_b1_s, show 4 + 56 * c + 6 = 10 + 56 * c by omega, g2 _ (by omega)]
  refine m_jp_i (fun j14 e14 => ?_)
  rw [m_jp_s]
  generalize hS3 : m_pI S2 (m + 3) (10 + 56 * c) (q_low (S.1 (m + 3) (10 + 56 * c)) hv) = S3
  have kl : (if S.1 (m + 3) (10 + 56 * c) = (-1 : Int32) then m_bw (f_X9_lays Z S2 m (Int32.ofNat c) (6 : Int32) hv) (fun _u S45 => j14 S45) else m_b1 (some (S.1 (m + 3) (10 + 56 * c))) (fun v48 => (if v48 ≤ hv then j14 S2 else m_bw (f_X9_lays Z S2 m (Int32.ofNat c) (6 : Int32) hv) (fun _u S45 => j14 S45)))) = j14 S3 := by
    rw [e_lays (wi := 6) hM2 (w := 6) rfl hc (by omega), m_bw_s, m_b1_s, show 4 + 56 * c + 6 = 10 + 56 * c by omega, ← hS3]
    unfold q_low
    by_cases q : S.1 (m + 3) (10 + 56 * c) = (-1 : Int32)
    · rw [if_pos q, if_pos q]
    · rw [if_neg q, if_neg q]
      by_cases q2 : S.1 (m + 3) (10 + 56 * c) ≤ hv
      · rw [if_pos q2, if_pos q2, ← g2 (10 + 56 * c) (by omega), pI_id]
      · rw [if_neg q2, if_neg q2]
  refine kl.trans ?_
  rw [e14]
  have hM3 : q_M Z S3.2.2 m := by rw [← hS3]; exact hM2
  have g3 : ∀ w, w ≠ 36 + 56 * c + t % 24 → w ≠ 10 + 56 * c → S3.1 (m + 3) w = S.1 (m + 3) w := fun w hw hw2 => by rw [← hS3]; exact (pI_ne (fun q => hw2 q.2)).trans (g2 w hw)
  rw [e_of (wi := 7) hM3 (w := 7) rfl hc (by omega), m_b1_s, show 4 + 56 * c + 7 = 11 + 56 * c by omega, g3 _ (by omega) (by omega)]
  refine m_jp_i (fun j18 e18 => ?_)
  rw [m_jp_s]
  generalize hS4 : m_pI S3 (m + 3) (11 + 56 * c) (q_high (S.1 (m + 3) (11 + 56 * c)) hv) = S4
  have kh : (if S.1 (m + 3) (11 + 56 * c) = (-1 : Int32) then m_bw (f_X9_lays Z S3 m (Int32.ofNat c) (7 : Int32) hv) (fun _u S45 => j18 S45) else m_b1 (some (S.1 (m + 3) (11 + 56 * c))) (fun v48 => (if hv ≤ v48 then j18 S3 else m_bw (f_X9_lays Z S3 m (Int32.ofNat c) (7 : Int32) hv) (fun _u S45 => j18 S45)))) = j18 S4 := by
    rw [e_lays (wi := 7) hM3 (w := 7) rfl hc (by omega), m_bw_s, m_b1_s, show 4 + 56 * c + 7 = 11 + 56 * c by omega, ← hS4]
    unfold q_high
    by_cases q : S.1 (m + 3) (11 + 56 * c) = (-1 : Int32)
    · rw [if_pos q, if_neg (fun q2 => by rw [q, t_le, k1] at q2; omega)]
    · rw [if_neg q]
      by_cases q2 : hv ≤ S.1 (m + 3) (11 + 56 * c)
      · rw [if_pos q2, if_pos q2, ← g3 (11 + 56 * c) (by omega) (by omega), pI_id]
      · rw [if_neg q2, if_neg q2]
  refine kh.trans ?_
  rw [e18]
  have hM4 : q_M Z S4.2.2 m := by rw [← hS4]; exact hM3
  have g4 : ∀ w, w ≠ 36 + 56 * c + t % 24 → w ≠ 10 + 56 * c → w ≠ 11 + 56 * c → S4.1 (m + 3) w = S.1 (m + 3) w := fun w hw hw2 hw3 => by rw [← hS4]; exact (pI_ne (fun q => hw3 q.2)).trans (g3 w hw hw2)
  rw [e_of (wi := 1) hM4 (w := 1) rfl hc (by omega), m_b1_s, e_of (wi := 2) hM4 (w := 2) rfl hc (by omega), m_b1_s, show 4 + 56 * c + 1 = 5 + 56 * c by omega, show 4 + 56 * c + 2 = 6 + 56 * c by omega, g4 _ (by omega) (by omega) (by omega), g4 _ (by omega) (by omega) (by omega)]
  have l5 : f_X9_lays Z S4 m (Int32.ofNat c) (5 : Int32) (S.1 (m + 3) (9 + 56 * c) + (1 : Int32)) = some ((), m_pI S4 (m + 3) (9 + 56 * c) (S.1 (m + 3) (9 + 56 * c) + (1 : Int32))) := by
    rw [e_lays (wi := 5) hM4 (w := 5) rfl hc (by omega), show 4 + 56 * c + 5 = 9 + 56 * c by omega]
  have o5 : f_X9_of Z S4 m (Int32.ofNat c) (5 : Int32) = some (S.1 (m + 3) (9 + 56 * c)) := by
    rw [e_of (wi := 5) hM4 (w := 5) rfl hc (by omega), show 4 + 56 * c + 5 = 9 + 56 * c by omega, g4 _ (by omega) (by omega) (by omega)]
  have i5 : m_pI S4 (m + 3) (9 + 56 * c) (S.1 (m + 3) (9 + 56 * c) + 0) = S4 := by
    rw [Int32.add_zero, ← g4 (9 + 56 * c) (by omega) (by omega) (by omega), pI_id]
  unfold f_X9_isIn q_uns
  have n10 : ¬ (1 : Int32) = 0 := by decide
  by_cases q : hv < S.1 (m + 3) (5 + 56 * c)
  · rw [if_pos q, if_pos q, m_b1_s, m_jp_s, if_neg (fun h => h rfl), if_neg n10]
    refine (if_neg n10).trans ?_
    rw [o5, m_b1_s, l5, m_bw_s, m_gd_t (Or.inr rfl)]
  · rw [if_neg q, if_neg q]
    by_cases q2 : S.1 (m + 3) (6 + 56 * c) < hv
    · rw [if_pos q2, if_neg (Int32.not_le.mpr q2), m_b1_s, m_jp_s, if_neg (fun h => h rfl), if_neg n10]
      refine (if_neg n10).trans ?_
      rw [o5, m_b1_s, l5, m_bw_s, m_gd_t (Or.inr rfl)]
    · rw [if_neg q2, if_pos (Int32.not_lt.mp q2), m_b1_s, m_jp_s, if_pos n10, if_pos rfl]
      refine (if_pos rfl).trans ?_
      rw [m_gd_t (Or.inl rfl), i5]
