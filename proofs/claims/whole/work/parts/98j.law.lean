theorem q_lt6 {L9 : Nat} (hL2 : L9 ≤ 3072) : (Int32.ofNat L9 - (6 : Int32)).toInt = (L9 : Int) - 6 := by
  have h1 := t_ofNat (n := L9) (by omega)
  have h2 : (6 : Int32).toInt = 6 := rfl
  rw [t_sub (by omega) (by omega), h1, h2]
theorem q_lend {L9 i : Nat} (hL2 : L9 ≤ 3072) (h : L9 < i + 6) (hi : i ≤ L9) : Int32.ofNat L9 - (6 : Int32) < Int32.ofNat i := by
  rw [t_lt, q_lt6 hL2, t_ofNat (by omega)]; omega
theorem q_lgo {L9 i : Nat} (hL2 : L9 ≤ 3072) (h : i + 6 ≤ L9) : ¬ Int32.ofNat L9 - (6 : Int32) < Int32.ofNat i := by
  rw [t_lt, q_lt6 hL2, t_ofNat (by omega)]; omega
/-! the law's loop -/
section LAWL
variable {Z : m_Z} {x m q3 q4 L9 : Nat} {xs9 : Nat → Int32}
set_option maxHeartbeats 4000000 in
theorem q_law_loop (hx : m = x + 341) (hL2 : L9 ≤ 3072) (o3 : m_okn Z q3 12 1) (o4 : m_okn Z q4 19 1) (ne3 : ¬ (x ≤ q3 ∧ q3 < x + 355)) (ne4 : ¬ (x ≤ q4 ∧ q4 < x + 355)) (j2 : m_S → Option Unit) (hj2 : ∀ S, j2 S = some ()) (j4 j6 j8 j10 j12 j14 j16 j18 j20 j22 j24 j26 j28 j30 j32 j34 j36 j38 j40 j42 j44 j46 j48 j50 j52 j54 j56 j58 j60 j62 j64 j66 j68 j70 j72 j74 j76 j78 j80 j82 j84 j86 j88 j90 j92 j94 j96 j98 j100 j102 j104 j106 j108 j110 j112 j114 j116 j118 j120 j122 j124 j126 j128 : m_S → Option Unit) : ∀ (d t fuel N : Nat) (S : m_S), d + t = L9 / 6 → d < fuel → 30 ≤ N → N + d < 2147483000 → q_Re Z x m N S S → m_fx (F_L_law_28 Z L9 xs9 x m q3 q4 j2 j4 j6 j8 j10 j12 j14 j16 j18 j20 j22 j24 j26 j28 j30 j32 j34 j36 j38 j40 j42 j44 j46 j48 j50 j52 j54 j56 j58 j60 j62 j64 j66 j68 j70 j72 j74 j76 j78 j80 j82 j84 j86 j88 j90 j92 j94 j96 j98 j100 j102 j104 j106 j108 j110 j112 j114 j116 j118 j120 j122 j124 j126 j128) fuel (Int32.ofNat (6 * t), S) = some () := by
  intro d
  induction d with
  | zero =>
    intro t fuel N S h1 h2 h3 h4 hR
    obtain ⟨f, rfl⟩ : ∃ g, fuel = g + 1 := ⟨fuel - 1, by omega⟩
    rw [m_fx_s]
    unfold F_L_law_28
    simp only []
    rw [if_pos (q_lend hL2 (by omega) (by omega)), hj2]
  | succ d ih =>
    intro t fuel N S h1 h2 h3 h4 hR
    obtain ⟨f, rfl⟩ : ∃ g, fuel = g + 1 := ⟨fuel - 1, by omega⟩
    have ih' := fun S' hR' => ih (t + 1) f (N + 1) S' (by omega) (by omega) (by omega) (by omega) hR'
    rw [m_fx_s]
    generalize m_fx (F_L_law_28 Z L9 xs9 x m q3 q4 j2 j4 j6 j8 j10 j12 j14 j16 j18 j20 j22 j24 j26 j28 j30 j32 j34 j36 j38 j40 j42 j44 j46 j48 j50 j52 j54 j56 j58 j60 j62 j64 j66 j68 j70 j72 j74 j76 j78 j80 j82 j84 j86 j88 j90 j92 j94 j96 j98 j100 j102 j104 j106 j108 j110 j112 j114 j116 j118 j120 j122 j124 j126 j128) f = lp at *
    have hlp : ∀ S', q_Re Z x m (N + 1) S' S' → lp (Int32.ofNat (6 * t + 6), S') = some () := fun S' hR' => ih' S' hR'
    obtain ⟨i, hi⟩ : ∃ i, i = 6 * t := ⟨_, rfl⟩
    rw [← hi] at hlp ⊢
    have hL : i + 6 ≤ L9 := by omega
    obtain ⟨pb, ns, nk, nc, h⟩ := hR
    have hN : 30 ≤ N ∧ N < 2147483647 := ⟨h3, by omega⟩
    unfold F_L_law_28
    simp only []
    rw [if_neg (q_lgo hL2 hL), m_gd_t (io_in (by omega) (by omega)), m_lt_s]
    generalize (xs9 (Int32.ofNat i).toNatClampNeg) &&& (63 : Int32) = c
    by_cases c0 : c = Int32.ofNat 0
    · rw [if_pos c0]
      exact q_lc_0 j4 j6 hx hL hL2 o3 o4 ne3 ne4 hN h hlp
    rw [if_neg c0]
    by_cases c1 : c = Int32.ofNat 1
    · rw [if_pos c1]
      exact q_lc_1 j8 j10 hx hL hL2 o3 o4 ne3 ne4 hN h hlp
    rw [if_neg c1]
    by_cases c2 : c = Int32.ofNat 2
    · rw [if_pos c2]
      exact q_lc_2 j12 j14 hx hL hL2 o3 o4 ne3 ne4 hN h hlp
    rw [if_neg c2]
    by_cases c3 : c = Int32.ofNat 3
    · rw [if_pos c3]
      exact q_lc_3 j16 hx hL hL2 o3 o4 ne3 ne4 hN h hlp
    rw [if_neg c3]
    by_cases c4 : c = Int32.ofNat 4
    · rw [if_pos c4]
      exact q_lc_4 j18 hx hL hL2 o3 o4 ne3 ne4 hN h hlp
    rw [if_neg c4]
    by_cases c5 : c = Int32.ofNat 5
    · rw [if_pos c5]
      exact q_lc_5 j20 j22 hx hL hL2 o3 o4 ne3 ne4 hN h hlp
    rw [if_neg c5]
    by_cases c6 : c = Int32.ofNat 6
    · rw [if_pos c6]
      exact q_lc_6 j24 j26 hx hL hL2 o3 o4 ne3 ne4 hN h hlp
    rw [if_neg c6]
    by_cases c7 : c = Int32.ofNat 7
    · rw [if_pos c7]
      exact q_lc_7 j28 j30 hx hL hL2 o3 o4 ne3 ne4 hN h hlp
    rw [if_neg c7]
    by_cases c8 : c = Int32.ofNat 8
    · rw [if_pos c8]
      exact q_lc_8 j32 j34 hx hL hL2 o3 o4 ne3 ne4 hN h hlp
    rw [if_neg c8]
    by_cases c9 : c = Int32.ofNat 9
    · rw [if_pos c9]
      exact q_lc_9 j36 j38 hx hL hL2 o3 o4 ne3 ne4 hN h hlp
    rw [if_neg c9]
    by_cases c10 : c = Int32.ofNat 10
    · rw [if_pos c10]
      exact q_lc_10 j40 j42 hx hL hL2 o3 o4 ne3 ne4 hN h hlp
    rw [if_neg c10]
    by_cases c11 : c = Int32.ofNat 11
    · rw [if_pos c11]
      exact q_lc_11 j44 j46 hx hL hL2 o3 o4 ne3 ne4 hN h hlp
    rw [if_neg c11]
    by_cases c12 : c = Int32.ofNat 12
    · rw [if_pos c12]
      exact q_lc_12 j48 j50 hx hL hL2 o3 o4 ne3 ne4 hN h hlp
    rw [if_neg c12]
    by_cases c13 : c = Int32.ofNat 13
    · rw [if_pos c13]
      exact q_lc_13 j52 j54 hx hL hL2 o3 o4 ne3 ne4 hN h hlp
    rw [if_neg c13]
    by_cases c14 : c = Int32.ofNat 14
    · rw [if_pos c14]
      exact q_lc_14 j56 j58 hx hL hL2 o3 o4 ne3 ne4 hN h hlp
    rw [if_neg c14]
    by_cases c15 : c = Int32.ofNat 15
    · rw [if_pos c15]
      exact q_lc_15 j60 j62 hx hL hL2 o3 o4 ne3 ne4 hN h hlp
    rw [if_neg c15]
    by_cases c16 : c = Int32.ofNat 16
    · rw [if_pos c16]
      exact q_lc_16 j64 j66 hx hL hL2 o3 o4 ne3 ne4 hN h hlp
    rw [if_neg c16]
    by_cases c17 : c = Int32.ofNat 17
    · rw [if_pos c17]
      exact q_lc_17 j68 hx hL hL2 o3 o4 ne3 ne4 hN h hlp
    rw [if_neg c17]
    by_cases c18 : c = Int32.ofNat 18
    · rw [if_pos c18]
      exact q_lc_18 j70 j72 hx hL hL2 o3 o4 ne3 ne4 hN h hlp
    rw [if_neg c18]
    by_cases c19 : c = Int32.ofNat 19
    · rw [if_pos c19]
      exact q_lc_19 j74 j76 hx hL hL2 o3 o4 ne3 ne4 hN h hlp
    rw [if_neg c19]
    by_cases c20 : c = Int32.ofNat 20
    · rw [if_pos c20]
      exact q_lc_20 j78 j80 hx hL hL2 o3 o4 ne3 ne4 hN h hlp
    rw [if_neg c20]
    by_cases c21 : c = Int32.ofNat 21
    · rw [if_pos c21]
      exact q_lc_21 j82 j84 hx hL hL2 o3 o4 ne3 ne4 hN h hlp
    rw [if_neg c21]
    by_cases c22 : c = Int32.ofNat 22
    · rw [if_pos c22]
      exact q_lc_22 j86 j88 hx hL hL2 o3 o4 ne3 ne4 hN h hlp
    rw [if_neg c22]
    by_cases c23 : c = Int32.ofNat 23
    · rw [if_pos c23]
      exact q_lc_23 j90 j92 hx hL hL2 o3 o4 ne3 ne4 hN h hlp
    rw [if_neg c23]
    by_cases c24 : c = Int32.ofNat 24
    · rw [if_pos c24]
      exact q_lc_24 j94 j96 hx hL hL2 o3 o4 ne3 ne4 hN h hlp
    rw [if_neg c24]
    by_cases c25 : c = Int32.ofNat 25
    · rw [if_pos c25]
      exact q_lc_25 j98 j100 hx hL hL2 o3 o4 ne3 ne4 hN h hlp
    rw [if_neg c25]
    by_cases c26 : c = Int32.ofNat 26
    · rw [if_pos c26]
      exact q_lc_26 j102 j104 hx hL hL2 o3 o4 ne3 ne4 hN h hlp
    rw [if_neg c26]
    by_cases c27 : c = Int32.ofNat 27
    · rw [if_pos c27]
      exact q_lc_27 j106 j108 hx hL hL2 o3 o4 ne3 ne4 hN h hlp
    rw [if_neg c27]
    by_cases c28 : c = Int32.ofNat 28
    · rw [if_pos c28]
      exact q_lc_28 j110 j112 hx hL hL2 o3 o4 ne3 ne4 hN h hlp
    rw [if_neg c28]
    by_cases c29 : c = Int32.ofNat 29
    · rw [if_pos c29]
      exact q_lc_29 j114 j116 hx hL hL2 o3 o4 ne3 ne4 hN h hlp
    rw [if_neg c29]
    by_cases c30 : c = Int32.ofNat 30
    · rw [if_pos c30]
      exact q_lc_30 j118 j120 hx hL hL2 o3 o4 ne3 ne4 hN h hlp
    rw [if_neg c30]
    by_cases c31 : c = Int32.ofNat 31
    · rw [if_pos c31]
      exact q_lc_31 j122 j124 hx hL hL2 o3 o4 ne3 ne4 hN h hlp
    rw [if_neg c31]
    by_cases c32 : c = Int32.ofNat 32
    · rw [if_pos c32]
      exact q_lc_32 j126 hx hL hL2 o3 o4 ne3 ne4 hN h hlp
    rw [if_neg c32]
    by_cases c33 : c = Int32.ofNat 33
    · rw [if_pos c33]
      exact q_lc_33 j128 hx hL hL2 o3 o4 ne3 ne4 hN h hlp
    rw [if_neg c33]
    rw [m_lt_s, show Int32.ofNat i + (6 : Int32) = Int32.ofNat (i + 6) from io_add i 6]
    exact hlp S ⟨pb, ns, nk, nc, q_Rel_N h (Nat.le_succ _)⟩
end LAWL
