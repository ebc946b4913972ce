section CASES2
variable {Z : m_Z} {x m q3 q4 L9 i N pb ns nk nc : Nat} {xs9 : Nat → Int32} {S : m_S} {lp : Int32 × m_S → Option Unit}
theorem q_lc_18 (j70 j72 : m_S → Option Unit) (hx : m = x + 341) (hL : i + 6 ≤ L9) (hL2 : L9 ≤ 3072) (o3 : m_okn Z q3 12 1) (o4 : m_okn Z q4 19 1) (ne3 : ¬ (x ≤ q3 ∧ q3 < x + 355)) (ne4 : ¬ (x ≤ q4 ∧ q4 < x + 355)) (hN : 30 ≤ N ∧ N < 2147483647) (h : q_Rel Z x m N pb ns nk nc S S) (hlp : ∀ S', q_Re Z x m (N + 1) S' S' → lp (Int32.ofNat (i + 6), S') = some ()) : (m_lt (Int32.ofNat i + (1 : Int32)) (fun v629 => m_gd (m_in v629 L9) (m_bw (f_L_open Z S x (xs9 v629.toNatClampNeg) q3) (fun v633 S632 => m_lt (Int32.ofNat i + (1 : Int32)) (fun v635 => m_gd (m_in v635 L9) (m_gd (m_ok Z m 9) (m_bw (f_X9_open Z S632 m (xs9 v635.toNatClampNeg)) (fun v641 S640 => m_b1 (f_X9_thrown Z S640 m) (fun v643 => (if v643 = v633 then (if ¬ v633 = 0 then m_lt (Int32.ofNat i + (6 : Int32)) (fun v646 => lp (v646, S640)) else m_gd (m_ok Z q3 12) (m_gd (m_in (0 : Int32) (Z.2.2 q3)) ((if (lg_cmp (S640.2.1 q3 (0 : Int32).toNatClampNeg) v641.toInt64) = 0 then m_lt (Int32.ofNat i + (6 : Int32)) (fun v651 => lp (v651, S640)) else j70 S640)))) else j72 S640)))))))))) = some () := by
  have i1 : m_in (Int32.ofNat i + (1 : Int32)) L9 := by
    rw [show Int32.ofNat i + (1 : Int32) = Int32.ofNat (i + 1) from io_add i 1]; exact io_in (by omega) (by omega)
  rcases q_stepW (fm := fun T => f_X9_open Z T m (xs9 (Int32.ofNat i + (1 : Int32)).toNatClampNeg)) hx h (fun T hT => J_open hT  _) ne3 (fun a => a.toInt64) with ⟨a, S', e1, b, T'', e2, z, o, eq, hR⟩ | ⟨e, S', e1, b, T'', e2, hmem, hR⟩
  · have i0 : m_in (0 : Int32) (Z.2.2 q3) := q_inl (wi := 0) (i := 0) rfl o3 (by omega) (by omega)
    have eL : f_L_open Z S x (xs9 (Int32.ofNat i + (1 : Int32)).toNatClampNeg) q3 = some (0, m_pJ S' q3 0 ((fun a => a.toInt64) a)) := by
      unfold f_L_open
      rw [m_gd_t h.ox, e1]
      exact (m_gd_t o3.1).trans (m_gd_t i0)
    have eT : f_X9_thrown Z T'' m = some (T''.1 m 0) := m_gd_t h.M.o
    have ec : lg_cmp (T''.2.1 q3 (0 : Int32).toNatClampNeg) b.toInt64 = 0 := lg_cmp0.mpr (by rw [show (0 : Int32).toNatClampNeg = 0 from rfl, o, ← eq])
    rw [m_lt_s, m_gd_t i1, eL, m_bw_s, m_lt_s, m_gd_t i1, m_gd_t h.M.o, e2, m_bw_s, eT, m_b1_s, z, if_pos z00, if_neg nz0, m_gd_t o3.1, m_gd_t i0, if_pos ec, m_lt_s, show Int32.ofNat i + (6 : Int32) = Int32.ofNat (i + 6) from io_add i 6]
    exact hlp T'' hR
  · have eT : f_X9_thrown Z T'' m = some (T''.1 m 0) := m_gd_t h.M.o
    have hm : (e = "java/lang/IndexOutOfBoundsException" ∧ T''.1 m 0 = 1) := by simpa using hmem
    rcases hm with ⟨rfl, hz⟩
    · have eL : f_L_open Z S x (xs9 (Int32.ofNat i + (1 : Int32)).toNatClampNeg) q3 = some (1, S') := by
        unfold f_L_open
        rw [m_gd_t h.ox, e1]
        exact if_pos rfl
      rw [m_lt_s, m_gd_t i1, eL, m_bw_s, m_lt_s, m_gd_t i1, m_gd_t h.M.o, e2, m_bw_s, eT, m_b1_s, hz, if_pos rfl, if_pos (show ¬ (1 : Int32) = 0 by decide), m_lt_s, show Int32.ofNat i + (6 : Int32) = Int32.ofNat (i + 6) from io_add i 6]
      exact hlp T'' hR
theorem q_lc_19 (j74 j76 : m_S → Option Unit) (hx : m = x + 341) (hL : i + 6 ≤ L9) (hL2 : L9 ≤ 3072) (o3 : m_okn Z q3 12 1) (o4 : m_okn Z q4 19 1) (ne3 : ¬ (x ≤ q3 ∧ q3 < x + 355)) (ne4 : ¬ (x ≤ q4 ∧ q4 < x + 355)) (hN : 30 ≤ N ∧ N < 2147483647) (h : q_Rel Z x m N pb ns nk nc S S) (hlp : ∀ S', q_Re Z x m (N + 1) S' S' → lp (Int32.ofNat (i + 6), S') = some ()) : (m_lt (Int32.ofNat i + (1 : Int32)) (fun v654 => m_gd (m_in v654 L9) (m_lt (Int32.ofNat i + (2 : Int32)) (fun v657 => m_gd (m_in v657 L9) (m_lt (Int32.ofNat i + (3 : Int32)) (fun v660 => m_gd (m_in v660 L9) (m_bw (f_L_cassette Z S x (xs9 v654.toNatClampNeg) (xs9 v657.toNatClampNeg) (xs9 v660.toNatClampNeg) q3) (fun v664 S663 => m_lt (Int32.ofNat i + (1 : Int32)) (fun v666 => m_gd (m_in v666 L9) (m_lt (Int32.ofNat i + (2 : Int32)) (fun v669 => m_gd (m_in v669 L9) (m_lt (Int32.ofNat i + (3 : Int32)) (fun v672 => m_gd (m_in v672 L9) (m_gd (m_ok Z m 9) (m_bw (f_X9_cassette Z S663 m (xs9 v666.toNatClampNeg) (xs9 v669.toNatClampNeg) (xs9 v672.toNatClampNeg)) (fun v678 S677 => m_b1 (f_X9_thrown Z S677 m) (fun v680 => (if v680 = v664 then (if ¬ v664 = 0 then m_lt (Int32.ofNat i + (6 : Int32)) (fun v683 => lp (v683, S677)) else m_gd (m_ok Z q3 12) (m_gd (m_in (0 : Int32) (Z.2.2 q3)) ((if (lg_cmp (S677.2.1 q3 (0 : Int32).toNatClampNeg) v678.toInt64) = 0 then m_lt (Int32.ofNat i + (6 : Int32)) (fun v688 => lp (v688, S677)) else j74 S677)))) else j76 S677)))))))))))))))))) = some () := by
  have i1 : m_in (Int32.ofNat i + (1 : Int32)) L9 := by
    rw [show Int32.ofNat i + (1 : Int32) = Int32.ofNat (i + 1) from io_add i 1]; exact io_in (by omega) (by omega)
  have i2 : m_in (Int32.ofNat i + (2 : Int32)) L9 := by
    rw [show Int32.ofNat i + (2 : Int32) = Int32.ofNat (i + 2) from io_add i 2]; exact io_in (by omega) (by omega)
  have i3 : m_in (Int32.ofNat i + (3 : Int32)) L9 := by
    rw [show Int32.ofNat i + (3 : Int32) = Int32.ofNat (i + 3) from io_add i 3]; exact io_in (by omega) (by omega)
  rcases q_stepR (fm := fun T => f_X9_cassette Z T m (xs9 (Int32.ofNat i + (1 : Int32)).toNatClampNeg) (xs9 (Int32.ofNat i + (2 : Int32)).toNatClampNeg) (xs9 (Int32.ofNat i + (3 : Int32)).toNatClampNeg)) hx h (fun T hT => J_cassette hT  _ _ _) ne3 (fun a => a.toInt64) with ⟨a, e1, b, T'', e2, z, o, eq, hR⟩ | ⟨e, e1, b, T'', e2, hmem, hR⟩
  · have i0 : m_in (0 : Int32) (Z.2.2 q3) := q_inl (wi := 0) (i := 0) rfl o3 (by omega) (by omega)
    have eL : f_L_cassette Z S x (xs9 (Int32.ofNat i + (1 : Int32)).toNatClampNeg) (xs9 (Int32.ofNat i + (2 : Int32)).toNatClampNeg) (xs9 (Int32.ofNat i + (3 : Int32)).toNatClampNeg) q3 = some (0, m_pJ S q3 0 ((fun a => a.toInt64) a)) := by
      unfold f_L_cassette
      rw [m_gd_t h.ox, e1]
      exact (m_gd_t o3.1).trans (m_gd_t i0)
    have eT : f_X9_thrown Z T'' m = some (T''.1 m 0) := m_gd_t h.M.o
    have ec : lg_cmp (T''.2.1 q3 (0 : Int32).toNatClampNeg) b.toInt64 = 0 := lg_cmp0.mpr (by rw [show (0 : Int32).toNatClampNeg = 0 from rfl, o, ← eq])
    rw [m_lt_s, m_gd_t i1, m_lt_s, m_gd_t i2, m_lt_s, m_gd_t i3, eL, m_bw_s, m_lt_s, m_gd_t i1, m_lt_s, m_gd_t i2, m_lt_s, m_gd_t i3, m_gd_t h.M.o, e2, m_bw_s, eT, m_b1_s, z, if_pos z00, if_neg nz0, m_gd_t o3.1, m_gd_t i0, if_pos ec, m_lt_s, show Int32.ofNat i + (6 : Int32) = Int32.ofNat (i + 6) from io_add i 6]
    exact hlp T'' hR
  · have eT : f_X9_thrown Z T'' m = some (T''.1 m 0) := m_gd_t h.M.o
    have hm : (e = "java/lang/IndexOutOfBoundsException" ∧ T''.1 m 0 = 1) ∨ (e = "java/lang/IllegalArgumentException" ∧ T''.1 m 0 = 2) := by simpa using hmem
    rcases hm with ⟨rfl, hz⟩ | ⟨rfl, hz⟩
    · have eL : f_L_cassette Z S x (xs9 (Int32.ofNat i + (1 : Int32)).toNatClampNeg) (xs9 (Int32.ofNat i + (2 : Int32)).toNatClampNeg) (xs9 (Int32.ofNat i + (3 : Int32)).toNatClampNeg) q3 = some (1, S) := by
        unfold f_L_cassette
        rw [m_gd_t h.ox, e1]
        exact if_pos rfl
      rw [m_lt_s, m_gd_t i1, m_lt_s, m_gd_t i2, m_lt_s, m_gd_t i3, eL, m_bw_s, m_lt_s, m_gd_t i1, m_lt_s, m_gd_t i2, m_lt_s, m_gd_t i3, m_gd_t h.M.o, e2, m_bw_s, eT, m_b1_s, hz, if_pos rfl, if_pos (show ¬ (1 : Int32) = 0 by decide), m_lt_s, show Int32.ofNat i + (6 : Int32) = Int32.ofNat (i + 6) from io_add i 6]
      exact hlp T'' hR
    · have eL : f_L_cassette Z S x (xs9 (Int32.ofNat i + (1 : Int32)).toNatClampNeg) (xs9 (Int32.ofNat i + (2 : Int32)).toNatClampNeg) (xs9 (Int32.ofNat i + (3 : Int32)).toNatClampNeg) q3 = some (2, S) := by
        unfold f_L_cassette
        rw [m_gd_t h.ox, e1]
        exact (if_neg (by decide)).trans (if_pos rfl)
      rw [m_lt_s, m_gd_t i1, m_lt_s, m_gd_t i2, m_lt_s, m_gd_t i3, eL, m_bw_s, m_lt_s, m_gd_t i1, m_lt_s, m_gd_t i2, m_lt_s, m_gd_t i3, m_gd_t h.M.o, e2, m_bw_s, eT, m_b1_s, hz, if_pos rfl, if_pos (show ¬ (2 : Int32) = 0 by decide), m_lt_s, show Int32.ofNat i + (6 : Int32) = Int32.ofNat (i + 6) from io_add i 6]
      exact hlp T'' hR
theorem q_lc_20 (j78 j80 : m_S → Option Unit) (hx : m = x + 341) (hL : i + 6 ≤ L9) (hL2 : L9 ≤ 3072) (o3 : m_okn Z q3 12 1) (o4 : m_okn Z q4 19 1) (ne3 : ¬ (x ≤ q3 ∧ q3 < x + 355)) (ne4 : ¬ (x ≤ q4 ∧ q4 < x + 355)) (hN : 30 ≤ N ∧ N < 2147483647) (h : q_Rel Z x m N pb ns nk nc S S) (hlp : ∀ S', q_Re Z x m (N + 1) S' S' → lp (Int32.ofNat (i + 6), S') = some ()) : (m_lt (Int32.ofNat i + (1 : Int32)) (fun v691 => m_gd (m_in v691 L9) (m_bw (f_L_caseOf Z S x (xs9 v691.toNatClampNeg) q3) (fun v695 S694 => m_lt (Int32.ofNat i + (1 : Int32)) (fun v697 => m_gd (m_in v697 L9) (m_gd (m_ok Z m 9) (m_bw (f_X9_caseOf Z S694 m (xs9 v697.toNatClampNeg)) (fun v703 S702 => m_b1 (f_X9_thrown Z S702 m) (fun v705 => (if v705 = v695 then (if ¬ v695 = 0 then m_lt (Int32.ofNat i + (6 : Int32)) (fun v708 => lp (v708, S702)) else m_gd (m_ok Z q3 12) (m_gd (m_in (0 : Int32) (Z.2.2 q3)) ((if (lg_cmp (S702.2.1 q3 (0 : Int32).toNatClampNeg) v703.toInt64) = 0 then m_lt (Int32.ofNat i + (6 : Int32)) (fun v713 => lp (v713, S702)) else j78 S702)))) else j80 S702)))))))))) = some () := by
  have i1 : m_in (Int32.ofNat i + (1 : Int32)) L9 := by
    rw [show Int32.ofNat i + (1 : Int32) = Int32.ofNat (i + 1) from io_add i 1]; exact io_in (by omega) (by omega)
  rcases q_stepR (fm := fun T => f_X9_caseOf Z T m (xs9 (Int32.ofNat i + (1 : Int32)).toNatClampNeg)) hx h (fun T hT => J_caseOf hT  _) ne3 (fun a => a.toInt64) with ⟨a, e1, b, T'', e2, z, o, eq, hR⟩ | ⟨e, e1, b, T'', e2, hmem, hR⟩
  · have i0 : m_in (0 : Int32) (Z.2.2 q3) := q_inl (wi := 0) (i := 0) rfl o3 (by omega) (by omega)
    have eL : f_L_caseOf Z S x (xs9 (Int32.ofNat i + (1 : Int32)).toNatClampNeg) q3 = some (0, m_pJ S q3 0 ((fun a => a.toInt64) a)) := by
      unfold f_L_caseOf
      rw [m_gd_t h.ox, e1]
      exact (m_gd_t o3.1).trans (m_gd_t i0)
    have eT : f_X9_thrown Z T'' m = some (T''.1 m 0) := m_gd_t h.M.o
    have ec : lg_cmp (T''.2.1 q3 (0 : Int32).toNatClampNeg) b.toInt64 = 0 := lg_cmp0.mpr (by rw [show (0 : Int32).toNatClampNeg = 0 from rfl, o, ← eq])
    rw [m_lt_s, m_gd_t i1, eL, m_bw_s, m_lt_s, m_gd_t i1, m_gd_t h.M.o, e2, m_bw_s, eT, m_b1_s, z, if_pos z00, if_neg nz0, m_gd_t o3.1, m_gd_t i0, if_pos ec, m_lt_s, show Int32.ofNat i + (6 : Int32) = Int32.ofNat (i + 6) from io_add i 6]
    exact hlp T'' hR
  · have eT : f_X9_thrown Z T'' m = some (T''.1 m 0) := m_gd_t h.M.o
    have hm : (e = "java/util/NoSuchElementException" ∧ T''.1 m 0 = 1) := by simpa using hmem
    rcases hm with ⟨rfl, hz⟩
    · have eL : f_L_caseOf Z S x (xs9 (Int32.ofNat i + (1 : Int32)).toNatClampNeg) q3 = some (1, S) := by
        unfold f_L_caseOf
        rw [m_gd_t h.ox, e1]
        exact if_pos rfl
      rw [m_lt_s, m_gd_t i1, eL, m_bw_s, m_lt_s, m_gd_t i1, m_gd_t h.M.o, e2, m_bw_s, eT, m_b1_s, hz, if_pos rfl, if_pos (show ¬ (1 : Int32) = 0 by decide), m_lt_s, show Int32.ofNat i + (6 : Int32) = Int32.ofNat (i + 6) from io_add i 6]
      exact hlp T'' hR
theorem q_lc_21 (j82 j84 : m_S → Option Unit) (hx : m = x + 341) (hL : i + 6 ≤ L9) (hL2 : L9 ≤ 3072) (o3 : m_okn Z q3 12 1) (o4 : m_okn Z q4 19 1) (ne3 : ¬ (x ≤ q3 ∧ q3 < x + 355)) (ne4 : ¬ (x ≤ q4 ∧ q4 < x + 355)) (hN : 30 ≤ N ∧ N < 2147483647) (h : q_Rel Z x m N pb ns nk nc S S) (hlp : ∀ S', q_Re Z x m (N + 1) S' S' → lp (Int32.ofNat (i + 6), S') = some ()) : (m_lt (Int32.ofNat i + (1 : Int32)) (fun v716 => m_gd (m_in v716 L9) (m_lt (Int32.ofNat i + (2 : Int32)) (fun v719 => m_gd (m_in v719 L9) (m_lt (Int32.ofNat i + (3 : Int32)) (fun v722 => m_gd (m_in v722 L9) (m_lt (Int32.ofNat i + (4 : Int32)) (fun v725 => m_gd (m_in v725 L9) (m_bw (f_L_add Z S x (xs9 v716.toNatClampNeg) (xs9 v719.toNatClampNeg) (xs9 v722.toNatClampNeg) (xs9 v725.toNatClampNeg) q3) (fun v729 S728 => m_lt (Int32.ofNat i + (1 : Int32)) (fun v731 => m_gd (m_in v731 L9) (m_lt (Int32.ofNat i + (2 : Int32)) (fun v734 => m_gd (m_in v734 L9) (m_lt (Int32.ofNat i + (3 : Int32)) (fun v737 => m_gd (m_in v737 L9) (m_lt (Int32.ofNat i + (4 : Int32)) (fun v740 => m_gd (m_in v740 L9) (m_gd (m_ok Z m 9) (m_bw (f_X9_add Z S728 m (xs9 v731.toNatClampNeg) (xs9 v734.toNatClampNeg) (xs9 v737.toNatClampNeg) (xs9 v740.toNatClampNeg)) (fun v746 S745 => m_b1 (f_X9_thrown Z S745 m) (fun v748 => (if v748 = v729 then (if ¬ v729 = 0 then m_lt (Int32.ofNat i + (6 : Int32)) (fun v751 => lp (v751, S745)) else m_gd (m_ok Z q3 12) (m_gd (m_in (0 : Int32) (Z.2.2 q3)) ((if (lg_cmp (S745.2.1 q3 (0 : Int32).toNatClampNeg) v746.toInt64) = 0 then m_lt (Int32.ofNat i + (6 : Int32)) (fun v756 => lp (v756, S745)) else j82 S745)))) else j84 S745)))))))))))))))))))))) = some () := by
  have i1 : m_in (Int32.ofNat i + (1 : Int32)) L9 := by
    rw [show Int32.ofNat i + (1 : Int32) = Int32.ofNat (i + 1) from io_add i 1]; exact io_in (by omega) (by omega)
  have i2 : m_in (Int32.ofNat i + (2 : Int32)) L9 := by
    rw [show Int32.ofNat i + (2 : Int32) = Int32.ofNat (i + 2) from io_add i 2]; exact io_in (by omega) (by omega)
  have i3 : m_in (Int32.ofNat i + (3 : Int32)) L9 := by
    rw [show Int32.ofNat i + (3 : Int32) = Int32.ofNat (i + 3) from io_add i 3]; exact io_in (by omega) (by omega)
  have i4 : m_in (Int32.ofNat i + (4 : Int32)) L9 := by
    rw [show Int32.ofNat i + (4 : Int32) = Int32.ofNat (i + 4) from io_add i 4]; exact io_in (by omega) (by omega)
  rcases q_stepW (fm := fun T => f_X9_add Z T m (xs9 (Int32.ofNat i + (1 : Int32)).toNatClampNeg) (xs9 (Int32.ofNat i + (2 : Int32)).toNatClampNeg) (xs9 (Int32.ofNat i + (3 : Int32)).toNatClampNeg) (xs9 (Int32.ofNat i + (4 : Int32)).toNatClampNeg)) hx h (fun T hT => J_add hT hN.2 _ _ _ _) ne3 (fun a => a.toInt64) with ⟨a, S', e1, b, T'', e2, z, o, eq, hR⟩ | ⟨e, S', e1, b, T'', e2, hmem, hR⟩
  · have i0 : m_in (0 : Int32) (Z.2.2 q3) := q_inl (wi := 0) (i := 0) rfl o3 (by omega) (by omega)
    have eL : f_L_add Z S x (xs9 (Int32.ofNat i + (1 : Int32)).toNatClampNeg) (xs9 (Int32.ofNat i + (2 : Int32)).toNatClampNeg) (xs9 (Int32.ofNat i + (3 : Int32)).toNatClampNeg) (xs9 (Int32.ofNat i + (4 : Int32)).toNatClampNeg) q3 = some (0, m_pJ S' q3 0 ((fun a => a.toInt64) a)) := by
      unfold f_L_add
      rw [m_gd_t h.ox, e1]
      exact (m_gd_t o3.1).trans (m_gd_t i0)
    have eT : f_X9_thrown Z T'' m = some (T''.1 m 0) := m_gd_t h.M.o
    have ec : lg_cmp (T''.2.1 q3 (0 : Int32).toNatClampNeg) b.toInt64 = 0 := lg_cmp0.mpr (by rw [show (0 : Int32).toNatClampNeg = 0 from rfl, o, ← eq])
    rw [m_lt_s, m_gd_t i1, m_lt_s, m_gd_t i2, m_lt_s, m_gd_t i3, m_lt_s, m_gd_t i4, eL, m_bw_s, m_lt_s, m_gd_t i1, m_lt_s, m_gd_t i2, m_lt_s, m_gd_t i3, m_lt_s, m_gd_t i4, m_gd_t h.M.o, e2, m_bw_s, eT, m_b1_s, z, if_pos z00, if_neg nz0, m_gd_t o3.1, m_gd_t i0, if_pos ec, m_lt_s, show Int32.ofNat i + (6 : Int32) = Int32.ofNat (i + 6) from io_add i 6]
    exact hlp T'' hR
  · have eT : f_X9_thrown Z T'' m = some (T''.1 m 0) := m_gd_t h.M.o
    have hm : (e = "java/lang/IndexOutOfBoundsException" ∧ T''.1 m 0 = 1) ∨ (e = "java/lang/IllegalArgumentException" ∧ T''.1 m 0 = 2) ∨ (e = "java/lang/IllegalStateException" ∧ T''.1 m 0 = 3) := by simpa using hmem
    rcases hm with ⟨rfl, hz⟩ | ⟨rfl, hz⟩ | ⟨rfl, hz⟩
    · have eL : f_L_add Z S x (xs9 (Int32.ofNat i + (1 : Int32)).toNatClampNeg) (xs9 (Int32.ofNat i + (2 : Int32)).toNatClampNeg) (xs9 (Int32.ofNat i + (3 : Int32)).toNatClampNeg) (xs9 (Int32.ofNat i + (4 : Int32)).toNatClampNeg) q3 = some (1, S') := by
        unfold f_L_add
        rw [m_gd_t h.ox, e1]
        exact if_pos rfl
      rw [m_lt_s, m_gd_t i1, m_lt_s, m_gd_t i2, m_lt_s, m_gd_t i3, m_lt_s, m_gd_t i4, eL, m_bw_s, m_lt_s, m_gd_t i1, m_lt_s, m_gd_t i2, m_lt_s, m_gd_t i3, m_lt_s, m_gd_t i4, m_gd_t h.M.o, e2, m_bw_s, eT, m_b1_s, hz, if_pos rfl, if_pos (show ¬ (1 : Int32) = 0 by decide), m_lt_s, show Int32.ofNat i + (6 : Int32) = Int32.ofNat (i + 6) from io_add i 6]
      exact hlp T'' hR
    · have eL : f_L_add Z S x (xs9 (Int32.ofNat i + (1 : Int32)).toNatClampNeg) (xs9 (Int32.ofNat i + (2 : Int32)).toNatClampNeg) (xs9 (Int32.ofNat i + (3 : Int32)).toNatClampNeg) (xs9 (Int32.ofNat i + (4 : Int32)).toNatClampNeg) q3 = some (2, S') := by
        unfold f_L_add
        rw [m_gd_t h.ox, e1]
        exact (if_neg (by decide)).trans (if_pos rfl)
      rw [m_lt_s, m_gd_t i1, m_lt_s, m_gd_t i2, m_lt_s, m_gd_t i3, m_lt_s, m_gd_t i4, eL, m_bw_s, m_lt_s, m_gd_t i1, m_lt_s, m_gd_t i2, m_lt_s, m_gd_t i3, m_lt_s, m_gd_t i4, m_gd_t h.M.o, e2, m_bw_s, eT, m_b1_s, hz, if_pos rfl, if_pos (show ¬ (2 : Int32) = 0 by decide), m_lt_s, show Int32.ofNat i + (6 : Int32) = Int32.ofNat (i + 6) from io_add i 6]
      exact hlp T'' hR
    · have eL : f_L_add Z S x (xs9 (Int32.ofNat i + (1 : Int32)).toNatClampNeg) (xs9 (Int32.ofNat i + (2 : Int32)).toNatClampNeg) (xs9 (Int32.ofNat i + (3 : Int32)).toNatClampNeg) (xs9 (Int32.ofNat i + (4 : Int32)).toNatClampNeg) q3 = some (3, S') := by
        unfold f_L_add
        rw [m_gd_t h.ox, e1]
        exact (if_neg (by decide)).trans ((if_neg (by decide)).trans (if_pos rfl))
      rw [m_lt_s, m_gd_t i1, m_lt_s, m_gd_t i2, m_lt_s, m_gd_t i3, m_lt_s, m_gd_t i4, eL, m_bw_s, m_lt_s, m_gd_t i1, m_lt_s, m_gd_t i2, m_lt_s, m_gd_t i3, m_lt_s, m_gd_t i4, m_gd_t h.M.o, e2, m_bw_s, eT, m_b1_s, hz, if_pos rfl, if_pos (show ¬ (3 : Int32) = 0 by decide), m_lt_s, show Int32.ofNat i + (6 : Int32) = Int32.ofNat (i + 6) from io_add i 6]
      exact hlp T'' hR
theorem q_lc_22 (j86 j88 : m_S → Option Unit) (hx : m = x + 341) (hL : i + 6 ≤ L9) (hL2 : L9 ≤ 3072) (o3 : m_okn Z q3 12 1) (o4 : m_okn Z q4 19 1) (ne3 : ¬ (x ≤ q3 ∧ q3 < x + 355)) (ne4 : ¬ (x ≤ q4 ∧ q4 < x + 355)) (hN : 30 ≤ N ∧ N < 2147483647) (h : q_Rel Z x m N pb ns nk nc S S) (hlp : ∀ S', q_Re Z x m (N + 1) S' S' → lp (Int32.ofNat (i + 6), S') = some ()) : (m_lt (Int32.ofNat i + (1 : Int32)) (fun v759 => m_gd (m_in v759 L9) (m_bw (f_L_remove Z S x (xs9 v759.toNatClampNeg) q3) (fun v763 S762 => m_lt (Int32.ofNat i + (1 : Int32)) (fun v765 => m_gd (m_in v765 L9) (m_gd (m_ok Z m 9) (m_bw (f_X9_remove Z S762 m (xs9 v765.toNatClampNeg)) (fun v771 S770 => m_b1 (f_X9_thrown Z S770 m) (fun v773 => (if v773 = v763 then (if ¬ v763 = 0 then m_lt (Int32.ofNat i + (6 : Int32)) (fun v776 => lp (v776, S770)) else m_gd (m_ok Z q3 12) (m_gd (m_in (0 : Int32) (Z.2.2 q3)) ((if (lg_cmp (S770.2.1 q3 (0 : Int32).toNatClampNeg) v771.toInt64) = 0 then m_lt (Int32.ofNat i + (6 : Int32)) (fun v781 => lp (v781, S770)) else j86 S770)))) else j88 S770)))))))))) = some () := by
  have i1 : m_in (Int32.ofNat i + (1 : Int32)) L9 := by
    rw [show Int32.ofNat i + (1 : Int32) = Int32.ofNat (i + 1) from io_add i 1]; exact io_in (by omega) (by omega)
  rcases q_stepW (fm := fun T => f_X9_remove Z T m (xs9 (Int32.ofNat i + (1 : Int32)).toNatClampNeg)) hx h (fun T hT => J_remove hT  _) ne3 (fun a => a.toInt64) with ⟨a, S', e1, b, T'', e2, z, o, eq, hR⟩ | ⟨e, S', e1, b, T'', e2, hmem, hR⟩
  · have i0 : m_in (0 : Int32) (Z.2.2 q3) := q_inl (wi := 0) (i := 0) rfl o3 (by omega) (by omega)
    have eL : f_L_remove Z S x (xs9 (Int32.ofNat i + (1 : Int32)).toNatClampNeg) q3 = some (0, m_pJ S' q3 0 ((fun a => a.toInt64) a)) := by
      unfold f_L_remove
      rw [m_gd_t h.ox, e1]
      exact (m_gd_t o3.1).trans (m_gd_t i0)
    have eT : f_X9_thrown Z T'' m = some (T''.1 m 0) := m_gd_t h.M.o
    have ec : lg_cmp (T''.2.1 q3 (0 : Int32).toNatClampNeg) b.toInt64 = 0 := lg_cmp0.mpr (by rw [show (0 : Int32).toNatClampNeg = 0 from rfl, o, ← eq])
    rw [m_lt_s, m_gd_t i1, eL, m_bw_s, m_lt_s, m_gd_t i1, m_gd_t h.M.o, e2, m_bw_s, eT, m_b1_s, z, if_pos z00, if_neg nz0, m_gd_t o3.1, m_gd_t i0, if_pos ec, m_lt_s, show Int32.ofNat i + (6 : Int32) = Int32.ofNat (i + 6) from io_add i 6]
    exact hlp T'' hR
  · have eT : f_X9_thrown Z T'' m = some (T''.1 m 0) := m_gd_t h.M.o
    have hm : (e = "java/util/NoSuchElementException" ∧ T''.1 m 0 = 1) := by simpa using hmem
    rcases hm with ⟨rfl, hz⟩
    · have eL : f_L_remove Z S x (xs9 (Int32.ofNat i + (1 : Int32)).toNatClampNeg) q3 = some (1, S') := by
        unfold f_L_remove
        rw [m_gd_t h.ox, e1]
        exact if_pos rfl
      rw [m_lt_s, m_gd_t i1, eL, m_bw_s, m_lt_s, m_gd_t i1, m_gd_t h.M.o, e2, m_bw_s, eT, m_b1_s, hz, if_pos rfl, if_pos (show ¬ (1 : Int32) = 0 by decide), m_lt_s, show Int32.ofNat i + (6 : Int32) = Int32.ofNat (i + 6) from io_add i 6]
      exact hlp T'' hR
theorem q_lc_23 (j90 j92 : m_S → Option Unit) (hx : m = x + 341) (hL : i + 6 ≤ L9) (hL2 : L9 ≤ 3072) (o3 : m_okn Z q3 12 1) (o4 : m_okn Z q4 19 1) (ne3 : ¬ (x ≤ q3 ∧ q3 < x + 355)) (ne4 : ¬ (x ≤ q4 ∧ q4 < x + 355)) (hN : 30 ≤ N ∧ N < 2147483647) (h : q_Rel Z x m N pb ns nk nc S S) (hlp : ∀ S', q_Re Z x m (N + 1) S' S' → lp (Int32.ofNat (i + 6), S') = some ()) : (m_lt (Int32.ofNat i + (1 : Int32)) (fun v784 => m_gd (m_in v784 L9) (m_lt (Int32.ofNat i + (2 : Int32)) (fun v787 => m_gd (m_in v787 L9) (m_bw (f_L_move Z S x (xs9 v784.toNatClampNeg) (xs9 v787.toNatClampNeg) q3) (fun v791 S790 => m_lt (Int32.ofNat i + (1 : Int32)) (fun v793 => m_gd (m_in v793 L9) (m_lt (Int32.ofNat i + (2 : Int32)) (fun v796 => m_gd (m_in v796 L9) (m_gd (m_ok Z m 9) (m_bw (f_X9_move Z S790 m (xs9 v793.toNatClampNeg) (xs9 v796.toNatClampNeg)) (fun v802 S801 => m_b1 (f_X9_thrown Z S801 m) (fun v804 => (if v804 = v791 then (if ¬ v791 = 0 then m_lt (Int32.ofNat i + (6 : Int32)) (fun v807 => lp (v807, S801)) else m_gd (m_ok Z q3 12) (m_gd (m_in (0 : Int32) (Z.2.2 q3)) ((if (lg_cmp (S801.2.1 q3 (0 : Int32).toNatClampNeg) v802.toInt64) = 0 then m_lt (Int32.ofNat i + (6 : Int32)) (fun v812 => lp (v812, S801)) else j90 S801)))) else j92 S801)))))))))))))) = some () := by
  have i1 : m_in (Int32.ofNat i + (1 : Int32)) L9 := by
    rw [show Int32.ofNat i + (1 : Int32) = Int32.ofNat (i + 1) from io_add i 1]; exact io_in (by omega) (by omega)
  have i2 : m_in (Int32.ofNat i + (2 : Int32)) L9 := by
    rw [show Int32.ofNat i + (2 : Int32) = Int32.ofNat (i + 2) from io_add i 2]; exact io_in (by omega) (by omega)
  rcases q_stepW (fm := fun T => f_X9_move Z T m (xs9 (Int32.ofNat i + (1 : Int32)).toNatClampNeg) (xs9 (Int32.ofNat i + (2 : Int32)).toNatClampNeg)) hx h (fun T hT => J_move hT  _ _) ne3 (fun a => a.toInt64) with ⟨a, S', e1, b, T'', e2, z, o, eq, hR⟩ | ⟨e, S', e1, b, T'', e2, hmem, hR⟩
  · have i0 : m_in (0 : Int32) (Z.2.2 q3) := q_inl (wi := 0) (i := 0) rfl o3 (by omega) (by omega)
    have eL : f_L_move Z S x (xs9 (Int32.ofNat i + (1 : Int32)).toNatClampNeg) (xs9 (Int32.ofNat i + (2 : Int32)).toNatClampNeg) q3 = some (0, m_pJ S' q3 0 ((fun a => a.toInt64) a)) := by
      unfold f_L_move
      rw [m_gd_t h.ox, e1]
      exact (m_gd_t o3.1).trans (m_gd_t i0)
    have eT : f_X9_thrown Z T'' m = some (T''.1 m 0) := m_gd_t h.M.o
    have ec : lg_cmp (T''.2.1 q3 (0 : Int32).toNatClampNeg) b.toInt64 = 0 := lg_cmp0.mpr (by rw [show (0 : Int32).toNatClampNeg = 0 from rfl, o, ← eq])
    rw [m_lt_s, m_gd_t i1, m_lt_s, m_gd_t i2, eL, m_bw_s, m_lt_s, m_gd_t i1, m_lt_s, m_gd_t i2, m_gd_t h.M.o, e2, m_bw_s, eT, m_b1_s, z, if_pos z00, if_neg nz0, m_gd_t o3.1, m_gd_t i0, if_pos ec, m_lt_s, show Int32.ofNat i + (6 : Int32) = Int32.ofNat (i + 6) from io_add i 6]
    exact hlp T'' hR
  · have eT : f_X9_thrown Z T'' m = some (T''.1 m 0) := m_gd_t h.M.o
    have hm : (e = "java/util/NoSuchElementException" ∧ T''.1 m 0 = 1) ∨ (e = "java/lang/IndexOutOfBoundsException" ∧ T''.1 m 0 = 2) ∨ (e = "java/lang/IllegalStateException" ∧ T''.1 m 0 = 3) := by simpa using hmem
    rcases hm with ⟨rfl, hz⟩ | ⟨rfl, hz⟩ | ⟨rfl, hz⟩
    · have eL : f_L_move Z S x (xs9 (Int32.ofNat i + (1 : Int32)).toNatClampNeg) (xs9 (Int32.ofNat i + (2 : Int32)).toNatClampNeg) q3 = some (1, S') := by
        unfold f_L_move
        rw [m_gd_t h.ox, e1]
        exact if_pos rfl
      rw [m_lt_s, m_gd_t i1, m_lt_s, m_gd_t i2, eL, m_bw_s, m_lt_s, m_gd_t i1, m_lt_s, m_gd_t i2, m_gd_t h.M.o, e2, m_bw_s, eT, m_b1_s, hz, if_pos rfl, if_pos (show ¬ (1 : Int32) = 0 by decide), m_lt_s, show Int32.ofNat i + (6 : Int32) = Int32.ofNat (i + 6) from io_add i 6]
      exact hlp T'' hR
    · have eL : f_L_move Z S x (xs9 (Int32.ofNat i + (1 : Int32)).toNatClampNeg) (xs9 (Int32.ofNat i + (2 : Int32)).toNatClampNeg) q3 = some (2, S') := by
        unfold f_L_move
        rw [m_gd_t h.ox, e1]
        exact (if_neg (by decide)).trans (if_pos rfl)
      rw [m_lt_s, m_gd_t i1, m_lt_s, m_gd_t i2, eL, m_bw_s, m_lt_s, m_gd_t i1, m_lt_s, m_gd_t i2, m_gd_t h.M.o, e2, m_bw_s, eT, m_b1_s, hz, if_pos rfl, if_pos (show ¬ (2 : Int32) = 0 by decide), m_lt_s, show Int32.ofNat i + (6 : Int32) = Int32.ofNat (i + 6) from io_add i 6]
      exact hlp T'' hR
    · have eL : f_L_move Z S x (xs9 (Int32.ofNat i + (1 : Int32)).toNatClampNeg) (xs9 (Int32.ofNat i + (2 : Int32)).toNatClampNeg) q3 = some (3, S') := by
        unfold f_L_move
        rw [m_gd_t h.ox, e1]
        exact (if_neg (by decide)).trans ((if_neg (by decide)).trans (if_pos rfl))
      rw [m_lt_s, m_gd_t i1, m_lt_s, m_gd_t i2, eL, m_bw_s, m_lt_s, m_gd_t i1, m_lt_s, m_gd_t i2, m_gd_t h.M.o, e2, m_bw_s, eT, m_b1_s, hz, if_pos rfl, if_pos (show ¬ (3 : Int32) = 0 by decide), m_lt_s, show Int32.ofNat i + (6 : Int32) = Int32.ofNat (i + 6) from io_add i 6]
      exact hlp T'' hR
theorem q_lc_24 (j94 j96 : m_S → Option Unit) (hx : m = x + 341) (hL : i + 6 ≤ L9) (hL2 : L9 ≤ 3072) (o3 : m_okn Z q3 12 1) (o4 : m_okn Z q4 19 1) (ne3 : ¬ (x ≤ q3 ∧ q3 < x + 355)) (ne4 : ¬ (x ≤ q4 ∧ q4 < x + 355)) (hN : 30 ≤ N ∧ N < 2147483647) (h : q_Rel Z x m N pb ns nk nc S S) (hlp : ∀ S', q_Re Z x m (N + 1) S' S' → lp (Int32.ofNat (i + 6), S') = some ()) : (m_lt (Int32.ofNat i + (1 : Int32)) (fun v815 => m_gd (m_in v815 L9) (m_lt (Int32.ofNat i + (2 : Int32)) (fun v818 => m_gd (m_in v818 L9) (m_bw (f_L_exchange Z S x (xs9 v815.toNatClampNeg) (xs9 v818.toNatClampNeg) q3) (fun v822 S821 => m_lt (Int32.ofNat i + (1 : Int32)) (fun v824 => m_gd (m_in v824 L9) (m_lt (Int32.ofNat i + (2 : Int32)) (fun v827 => m_gd (m_in v827 L9) (m_gd (m_ok Z m 9) (m_bw (f_X9_exchange Z S821 m (xs9 v824.toNatClampNeg) (xs9 v827.toNatClampNeg)) (fun v833 S832 => m_b1 (f_X9_thrown Z S832 m) (fun v835 => (if v835 = v822 then (if ¬ v822 = 0 then m_lt (Int32.ofNat i + (6 : Int32)) (fun v838 => lp (v838, S832)) else m_gd (m_ok Z q3 12) (m_gd (m_in (0 : Int32) (Z.2.2 q3)) ((if (lg_cmp (S832.2.1 q3 (0 : Int32).toNatClampNeg) v833.toInt64) = 0 then m_lt (Int32.ofNat i + (6 : Int32)) (fun v843 => lp (v843, S832)) else j94 S832)))) else j96 S832)))))))))))))) = some () := by
  have i1 : m_in (Int32.ofNat i + (1 : Int32)) L9 := by
    rw [show Int32.ofNat i + (1 : Int32) = Int32.ofNat (i + 1) from io_add i 1]; exact io_in (by omega) (by omega)
  have i2 : m_in (Int32.ofNat i + (2 : Int32)) L9 := by
    rw [show Int32.ofNat i + (2 : Int32) = Int32.ofNat (i + 2) from io_add i 2]; exact io_in (by omega) (by omega)
  rcases q_stepW (fm := fun T => f_X9_exchange Z T m (xs9 (Int32.ofNat i + (1 : Int32)).toNatClampNeg) (xs9 (Int32.ofNat i + (2 : Int32)).toNatClampNeg)) hx h (fun T hT => J_exchange hT hN.2 _ _) ne3 (fun a => a.toInt64) with ⟨a, S', e1, b, T'', e2, z, o, eq, hR⟩ | ⟨e, S', e1, b, T'', e2, hmem, hR⟩
  · have i0 : m_in (0 : Int32) (Z.2.2 q3) := q_inl (wi := 0) (i := 0) rfl o3 (by omega) (by omega)
    have eL : f_L_exchange Z S x (xs9 (Int32.ofNat i + (1 : Int32)).toNatClampNeg) (xs9 (Int32.ofNat i + (2 : Int32)).toNatClampNeg) q3 = some (0, m_pJ S' q3 0 ((fun a => a.toInt64) a)) := by
      unfold f_L_exchange
      rw [m_gd_t h.ox, e1]
      exact (m_gd_t o3.1).trans (m_gd_t i0)
    have eT : f_X9_thrown Z T'' m = some (T''.1 m 0) := m_gd_t h.M.o
    have ec : lg_cmp (T''.2.1 q3 (0 : Int32).toNatClampNeg) b.toInt64 = 0 := lg_cmp0.mpr (by rw [show (0 : Int32).toNatClampNeg = 0 from rfl, o, ← eq])
    rw [m_lt_s, m_gd_t i1, m_lt_s, m_gd_t i2, eL, m_bw_s, m_lt_s, m_gd_t i1, m_lt_s, m_gd_t i2, m_gd_t h.M.o, e2, m_bw_s, eT, m_b1_s, z, if_pos z00, if_neg nz0, m_gd_t o3.1, m_gd_t i0, if_pos ec, m_lt_s, show Int32.ofNat i + (6 : Int32) = Int32.ofNat (i + 6) from io_add i 6]
    exact hlp T'' hR
  · have eT : f_X9_thrown Z T'' m = some (T''.1 m 0) := m_gd_t h.M.o
    have hm : (e = "java/util/NoSuchElementException" ∧ T''.1 m 0 = 1) ∨ (e = "java/lang/IllegalArgumentException" ∧ T''.1 m 0 = 2) := by simpa using hmem
    rcases hm with ⟨rfl, hz⟩ | ⟨rfl, hz⟩
    · have eL : f_L_exchange Z S x (xs9 (Int32.ofNat i + (1 : Int32)).toNatClampNeg) (xs9 (Int32.ofNat i + (2 : Int32)).toNatClampNeg) q3 = some (1, S') := by
        unfold f_L_exchange
        rw [m_gd_t h.ox, e1]
        exact if_pos rfl
      rw [m_lt_s, m_gd_t i1, m_lt_s, m_gd_t i2, eL, m_bw_s, m_lt_s, m_gd_t i1, m_lt_s, m_gd_t i2, m_gd_t h.M.o, e2, m_bw_s, eT, m_b1_s, hz, if_pos rfl, if_pos (show ¬ (1 : Int32) = 0 by decide), m_lt_s, show Int32.ofNat i + (6 : Int32) = Int32.ofNat (i + 6) from io_add i 6]
      exact hlp T'' hR
    · have eL : f_L_exchange Z S x (xs9 (Int32.ofNat i + (1 : Int32)).toNatClampNeg) (xs9 (Int32.ofNat i + (2 : Int32)).toNatClampNeg) q3 = some (2, S') := by
        unfold f_L_exchange
        rw [m_gd_t h.ox, e1]
        exact (if_neg (by decide)).trans (if_pos rfl)
      rw [m_lt_s, m_gd_t i1, m_lt_s, m_gd_t i2, eL, m_bw_s, m_lt_s, m_gd_t i1, m_lt_s, m_gd_t i2, m_gd_t h.M.o, e2, m_bw_s, eT, m_b1_s, hz, if_pos rfl, if_pos (show ¬ (2 : Int32) = 0 by decide), m_lt_s, show Int32.ofNat i + (6 : Int32) = Int32.ofNat (i + 6) from io_add i 6]
      exact hlp T'' hR
theorem q_lc_25 (j98 j100 : m_S → Option Unit) (hx : m = x + 341) (hL : i + 6 ≤ L9) (hL2 : L9 ≤ 3072) (o3 : m_okn Z q3 12 1) (o4 : m_okn Z q4 19 1) (ne3 : ¬ (x ≤ q3 ∧ q3 < x + 355)) (ne4 : ¬ (x ≤ q4 ∧ q4 < x + 355)) (hN : 30 ≤ N ∧ N < 2147483647) (h : q_Rel Z x m N pb ns nk nc S S) (hlp : ∀ S', q_Re Z x m (N + 1) S' S' → lp (Int32.ofNat (i + 6), S') = some ()) : (m_lt (Int32.ofNat i + (1 : Int32)) (fun v846 => m_gd (m_in v846 L9) (m_bw (f_L_advance Z S x (xs9 v846.toNatClampNeg) q3) (fun v850 S849 => m_lt (Int32.ofNat i + (1 : Int32)) (fun v852 => m_gd (m_in v852 L9) (m_gd (m_ok Z m 9) (m_bw (f_X9_advance Z S849 m (xs9 v852.toNatClampNeg)) (fun v858 S857 => m_b1 (f_X9_thrown Z S857 m) (fun v860 => (if v860 = v850 then (if ¬ v850 = 0 then m_lt (Int32.ofNat i + (6 : Int32)) (fun v863 => lp (v863, S857)) else m_gd (m_ok Z q3 12) (m_gd (m_in (0 : Int32) (Z.2.2 q3)) ((if (lg_cmp (S857.2.1 q3 (0 : Int32).toNatClampNeg) v858.toInt64) = 0 then m_lt (Int32.ofNat i + (6 : Int32)) (fun v868 => lp (v868, S857)) else j98 S857)))) else j100 S857)))))))))) = some () := by
  have i1 : m_in (Int32.ofNat i + (1 : Int32)) L9 := by
    rw [show Int32.ofNat i + (1 : Int32) = Int32.ofNat (i + 1) from io_add i 1]; exact io_in (by omega) (by omega)
  rcases q_stepW (fm := fun T => f_X9_advance Z T m (xs9 (Int32.ofNat i + (1 : Int32)).toNatClampNeg)) hx h (fun T hT => J_advance hT  _) ne3 (fun a => a.toInt64) with ⟨a, S', e1, b, T'', e2, z, o, eq, hR⟩ | ⟨e, S', e1, b, T'', e2, hmem, hR⟩
  · have i0 : m_in (0 : Int32) (Z.2.2 q3) := q_inl (wi := 0) (i := 0) rfl o3 (by omega) (by omega)
    have eL : f_L_advance Z S x (xs9 (Int32.ofNat i + (1 : Int32)).toNatClampNeg) q3 = some (0, m_pJ S' q3 0 ((fun a => a.toInt64) a)) := by
      unfold f_L_advance
      rw [m_gd_t h.ox, e1]
      exact (m_gd_t o3.1).trans (m_gd_t i0)
    have eT : f_X9_thrown Z T'' m = some (T''.1 m 0) := m_gd_t h.M.o
    have ec : lg_cmp (T''.2.1 q3 (0 : Int32).toNatClampNeg) b.toInt64 = 0 := lg_cmp0.mpr (by rw [show (0 : Int32).toNatClampNeg = 0 from rfl, o, ← eq])
    rw [m_lt_s, m_gd_t i1, eL, m_bw_s, m_lt_s, m_gd_t i1, m_gd_t h.M.o, e2, m_bw_s, eT, m_b1_s, z, if_pos z00, if_neg nz0, m_gd_t o3.1, m_gd_t i0, if_pos ec, m_lt_s, show Int32.ofNat i + (6 : Int32) = Int32.ofNat (i + 6) from io_add i 6]
    exact hlp T'' hR
  · have eT : f_X9_thrown Z T'' m = some (T''.1 m 0) := m_gd_t h.M.o
    have hm : (e = "java/lang/IllegalArgumentException" ∧ T''.1 m 0 = 1) ∨ (e = "java/lang/IllegalStateException" ∧ T''.1 m 0 = 2) := by simpa using hmem
    rcases hm with ⟨rfl, hz⟩ | ⟨rfl, hz⟩
    · have eL : f_L_advance Z S x (xs9 (Int32.ofNat i + (1 : Int32)).toNatClampNeg) q3 = some (1, S') := by
        unfold f_L_advance
        rw [m_gd_t h.ox, e1]
        exact if_pos rfl
      rw [m_lt_s, m_gd_t i1, eL, m_bw_s, m_lt_s, m_gd_t i1, m_gd_t h.M.o, e2, m_bw_s, eT, m_b1_s, hz, if_pos rfl, if_pos (show ¬ (1 : Int32) = 0 by decide), m_lt_s, show Int32.ofNat i + (6 : Int32) = Int32.ofNat (i + 6) from io_add i 6]
      exact hlp T'' hR
    · have eL : f_L_advance Z S x (xs9 (Int32.ofNat i + (1 : Int32)).toNatClampNeg) q3 = some (2, S') := by
        unfold f_L_advance
        rw [m_gd_t h.ox, e1]
        exact (if_neg (by decide)).trans (if_pos rfl)
      rw [m_lt_s, m_gd_t i1, eL, m_bw_s, m_lt_s, m_gd_t i1, m_gd_t h.M.o, e2, m_bw_s, eT, m_b1_s, hz, if_pos rfl, if_pos (show ¬ (2 : Int32) = 0 by decide), m_lt_s, show Int32.ofNat i + (6 : Int32) = Int32.ofNat (i + 6) from io_add i 6]
      exact hlp T'' hR
theorem q_lc_26 (j102 j104 : m_S → Option Unit) (hx : m = x + 341) (hL : i + 6 ≤ L9) (hL2 : L9 ≤ 3072) (o3 : m_okn Z q3 12 1) (o4 : m_okn Z q4 19 1) (ne3 : ¬ (x ≤ q3 ∧ q3 < x + 355)) (ne4 : ¬ (x ≤ q4 ∧ q4 < x + 355)) (hN : 30 ≤ N ∧ N < 2147483647) (h : q_Rel Z x m N pb ns nk nc S S) (hlp : ∀ S', q_Re Z x m (N + 1) S' S' → lp (Int32.ofNat (i + 6), S') = some ()) : (m_lt (Int32.ofNat i + (1 : Int32)) (fun v871 => m_gd (m_in v871 L9) (m_bw (f_L_roomIn Z S x (xs9 v871.toNatClampNeg) q3) (fun v875 S874 => m_lt (Int32.ofNat i + (1 : Int32)) (fun v877 => m_gd (m_in v877 L9) (m_gd (m_ok Z m 9) (m_bw (f_X9_roomIn Z S874 m (xs9 v877.toNatClampNeg)) (fun v883 S882 => m_b1 (f_X9_thrown Z S882 m) (fun v885 => (if v885 = v875 then (if ¬ v875 = 0 then m_lt (Int32.ofNat i + (6 : Int32)) (fun v888 => lp (v888, S882)) else m_gd (m_ok Z q3 12) (m_gd (m_in (0 : Int32) (Z.2.2 q3)) ((if (lg_cmp (S882.2.1 q3 (0 : Int32).toNatClampNeg) v883.toInt64) = 0 then m_lt (Int32.ofNat i + (6 : Int32)) (fun v893 => lp (v893, S882)) else j102 S882)))) else j104 S882)))))))))) = some () := by
  have i1 : m_in (Int32.ofNat i + (1 : Int32)) L9 := by
    rw [show Int32.ofNat i + (1 : Int32) = Int32.ofNat (i + 1) from io_add i 1]; exact io_in (by omega) (by omega)
  rcases q_stepW (fm := fun T => f_X9_roomIn Z T m (xs9 (Int32.ofNat i + (1 : Int32)).toNatClampNeg)) hx h (fun T hT => J_roomIn hT  _) ne3 (fun a => a.toInt64) with ⟨a, S', e1, b, T'', e2, z, o, eq, hR⟩ | ⟨e, S', e1, b, T'', e2, hmem, hR⟩
  · have i0 : m_in (0 : Int32) (Z.2.2 q3) := q_inl (wi := 0) (i := 0) rfl o3 (by omega) (by omega)
    have eL : f_L_roomIn Z S x (xs9 (Int32.ofNat i + (1 : Int32)).toNatClampNeg) q3 = some (0, m_pJ S' q3 0 ((fun a => a.toInt64) a)) := by
      unfold f_L_roomIn
      rw [m_gd_t h.ox, e1]
      exact (m_gd_t o3.1).trans (m_gd_t i0)
    have eT : f_X9_thrown Z T'' m = some (T''.1 m 0) := m_gd_t h.M.o
    have ec : lg_cmp (T''.2.1 q3 (0 : Int32).toNatClampNeg) b.toInt64 = 0 := lg_cmp0.mpr (by rw [show (0 : Int32).toNatClampNeg = 0 from rfl, o, ← eq])
    rw [m_lt_s, m_gd_t i1, eL, m_bw_s, m_lt_s, m_gd_t i1, m_gd_t h.M.o, e2, m_bw_s, eT, m_b1_s, z, if_pos z00, if_neg nz0, m_gd_t o3.1, m_gd_t i0, if_pos ec, m_lt_s, show Int32.ofNat i + (6 : Int32) = Int32.ofNat (i + 6) from io_add i 6]
    exact hlp T'' hR
  · have eT : f_X9_thrown Z T'' m = some (T''.1 m 0) := m_gd_t h.M.o
    have hm : (e = "java/lang/IllegalArgumentException" ∧ T''.1 m 0 = 1) := by simpa using hmem
    rcases hm with ⟨rfl, hz⟩
    · have eL : f_L_roomIn Z S x (xs9 (Int32.ofNat i + (1 : Int32)).toNatClampNeg) q3 = some (1, S') := by
        unfold f_L_roomIn
        rw [m_gd_t h.ox, e1]
        exact if_pos rfl
      rw [m_lt_s, m_gd_t i1, eL, m_bw_s, m_lt_s, m_gd_t i1, m_gd_t h.M.o, e2, m_bw_s, eT, m_b1_s, hz, if_pos rfl, if_pos (show ¬ (1 : Int32) = 0 by decide), m_lt_s, show Int32.ofNat i + (6 : Int32) = Int32.ofNat (i + 6) from io_add i 6]
      exact hlp T'' hR
end CASES2
