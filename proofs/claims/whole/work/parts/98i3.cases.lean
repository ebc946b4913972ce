section CASES3
variable {Z : m_Z} {x m q3 q4 L9 i N pb ns nk nc : Nat} {xs9 : Nat → Int32} {S : m_S} {lp : Int32 × m_S → Option Unit}
theorem q_lc_27 (j106 j108 : m_S → Option Unit) (hx : m = x + 341) (hL : i + 6 ≤ L9) (hL2 : L9 ≤ 3072) (o3 : m_okn Z q3 12 1) (o4 : m_okn Z q4 19 1) (ne3 : ¬ (x ≤ q3 ∧ q3 < x + 355)) (ne4 : ¬ (x ≤ q4 ∧ q4 < x + 355)) (hN : 30 ≤ N ∧ N < 2147483647) (h : q_Rel Z x m N pb ns nk nc S S) (hlp : ∀ S', q_Re Z x m (N + 1) S' S' → lp (Int32.ofNat (i + 6), S') = some ()) : (m_lt (Int32.ofNat i + (1 : Int32)) (fun v896 => m_gd (m_in v896 L9) (m_lt (Int32.ofNat i + (2 : Int32)) (fun v899 => m_gd (m_in v899 L9) (m_bw (f_L_humidityIn Z S x (xs9 v896.toNatClampNeg) (xs9 v899.toNatClampNeg) q3) (fun v903 S902 => m_lt (Int32.ofNat i + (1 : Int32)) (fun v905 => m_gd (m_in v905 L9) (m_lt (Int32.ofNat i + (2 : Int32)) (fun v908 => m_gd (m_in v908 L9) (m_gd (m_ok Z m 9) (m_bw (f_X9_humidityIn Z S902 m (xs9 v905.toNatClampNeg) (xs9 v908.toNatClampNeg)) (fun v914 S913 => m_b1 (f_X9_thrown Z S913 m) (fun v916 => (if v916 = v903 then (if ¬ v903 = 0 then m_lt (Int32.ofNat i + (6 : Int32)) (fun v919 => lp (v919, S913)) else m_gd (m_ok Z q3 12) (m_gd (m_in (0 : Int32) (Z.2.2 q3)) ((if (lg_cmp (S913.2.1 q3 (0 : Int32).toNatClampNeg) v914.toInt64) = 0 then m_lt (Int32.ofNat i + (6 : Int32)) (fun v924 => lp (v924, S913)) else j106 S913)))) else j108 S913)))))))))))))) = some () := by
  have i1 : m_in (Int32.ofNat i + (1 : Int32)) L9 := by
    rw [show Int32.ofNat i + (1 : Int32) = Int32.ofNat (i + 1) from io_add i 1]; exact io_in (by omega) (by omega)
  have i2 : m_in (Int32.ofNat i + (2 : Int32)) L9 := by
    rw [show Int32.ofNat i + (2 : Int32) = Int32.ofNat (i + 2) from io_add i 2]; exact io_in (by omega) (by omega)
  rcases q_stepW (fm := fun T => f_X9_humidityIn Z T m (xs9 (Int32.ofNat i + (1 : Int32)).toNatClampNeg) (xs9 (Int32.ofNat i + (2 : Int32)).toNatClampNeg)) hx h (fun T hT => J_humidityIn hT  _ _) ne3 (fun a => a.toInt64) with ⟨a, S', e1, b, T'', e2, z, o, eq, hR⟩ | ⟨e, S', e1, b, T'', e2, hmem, hR⟩
  · have i0 : m_in (0 : Int32) (Z.2.2 q3) := q_inl (wi := 0) (i := 0) rfl o3 (by omega) (by omega)
    have eL : f_L_humidityIn Z S x (xs9 (Int32.ofNat i + (1 : Int32)).toNatClampNeg) (xs9 (Int32.ofNat i + (2 : Int32)).toNatClampNeg) q3 = some (0, m_pJ S' q3 0 ((fun a => a.toInt64) a)) := by
      unfold f_L_humidityIn
      rw [m_gd_t h.ox, e1]
      exact (m_gd_t o3.1).trans (m_gd_t i0)
    have eT : f_X9_thrown Z T'' m = some (T''.1 m 0) := m_gd_t h.M.o
    have ec : lg_cmp (T''.2.1 q3 (0 : Int32).toNatClampNeg) b.toInt64 = 0 := lg_cmp0.mpr (by rw [show (0 : Int32).toNatClampNeg = 0 from rfl, o, ← eq])
    rw [m_lt_s, m_gd_t i1, m_lt_s, m_gd_t i2, eL, m_bw_s, m_lt_s, m_gd_t i1, m_lt_s, m_gd_t i2, m_gd_t h.M.o, e2, m_bw_s, eT, m_b1_s, z, if_pos z00, if_neg nz0, m_gd_t o3.1, m_gd_t i0, if_pos ec, m_lt_s, show Int32.ofNat i + (6 : Int32) = Int32.ofNat (i + 6) from io_add i 6]
    exact hlp T'' hR
  · have eT : f_X9_thrown Z T'' m = some (T''.1 m 0) := m_gd_t h.M.o
    have hm : (e = "java/lang/IndexOutOfBoundsException" ∧ T''.1 m 0 = 1) ∨ (e = "java/lang/IllegalArgumentException" ∧ T''.1 m 0 = 2) := by simpa using hmem
    rcases hm with ⟨rfl, hz⟩ | ⟨rfl, hz⟩
    · have eL : f_L_humidityIn Z S x (xs9 (Int32.ofNat i + (1 : Int32)).toNatClampNeg) (xs9 (Int32.ofNat i + (2 : Int32)).toNatClampNeg) q3 = some (1, S') := by
        unfold f_L_humidityIn
        rw [m_gd_t h.ox, e1]
        exact if_pos rfl
      rw [m_lt_s, m_gd_t i1, m_lt_s, m_gd_t i2, eL, m_bw_s, m_lt_s, m_gd_t i1, m_lt_s, m_gd_t i2, m_gd_t h.M.o, e2, m_bw_s, eT, m_b1_s, hz, if_pos rfl, if_pos (show ¬ (1 : Int32) = 0 by decide), m_lt_s, show Int32.ofNat i + (6 : Int32) = Int32.ofNat (i + 6) from io_add i 6]
      exact hlp T'' hR
    · have eL : f_L_humidityIn Z S x (xs9 (Int32.ofNat i + (1 : Int32)).toNatClampNeg) (xs9 (Int32.ofNat i + (2 : Int32)).toNatClampNeg) q3 = some (2, S') := by
        unfold f_L_humidityIn
        rw [m_gd_t h.ox, e1]
        exact (if_neg (by decide)).trans (if_pos rfl)
      rw [m_lt_s, m_gd_t i1, m_lt_s, m_gd_t i2, eL, m_bw_s, m_lt_s, m_gd_t i1, m_lt_s, m_gd_t i2, m_gd_t h.M.o, e2, m_bw_s, eT, m_b1_s, hz, if_pos rfl, if_pos (show ¬ (2 : Int32) = 0 by decide), m_lt_s, show Int32.ofNat i + (6 : Int32) = Int32.ofNat (i + 6) from io_add i 6]
      exact hlp T'' hR
theorem q_lc_28 (j110 j112 : m_S → Option Unit) (hx : m = x + 341) (hL : i + 6 ≤ L9) (hL2 : L9 ≤ 3072) (o3 : m_okn Z q3 12 1) (o4 : m_okn Z q4 19 1) (ne3 : ¬ (x ≤ q3 ∧ q3 < x + 355)) (ne4 : ¬ (x ≤ q4 ∧ q4 < x + 355)) (hN : 30 ≤ N ∧ N < 2147483647) (h : q_Rel Z x m N pb ns nk nc S S) (hlp : ∀ S', q_Re Z x m (N + 1) S' S' → lp (Int32.ofNat (i + 6), S') = some ()) : (m_lt (Int32.ofNat i + (1 : Int32)) (fun v927 => m_gd (m_in v927 L9) (m_bw (f_L_unsafeIn Z S x (xs9 v927.toNatClampNeg) q3) (fun v931 S930 => m_lt (Int32.ofNat i + (1 : Int32)) (fun v933 => m_gd (m_in v933 L9) (m_gd (m_ok Z m 9) (m_bw (f_X9_unsafeIn Z S930 m (xs9 v933.toNatClampNeg)) (fun v939 S938 => m_b1 (f_X9_thrown Z S938 m) (fun v941 => (if v941 = v931 then (if ¬ v931 = 0 then m_lt (Int32.ofNat i + (6 : Int32)) (fun v944 => lp (v944, S938)) else m_gd (m_ok Z q3 12) (m_gd (m_in (0 : Int32) (Z.2.2 q3)) ((if (lg_cmp (S938.2.1 q3 (0 : Int32).toNatClampNeg) v939.toInt64) = 0 then m_lt (Int32.ofNat i + (6 : Int32)) (fun v949 => lp (v949, S938)) else j110 S938)))) else j112 S938)))))))))) = some () := by
  have i1 : m_in (Int32.ofNat i + (1 : Int32)) L9 := by
    rw [show Int32.ofNat i + (1 : Int32) = Int32.ofNat (i + 1) from io_add i 1]; exact io_in (by omega) (by omega)
  rcases q_stepW (fm := fun T => f_X9_unsafeIn Z T m (xs9 (Int32.ofNat i + (1 : Int32)).toNatClampNeg)) hx h (fun T hT => J_unsafeIn hT  _) ne3 (fun a => a.toInt64) with ⟨a, S', e1, b, T'', e2, z, o, eq, hR⟩ | ⟨e, S', e1, b, T'', e2, hmem, hR⟩
  · have i0 : m_in (0 : Int32) (Z.2.2 q3) := q_inl (wi := 0) (i := 0) rfl o3 (by omega) (by omega)
    have eL : f_L_unsafeIn Z S x (xs9 (Int32.ofNat i + (1 : Int32)).toNatClampNeg) q3 = some (0, m_pJ S' q3 0 ((fun a => a.toInt64) a)) := by
      unfold f_L_unsafeIn
      rw [m_gd_t h.ox, e1]
      exact (m_gd_t o3.1).trans (m_gd_t i0)
    have eT : f_X9_thrown Z T'' m = some (T''.1 m 0) := m_gd_t h.M.o
    have ec : lg_cmp (T''.2.1 q3 (0 : Int32).toNatClampNeg) b.toInt64 = 0 := lg_cmp0.mpr (by rw [show (0 : Int32).toNatClampNeg = 0 from rfl, o, ← eq])
    rw [m_lt_s, m_gd_t i1, eL, m_bw_s, m_lt_s, m_gd_t i1, m_gd_t h.M.o, e2, m_bw_s, eT, m_b1_s, z, if_pos z00, if_neg nz0, m_gd_t o3.1, m_gd_t i0, if_pos ec, m_lt_s, show Int32.ofNat i + (6 : Int32) = Int32.ofNat (i + 6) from io_add i 6]
    exact hlp T'' hR
  · have eT : f_X9_thrown Z T'' m = some (T''.1 m 0) := m_gd_t h.M.o
    have hm : (e = "java/lang/IndexOutOfBoundsException" ∧ T''.1 m 0 = 1) := by simpa using hmem
    rcases hm with ⟨rfl, hz⟩
    · have eL : f_L_unsafeIn Z S x (xs9 (Int32.ofNat i + (1 : Int32)).toNatClampNeg) q3 = some (1, S') := by
        unfold f_L_unsafeIn
        rw [m_gd_t h.ox, e1]
        exact if_pos rfl
      rw [m_lt_s, m_gd_t i1, eL, m_bw_s, m_lt_s, m_gd_t i1, m_gd_t h.M.o, e2, m_bw_s, eT, m_b1_s, hz, if_pos rfl, if_pos (show ¬ (1 : Int32) = 0 by decide), m_lt_s, show Int32.ofNat i + (6 : Int32) = Int32.ofNat (i + 6) from io_add i 6]
      exact hlp T'' hR
theorem q_lc_29 (j114 j116 : m_S → Option Unit) (hx : m = x + 341) (hL : i + 6 ≤ L9) (hL2 : L9 ≤ 3072) (o3 : m_okn Z q3 12 1) (o4 : m_okn Z q4 19 1) (ne3 : ¬ (x ≤ q3 ∧ q3 < x + 355)) (ne4 : ¬ (x ≤ q4 ∧ q4 < x + 355)) (hN : 30 ≤ N ∧ N < 2147483647) (h : q_Rel Z x m N pb ns nk nc S S) (hlp : ∀ S', q_Re Z x m (N + 1) S' S' → lp (Int32.ofNat (i + 6), S') = some ()) : (m_lt (Int32.ofNat i + (1 : Int32)) (fun v952 => m_gd (m_in v952 L9) (m_bw (f_L_restOf Z S x (xs9 v952.toNatClampNeg) q3) (fun v956 S955 => m_lt (Int32.ofNat i + (1 : Int32)) (fun v958 => m_gd (m_in v958 L9) (m_gd (m_ok Z m 9) (m_bw (f_X9_restOf Z S955 m (xs9 v958.toNatClampNeg)) (fun v964 S963 => m_b1 (f_X9_thrown Z S963 m) (fun v966 => (if v966 = v956 then (if ¬ v956 = 0 then m_lt (Int32.ofNat i + (6 : Int32)) (fun v969 => lp (v969, S963)) else m_gd (m_ok Z q3 12) (m_gd (m_in (0 : Int32) (Z.2.2 q3)) ((if (lg_cmp (S963.2.1 q3 (0 : Int32).toNatClampNeg) v964.toInt64) = 0 then m_lt (Int32.ofNat i + (6 : Int32)) (fun v974 => lp (v974, S963)) else j114 S963)))) else j116 S963)))))))))) = some () := by
  have i1 : m_in (Int32.ofNat i + (1 : Int32)) L9 := by
    rw [show Int32.ofNat i + (1 : Int32) = Int32.ofNat (i + 1) from io_add i 1]; exact io_in (by omega) (by omega)
  rcases q_stepR (fm := fun T => f_X9_restOf Z T m (xs9 (Int32.ofNat i + (1 : Int32)).toNatClampNeg)) hx h (fun T hT => J_restOf hT  _) ne3 (fun a => a.toInt64) with ⟨a, e1, b, T'', e2, z, o, eq, hR⟩ | ⟨e, e1, b, T'', e2, hmem, hR⟩
  · have i0 : m_in (0 : Int32) (Z.2.2 q3) := q_inl (wi := 0) (i := 0) rfl o3 (by omega) (by omega)
    have eL : f_L_restOf Z S x (xs9 (Int32.ofNat i + (1 : Int32)).toNatClampNeg) q3 = some (0, m_pJ S q3 0 ((fun a => a.toInt64) a)) := by
      unfold f_L_restOf
      rw [m_gd_t h.ox, e1]
      exact (m_gd_t o3.1).trans (m_gd_t i0)
    have eT : f_X9_thrown Z T'' m = some (T''.1 m 0) := m_gd_t h.M.o
    have ec : lg_cmp (T''.2.1 q3 (0 : Int32).toNatClampNeg) b.toInt64 = 0 := lg_cmp0.mpr (by rw [show (0 : Int32).toNatClampNeg = 0 from rfl, o, ← eq])
    rw [m_lt_s, m_gd_t i1, eL, m_bw_s, m_lt_s, m_gd_t i1, m_gd_t h.M.o, e2, m_bw_s, eT, m_b1_s, z, if_pos z00, if_neg nz0, m_gd_t o3.1, m_gd_t i0, if_pos ec, m_lt_s, show Int32.ofNat i + (6 : Int32) = Int32.ofNat (i + 6) from io_add i 6]
    exact hlp T'' hR
  · have eT : f_X9_thrown Z T'' m = some (T''.1 m 0) := m_gd_t h.M.o
    have hm : (e = "java/lang/IndexOutOfBoundsException" ∧ T''.1 m 0 = 1) ∨ (e = "java/util/NoSuchElementException" ∧ T''.1 m 0 = 2) := by simpa using hmem
    rcases hm with ⟨rfl, hz⟩ | ⟨rfl, hz⟩
    · have eL : f_L_restOf Z S x (xs9 (Int32.ofNat i + (1 : Int32)).toNatClampNeg) q3 = some (1, S) := by
        unfold f_L_restOf
        rw [m_gd_t h.ox, e1]
        exact if_pos rfl
      rw [m_lt_s, m_gd_t i1, eL, m_bw_s, m_lt_s, m_gd_t i1, m_gd_t h.M.o, e2, m_bw_s, eT, m_b1_s, hz, if_pos rfl, if_pos (show ¬ (1 : Int32) = 0 by decide), m_lt_s, show Int32.ofNat i + (6 : Int32) = Int32.ofNat (i + 6) from io_add i 6]
      exact hlp T'' hR
    · have eL : f_L_restOf Z S x (xs9 (Int32.ofNat i + (1 : Int32)).toNatClampNeg) q3 = some (2, S) := by
        unfold f_L_restOf
        rw [m_gd_t h.ox, e1]
        exact (if_neg (by decide)).trans (if_pos rfl)
      rw [m_lt_s, m_gd_t i1, eL, m_bw_s, m_lt_s, m_gd_t i1, m_gd_t h.M.o, e2, m_bw_s, eT, m_b1_s, hz, if_pos rfl, if_pos (show ¬ (2 : Int32) = 0 by decide), m_lt_s, show Int32.ofNat i + (6 : Int32) = Int32.ofNat (i + 6) from io_add i 6]
      exact hlp T'' hR
theorem q_lc_30 (j118 j120 : m_S → Option Unit) (hx : m = x + 341) (hL : i + 6 ≤ L9) (hL2 : L9 ≤ 3072) (o3 : m_okn Z q3 12 1) (o4 : m_okn Z q4 19 1) (ne3 : ¬ (x ≤ q3 ∧ q3 < x + 355)) (ne4 : ¬ (x ≤ q4 ∧ q4 < x + 355)) (hN : 30 ≤ N ∧ N < 2147483647) (h : q_Rel Z x m N pb ns nk nc S S) (hlp : ∀ S', q_Re Z x m (N + 1) S' S' → lp (Int32.ofNat (i + 6), S') = some ()) : (m_lt (Int32.ofNat i + (1 : Int32)) (fun v977 => m_gd (m_in v977 L9) (m_lt (Int32.ofNat i + (2 : Int32)) (fun v980 => m_gd (m_in v980 L9) (m_lt (Int32.ofNat i + (3 : Int32)) (fun v983 => m_gd (m_in v983 L9) (m_lt (Int32.ofNat i + (4 : Int32)) (fun v986 => m_gd (m_in v986 L9) (m_bw (f_L_massFor Z S x (xs9 v977.toNatClampNeg) (xs9 v980.toNatClampNeg) (xs9 v983.toNatClampNeg) (xs9 v986.toNatClampNeg) q3) (fun v990 S989 => m_lt (Int32.ofNat i + (1 : Int32)) (fun v992 => m_gd (m_in v992 L9) (m_lt (Int32.ofNat i + (2 : Int32)) (fun v995 => m_gd (m_in v995 L9) (m_lt (Int32.ofNat i + (3 : Int32)) (fun v998 => m_gd (m_in v998 L9) (m_lt (Int32.ofNat i + (4 : Int32)) (fun v1001 => m_gd (m_in v1001 L9) (m_gd (m_ok Z m 9) (m_bw (f_X9_massFor Z S989 m (xs9 v992.toNatClampNeg) (xs9 v995.toNatClampNeg) (xs9 v998.toNatClampNeg) (xs9 v1001.toNatClampNeg)) (fun v1007 S1006 => m_b1 (f_X9_thrown Z S1006 m) (fun v1009 => (if v1009 = v990 then (if ¬ v990 = 0 then m_lt (Int32.ofNat i + (6 : Int32)) (fun v1012 => lp (v1012, S1006)) else m_gd (m_ok Z q3 12) (m_gd (m_in (0 : Int32) (Z.2.2 q3)) ((if (lg_cmp (S1006.2.1 q3 (0 : Int32).toNatClampNeg) v1007.toInt64) = 0 then m_lt (Int32.ofNat i + (6 : Int32)) (fun v1017 => lp (v1017, S1006)) else j118 S1006)))) else j120 S1006)))))))))))))))))))))) = some () := by
  have i1 : m_in (Int32.ofNat i + (1 : Int32)) L9 := by
    rw [show Int32.ofNat i + (1 : Int32) = Int32.ofNat (i + 1) from io_add i 1]; exact io_in (by omega) (by omega)
  have i2 : m_in (Int32.ofNat i + (2 : Int32)) L9 := by
    rw [show Int32.ofNat i + (2 : Int32) = Int32.ofNat (i + 2) from io_add i 2]; exact io_in (by omega) (by omega)
  have i3 : m_in (Int32.ofNat i + (3 : Int32)) L9 := by
    rw [show Int32.ofNat i + (3 : Int32) = Int32.ofNat (i + 3) from io_add i 3]; exact io_in (by omega) (by omega)
  have i4 : m_in (Int32.ofNat i + (4 : Int32)) L9 := by
    rw [show Int32.ofNat i + (4 : Int32) = Int32.ofNat (i + 4) from io_add i 4]; exact io_in (by omega) (by omega)
  rcases q_stepW (fm := fun T => f_X9_massFor Z T m (xs9 (Int32.ofNat i + (1 : Int32)).toNatClampNeg) (xs9 (Int32.ofNat i + (2 : Int32)).toNatClampNeg) (xs9 (Int32.ofNat i + (3 : Int32)).toNatClampNeg) (xs9 (Int32.ofNat i + (4 : Int32)).toNatClampNeg)) hx h (fun T hT => J_massFor hT  _ _ _ _) ne3 (fun a => a.toInt64) with ⟨a, S', e1, b, T'', e2, z, o, eq, hR⟩ | ⟨e, S', e1, b, T'', e2, hmem, hR⟩
  · have i0 : m_in (0 : Int32) (Z.2.2 q3) := q_inl (wi := 0) (i := 0) rfl o3 (by omega) (by omega)
    have eL : f_L_massFor Z S x (xs9 (Int32.ofNat i + (1 : Int32)).toNatClampNeg) (xs9 (Int32.ofNat i + (2 : Int32)).toNatClampNeg) (xs9 (Int32.ofNat i + (3 : Int32)).toNatClampNeg) (xs9 (Int32.ofNat i + (4 : Int32)).toNatClampNeg) q3 = some (0, m_pJ S' q3 0 ((fun a => a.toInt64) a)) := by
      unfold f_L_massFor
      rw [m_gd_t h.ox, e1]
      exact (m_gd_t o3.1).trans (m_gd_t i0)
    have eT : f_X9_thrown Z T'' m = some (T''.1 m 0) := m_gd_t h.M.o
    have ec : lg_cmp (T''.2.1 q3 (0 : Int32).toNatClampNeg) b.toInt64 = 0 := lg_cmp0.mpr (by rw [show (0 : Int32).toNatClampNeg = 0 from rfl, o, ← eq])
    rw [m_lt_s, m_gd_t i1, m_lt_s, m_gd_t i2, m_lt_s, m_gd_t i3, m_lt_s, m_gd_t i4, eL, m_bw_s, m_lt_s, m_gd_t i1, m_lt_s, m_gd_t i2, m_lt_s, m_gd_t i3, m_lt_s, m_gd_t i4, m_gd_t h.M.o, e2, m_bw_s, eT, m_b1_s, z, if_pos z00, if_neg nz0, m_gd_t o3.1, m_gd_t i0, if_pos ec, m_lt_s, show Int32.ofNat i + (6 : Int32) = Int32.ofNat (i + 6) from io_add i 6]
    exact hlp T'' hR
  · have eT : f_X9_thrown Z T'' m = some (T''.1 m 0) := m_gd_t h.M.o
    have hm : (e = "java/lang/IndexOutOfBoundsException" ∧ T''.1 m 0 = 1) ∨ (e = "java/lang/IllegalArgumentException" ∧ T''.1 m 0 = 2) ∨ (e = "java/util/NoSuchElementException" ∧ T''.1 m 0 = 3) := by simpa using hmem
    rcases hm with ⟨rfl, hz⟩ | ⟨rfl, hz⟩ | ⟨rfl, hz⟩
    · have eL : f_L_massFor Z S x (xs9 (Int32.ofNat i + (1 : Int32)).toNatClampNeg) (xs9 (Int32.ofNat i + (2 : Int32)).toNatClampNeg) (xs9 (Int32.ofNat i + (3 : Int32)).toNatClampNeg) (xs9 (Int32.ofNat i + (4 : Int32)).toNatClampNeg) q3 = some (1, S') := by
        unfold f_L_massFor
        rw [m_gd_t h.ox, e1]
        exact if_pos rfl
      rw [m_lt_s, m_gd_t i1, m_lt_s, m_gd_t i2, m_lt_s, m_gd_t i3, m_lt_s, m_gd_t i4, eL, m_bw_s, m_lt_s, m_gd_t i1, m_lt_s, m_gd_t i2, m_lt_s, m_gd_t i3, m_lt_s, m_gd_t i4, m_gd_t h.M.o, e2, m_bw_s, eT, m_b1_s, hz, if_pos rfl, if_pos (show ¬ (1 : Int32) = 0 by decide), m_lt_s, show Int32.ofNat i + (6 : Int32) = Int32.ofNat (i + 6) from io_add i 6]
      exact hlp T'' hR
    · have eL : f_L_massFor Z S x (xs9 (Int32.ofNat i + (1 : Int32)).toNatClampNeg) (xs9 (Int32.ofNat i + (2 : Int32)).toNatClampNeg) (xs9 (Int32.ofNat i + (3 : Int32)).toNatClampNeg) (xs9 (Int32.ofNat i + (4 : Int32)).toNatClampNeg) q3 = some (2, S') := by
        unfold f_L_massFor
        rw [m_gd_t h.ox, e1]
        exact (if_neg (by decide)).trans (if_pos rfl)
      rw [m_lt_s, m_gd_t i1, m_lt_s, m_gd_t i2, m_lt_s, m_gd_t i3, m_lt_s, m_gd_t i4, eL, m_bw_s, m_lt_s, m_gd_t i1, m_lt_s, m_gd_t i2, m_lt_s, m_gd_t i3, m_lt_s, m_gd_t i4, m_gd_t h.M.o, e2, m_bw_s, eT, m_b1_s, hz, if_pos rfl, if_pos (show ¬ (2 : Int32) = 0 by decide), m_lt_s, show Int32.ofNat i + (6 : Int32) = Int32.ofNat (i + 6) from io_add i 6]
      exact hlp T'' hR
    · have eL : f_L_massFor Z S x (xs9 (Int32.ofNat i + (1 : Int32)).toNatClampNeg) (xs9 (Int32.ofNat i + (2 : Int32)).toNatClampNeg) (xs9 (Int32.ofNat i + (3 : Int32)).toNatClampNeg) (xs9 (Int32.ofNat i + (4 : Int32)).toNatClampNeg) q3 = some (3, S') := by
        unfold f_L_massFor
        rw [m_gd_t h.ox, e1]
        exact (if_neg (by decide)).trans ((if_neg (by decide)).trans (if_pos rfl))
      rw [m_lt_s, m_gd_t i1, m_lt_s, m_gd_t i2, m_lt_s, m_gd_t i3, m_lt_s, m_gd_t i4, eL, m_bw_s, m_lt_s, m_gd_t i1, m_lt_s, m_gd_t i2, m_lt_s, m_gd_t i3, m_lt_s, m_gd_t i4, m_gd_t h.M.o, e2, m_bw_s, eT, m_b1_s, hz, if_pos rfl, if_pos (show ¬ (3 : Int32) = 0 by decide), m_lt_s, show Int32.ofNat i + (6 : Int32) = Int32.ofNat (i + 6) from io_add i 6]
      exact hlp T'' hR
theorem q_lc_31 (j122 j124 : m_S → Option Unit) (hx : m = x + 341) (hL : i + 6 ≤ L9) (hL2 : L9 ≤ 3072) (o3 : m_okn Z q3 12 1) (o4 : m_okn Z q4 19 1) (ne3 : ¬ (x ≤ q3 ∧ q3 < x + 355)) (ne4 : ¬ (x ≤ q4 ∧ q4 < x + 355)) (hN : 30 ≤ N ∧ N < 2147483647) (h : q_Rel Z x m N pb ns nk nc S S) (hlp : ∀ S', q_Re Z x m (N + 1) S' S' → lp (Int32.ofNat (i + 6), S') = some ()) : (m_lt (Int32.ofNat i + (1 : Int32)) (fun v1020 => m_gd (m_in v1020 L9) (m_lt (Int32.ofNat i + (2 : Int32)) (fun v1023 => m_gd (m_in v1023 L9) (m_bw (f_L_bestFor Z S x (xs9 v1020.toNatClampNeg) (xs9 v1023.toNatClampNeg) q3) (fun v1027 S1026 => m_lt (Int32.ofNat i + (1 : Int32)) (fun v1029 => m_gd (m_in v1029 L9) (m_lt (Int32.ofNat i + (2 : Int32)) (fun v1032 => m_gd (m_in v1032 L9) (m_gd (m_ok Z m 9) (m_bw (f_X9_bestFor Z S1026 m (xs9 v1029.toNatClampNeg) (xs9 v1032.toNatClampNeg)) (fun v1038 S1037 => m_b1 (f_X9_thrown Z S1037 m) (fun v1040 => (if v1040 = v1027 then (if ¬ v1027 = 0 then m_lt (Int32.ofNat i + (6 : Int32)) (fun v1043 => lp (v1043, S1037)) else m_gd (m_ok Z q3 12) (m_gd (m_in (0 : Int32) (Z.2.2 q3)) ((if (lg_cmp (S1037.2.1 q3 (0 : Int32).toNatClampNeg) v1038.toInt64) = 0 then m_lt (Int32.ofNat i + (6 : Int32)) (fun v1048 => lp (v1048, S1037)) else j122 S1037)))) else j124 S1037)))))))))))))) = some () := by
  have i1 : m_in (Int32.ofNat i + (1 : Int32)) L9 := by
    rw [show Int32.ofNat i + (1 : Int32) = Int32.ofNat (i + 1) from io_add i 1]; exact io_in (by omega) (by omega)
  have i2 : m_in (Int32.ofNat i + (2 : Int32)) L9 := by
    rw [show Int32.ofNat i + (2 : Int32) = Int32.ofNat (i + 2) from io_add i 2]; exact io_in (by omega) (by omega)
  rcases q_stepW (fm := fun T => f_X9_bestFor Z T m (xs9 (Int32.ofNat i + (1 : Int32)).toNatClampNeg) (xs9 (Int32.ofNat i + (2 : Int32)).toNatClampNeg)) hx h (fun T hT => J_bestFor hT  _ _) ne3 (fun a => a.toInt64) with ⟨a, S', e1, b, T'', e2, z, o, eq, hR⟩ | ⟨e, S', e1, b, T'', e2, hmem, hR⟩
  · have i0 : m_in (0 : Int32) (Z.2.2 q3) := q_inl (wi := 0) (i := 0) rfl o3 (by omega) (by omega)
    have eL : f_L_bestFor Z S x (xs9 (Int32.ofNat i + (1 : Int32)).toNatClampNeg) (xs9 (Int32.ofNat i + (2 : Int32)).toNatClampNeg) q3 = some (0, m_pJ S' q3 0 ((fun a => a.toInt64) a)) := by
      unfold f_L_bestFor
      rw [m_gd_t h.ox, e1]
      exact (m_gd_t o3.1).trans (m_gd_t i0)
    have eT : f_X9_thrown Z T'' m = some (T''.1 m 0) := m_gd_t h.M.o
    have ec : lg_cmp (T''.2.1 q3 (0 : Int32).toNatClampNeg) b.toInt64 = 0 := lg_cmp0.mpr (by rw [show (0 : Int32).toNatClampNeg = 0 from rfl, o, ← eq])
    rw [m_lt_s, m_gd_t i1, m_lt_s, m_gd_t i2, eL, m_bw_s, m_lt_s, m_gd_t i1, m_lt_s, m_gd_t i2, m_gd_t h.M.o, e2, m_bw_s, eT, m_b1_s, z, if_pos z00, if_neg nz0, m_gd_t o3.1, m_gd_t i0, if_pos ec, m_lt_s, show Int32.ofNat i + (6 : Int32) = Int32.ofNat (i + 6) from io_add i 6]
    exact hlp T'' hR
  · have eT : f_X9_thrown Z T'' m = some (T''.1 m 0) := m_gd_t h.M.o
    have hm : (e = "java/util/NoSuchElementException" ∧ T''.1 m 0 = 1) ∨ (e = "java/lang/IllegalArgumentException" ∧ T''.1 m 0 = 2) := by simpa using hmem
    rcases hm with ⟨rfl, hz⟩ | ⟨rfl, hz⟩
    · have eL : f_L_bestFor Z S x (xs9 (Int32.ofNat i + (1 : Int32)).toNatClampNeg) (xs9 (Int32.ofNat i + (2 : Int32)).toNatClampNeg) q3 = some (1, S') := by
        unfold f_L_bestFor
        rw [m_gd_t h.ox, e1]
        exact if_pos rfl
      rw [m_lt_s, m_gd_t i1, m_lt_s, m_gd_t i2, eL, m_bw_s, m_lt_s, m_gd_t i1, m_lt_s, m_gd_t i2, m_gd_t h.M.o, e2, m_bw_s, eT, m_b1_s, hz, if_pos rfl, if_pos (show ¬ (1 : Int32) = 0 by decide), m_lt_s, show Int32.ofNat i + (6 : Int32) = Int32.ofNat (i + 6) from io_add i 6]
      exact hlp T'' hR
    · have eL : f_L_bestFor Z S x (xs9 (Int32.ofNat i + (1 : Int32)).toNatClampNeg) (xs9 (Int32.ofNat i + (2 : Int32)).toNatClampNeg) q3 = some (2, S') := by
        unfold f_L_bestFor
        rw [m_gd_t h.ox, e1]
        exact (if_neg (by decide)).trans (if_pos rfl)
      rw [m_lt_s, m_gd_t i1, m_lt_s, m_gd_t i2, eL, m_bw_s, m_lt_s, m_gd_t i1, m_lt_s, m_gd_t i2, m_gd_t h.M.o, e2, m_bw_s, eT, m_b1_s, hz, if_pos rfl, if_pos (show ¬ (2 : Int32) = 0 by decide), m_lt_s, show Int32.ofNat i + (6 : Int32) = Int32.ofNat (i + 6) from io_add i 6]
      exact hlp T'' hR
theorem q_lc_32 (j126 : m_S → Option Unit) (hx : m = x + 341) (hL : i + 6 ≤ L9) (hL2 : L9 ≤ 3072) (o3 : m_okn Z q3 12 1) (o4 : m_okn Z q4 19 1) (ne3 : ¬ (x ≤ q3 ∧ q3 < x + 355)) (ne4 : ¬ (x ≤ q4 ∧ q4 < x + 355)) (hN : 30 ≤ N ∧ N < 2147483647) (h : q_Rel Z x m N pb ns nk nc S S) (hlp : ∀ S', q_Re Z x m (N + 1) S' S' → lp (Int32.ofNat (i + 6), S') = some ()) : (m_lt (Int32.ofNat i + (1 : Int32)) (fun v1051 => m_gd (m_in v1051 L9) (m_bw (f_L_save Z S x (xs9 v1051.toNatClampNeg)) (fun v1055 S1054 => m_lt (Int32.ofNat i + (1 : Int32)) (fun v1057 => m_gd (m_in v1057 L9) (m_gd (m_ok Z m 9) (m_bw (f_X9_save Z S1054 m (xs9 v1057.toNatClampNeg)) (fun _u S1062 => m_b1 (f_X9_thrown Z S1062 m) (fun v1064 => (if v1064 = v1055 then m_lt (Int32.ofNat i + (6 : Int32)) (fun v1066 => lp (v1066, S1062)) else j126 S1062)))))))))) = some () := by
  have i1 : m_in (Int32.ofNat i + (1 : Int32)) L9 := by
    rw [show Int32.ofNat i + (1 : Int32) = Int32.ofNat (i + 1) from io_add i 1]; exact io_in (by omega) (by omega)
  rcases q_stepV (fm := fun T => f_X9_save Z T m (xs9 (Int32.ofNat i + (1 : Int32)).toNatClampNeg)) hx h (fun T hT => J_save hT  _) with ⟨a, S', e1, b, T'', e2, z, hR⟩ | ⟨e, S', e1, b, T'', e2, hmem, hR⟩
  · have i0 : m_in (0 : Int32) (Z.2.2 q3) := q_inl (wi := 0) (i := 0) rfl o3 (by omega) (by omega)
    have eL : f_L_save Z S x (xs9 (Int32.ofNat i + (1 : Int32)).toNatClampNeg) = some (0, S') := by
      unfold f_L_save
      rw [m_gd_t h.ox, e1]
    have eT : f_X9_thrown Z T'' m = some (T''.1 m 0) := m_gd_t h.M.o
    rw [m_lt_s, m_gd_t i1, eL, m_bw_s, m_lt_s, m_gd_t i1, m_gd_t h.M.o, e2, m_bw_s, eT, m_b1_s, z, if_pos z00, m_lt_s, show Int32.ofNat i + (6 : Int32) = Int32.ofNat (i + 6) from io_add i 6]
    exact hlp T'' hR
  · have eT : f_X9_thrown Z T'' m = some (T''.1 m 0) := m_gd_t h.M.o
    have hm : (e = "java/lang/IndexOutOfBoundsException" ∧ T''.1 m 0 = 1) := by simpa using hmem
    rcases hm with ⟨rfl, hz⟩
    · have eL : f_L_save Z S x (xs9 (Int32.ofNat i + (1 : Int32)).toNatClampNeg) = some (1, S') := by
        unfold f_L_save
        rw [m_gd_t h.ox, e1]
        exact if_pos rfl
      rw [m_lt_s, m_gd_t i1, eL, m_bw_s, m_lt_s, m_gd_t i1, m_gd_t h.M.o, e2, m_bw_s, eT, m_b1_s, hz, if_pos rfl, m_lt_s, show Int32.ofNat i + (6 : Int32) = Int32.ofNat (i + 6) from io_add i 6]
      exact hlp T'' hR
theorem q_lc_33 (j128 : m_S → Option Unit) (hx : m = x + 341) (hL : i + 6 ≤ L9) (hL2 : L9 ≤ 3072) (o3 : m_okn Z q3 12 1) (o4 : m_okn Z q4 19 1) (ne3 : ¬ (x ≤ q3 ∧ q3 < x + 355)) (ne4 : ¬ (x ≤ q4 ∧ q4 < x + 355)) (hN : 30 ≤ N ∧ N < 2147483647) (h : q_Rel Z x m N pb ns nk nc S S) (hlp : ∀ S', q_Re Z x m (N + 1) S' S' → lp (Int32.ofNat (i + 6), S') = some ()) : (m_lt (Int32.ofNat i + (1 : Int32)) (fun v1069 => m_gd (m_in v1069 L9) (m_bw (f_L_restore Z S x (xs9 v1069.toNatClampNeg)) (fun v1073 S1072 => m_lt (Int32.ofNat i + (1 : Int32)) (fun v1075 => m_gd (m_in v1075 L9) (m_gd (m_ok Z m 9) (m_bw (f_X9_restore Z S1072 m (xs9 v1075.toNatClampNeg)) (fun _u S1080 => m_b1 (f_X9_thrown Z S1080 m) (fun v1082 => (if v1082 = v1073 then m_lt (Int32.ofNat i + (6 : Int32)) (fun v1084 => lp (v1084, S1080)) else j128 S1080)))))))))) = some () := by
  have i1 : m_in (Int32.ofNat i + (1 : Int32)) L9 := by
    rw [show Int32.ofNat i + (1 : Int32) = Int32.ofNat (i + 1) from io_add i 1]; exact io_in (by omega) (by omega)
  rcases q_stepV (fm := fun T => f_X9_restore Z T m (xs9 (Int32.ofNat i + (1 : Int32)).toNatClampNeg)) hx h (fun T hT => J_restore hT  _) with ⟨a, S', e1, b, T'', e2, z, hR⟩ | ⟨e, S', e1, b, T'', e2, hmem, hR⟩
  · have i0 : m_in (0 : Int32) (Z.2.2 q3) := q_inl (wi := 0) (i := 0) rfl o3 (by omega) (by omega)
    have eL : f_L_restore Z S x (xs9 (Int32.ofNat i + (1 : Int32)).toNatClampNeg) = some (0, S') := by
      unfold f_L_restore
      rw [m_gd_t h.ox, e1]
    have eT : f_X9_thrown Z T'' m = some (T''.1 m 0) := m_gd_t h.M.o
    rw [m_lt_s, m_gd_t i1, eL, m_bw_s, m_lt_s, m_gd_t i1, m_gd_t h.M.o, e2, m_bw_s, eT, m_b1_s, z, if_pos z00, m_lt_s, show Int32.ofNat i + (6 : Int32) = Int32.ofNat (i + 6) from io_add i 6]
    exact hlp T'' hR
  · have eT : f_X9_thrown Z T'' m = some (T''.1 m 0) := m_gd_t h.M.o
    have hm : (e = "java/lang/IndexOutOfBoundsException" ∧ T''.1 m 0 = 1) ∨ (e = "java/util/NoSuchElementException" ∧ T''.1 m 0 = 2) := by simpa using hmem
    rcases hm with ⟨rfl, hz⟩ | ⟨rfl, hz⟩
    · have eL : f_L_restore Z S x (xs9 (Int32.ofNat i + (1 : Int32)).toNatClampNeg) = some (1, S') := by
        unfold f_L_restore
        rw [m_gd_t h.ox, e1]
        exact if_pos rfl
      rw [m_lt_s, m_gd_t i1, eL, m_bw_s, m_lt_s, m_gd_t i1, m_gd_t h.M.o, e2, m_bw_s, eT, m_b1_s, hz, if_pos rfl, m_lt_s, show Int32.ofNat i + (6 : Int32) = Int32.ofNat (i + 6) from io_add i 6]
      exact hlp T'' hR
    · have eL : f_L_restore Z S x (xs9 (Int32.ofNat i + (1 : Int32)).toNatClampNeg) = some (2, S') := by
        unfold f_L_restore
        rw [m_gd_t h.ox, e1]
        exact (if_neg (by decide)).trans (if_pos rfl)
      rw [m_lt_s, m_gd_t i1, eL, m_bw_s, m_lt_s, m_gd_t i1, m_gd_t h.M.o, e2, m_bw_s, eT, m_b1_s, hz, if_pos rfl, m_lt_s, show Int32.ofNat i + (6 : Int32) = Int32.ofNat (i + 6) from io_add i 6]
      exact hlp T'' hR
end CASES3
