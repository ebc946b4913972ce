section CASES0
variable {Z : m_Z} {x m q3 q4 L9 i N pb ns nk nc : Nat} {xs9 : Nat → Int32} {S : m_S} {lp : Int32 × m_S → Option Unit}
theorem q_lc_0 (j4 j6 : m_S → Option Unit) (hx : m = x + 341) (hL : i + 6 ≤ L9) (hL2 : L9 ≤ 3072) (o3 : m_okn Z q3 12 1) (o4 : m_okn Z q4 19 1) (ne3 : ¬ (x ≤ q3 ∧ q3 < x + 355)) (ne4 : ¬ (x ≤ q4 ∧ q4 < x + 355)) (hN : 30 ≤ N ∧ N < 2147483647) (h : q_Rel Z x m N pb ns nk nc S S) (hlp : ∀ S', q_Re Z x m (N + 1) S' S' → lp (Int32.ofNat (i + 6), S') = some ()) : (m_lt (Int32.ofNat i + (1 : Int32)) (fun v142 => m_gd (m_in v142 L9) (m_lt (Int32.ofNat i + (2 : Int32)) (fun v145 => m_gd (m_in v145 L9) (m_lt (Int32.ofNat i + (3 : Int32)) (fun v148 => m_gd (m_in v148 L9) (m_lt (Int32.ofNat i + (4 : Int32)) (fun v151 => m_gd (m_in v151 L9) (m_lt (Int32.ofNat i + (5 : Int32)) (fun v154 => m_gd (m_in v154 L9) (m_bw (f_L_append Z S x (xs9 v142.toNatClampNeg) (xs9 v145.toNatClampNeg) (xs9 v148.toNatClampNeg) (xs9 v151.toNatClampNeg) (xs9 v154.toNatClampNeg) q3) (fun v158 S157 => m_lt (Int32.ofNat i + (1 : Int32)) (fun v160 => m_gd (m_in v160 L9) (m_lt (Int32.ofNat i + (2 : Int32)) (fun v163 => m_gd (m_in v163 L9) (m_lt (Int32.ofNat i + (3 : Int32)) (fun v166 => m_gd (m_in v166 L9) (m_lt (Int32.ofNat i + (4 : Int32)) (fun v169 => m_gd (m_in v169 L9) (m_lt (Int32.ofNat i + (5 : Int32)) (fun v172 => m_gd (m_in v172 L9) (m_gd (m_ok Z m 9) (m_bw (f_X9_append Z S157 m (xs9 v160.toNatClampNeg) (xs9 v163.toNatClampNeg) (xs9 v166.toNatClampNeg) (xs9 v169.toNatClampNeg) (xs9 v172.toNatClampNeg)) (fun v178 S177 => m_b1 (f_X9_thrown Z S177 m) (fun v180 => (if v180 = v158 then (if ¬ v158 = 0 then m_lt (Int32.ofNat i + (6 : Int32)) (fun v183 => lp (v183, S177)) else m_gd (m_ok Z q3 12) (m_gd (m_in (0 : Int32) (Z.2.2 q3)) ((if (lg_cmp (S177.2.1 q3 (0 : Int32).toNatClampNeg) v178.toInt64) = 0 then m_lt (Int32.ofNat i + (6 : Int32)) (fun v188 => lp (v188, S177)) else j4 S177)))) else j6 S177)))))))))))))))))))))))))) = some () := by
  have i1 : m_in (Int32.ofNat i + (1 : Int32)) L9 := by
    rw [show Int32.ofNat i + (1 : Int32) = Int32.ofNat (i + 1) from io_add i 1]; exact io_in (by omega) (by omega)
  have i2 : m_in (Int32.ofNat i + (2 : Int32)) L9 := by
    rw [show Int32.ofNat i + (2 : Int32) = Int32.ofNat (i + 2) from io_add i 2]; exact io_in (by omega) (by omega)
  have i3 : m_in (Int32.ofNat i + (3 : Int32)) L9 := by
    rw [show Int32.ofNat i + (3 : Int32) = Int32.ofNat (i + 3) from io_add i 3]; exact io_in (by omega) (by omega)
  have i4 : m_in (Int32.ofNat i + (4 : Int32)) L9 := by
    rw [show Int32.ofNat i + (4 : Int32) = Int32.ofNat (i + 4) from io_add i 4]; exact io_in (by omega) (by omega)
  have i5 : m_in (Int32.ofNat i + (5 : Int32)) L9 := by
    rw [show Int32.ofNat i + (5 : Int32) = Int32.ofNat (i + 5) from io_add i 5]; exact io_in (by omega) (by omega)
  rcases q_stepW (fm := fun T => f_X9_append Z T m (xs9 (Int32.ofNat i + (1 : Int32)).toNatClampNeg) (xs9 (Int32.ofNat i + (2 : Int32)).toNatClampNeg) (xs9 (Int32.ofNat i + (3 : Int32)).toNatClampNeg) (xs9 (Int32.ofNat i + (4 : Int32)).toNatClampNeg) (xs9 (Int32.ofNat i + (5 : Int32)).toNatClampNeg)) hx h (fun T hT => J_append hT  _ _ _ _ _) ne3 (fun a => a.toInt64) with ⟨a, S', e1, b, T'', e2, z, o, eq, hR⟩ | ⟨e, S', e1, b, T'', e2, hmem, hR⟩
  · have i0 : m_in (0 : Int32) (Z.2.2 q3) := q_inl (wi := 0) (i := 0) rfl o3 (by omega) (by omega)
    have eL : f_L_append Z S x (xs9 (Int32.ofNat i + (1 : Int32)).toNatClampNeg) (xs9 (Int32.ofNat i + (2 : Int32)).toNatClampNeg) (xs9 (Int32.ofNat i + (3 : Int32)).toNatClampNeg) (xs9 (Int32.ofNat i + (4 : Int32)).toNatClampNeg) (xs9 (Int32.ofNat i + (5 : Int32)).toNatClampNeg) q3 = some (0, m_pJ S' q3 0 ((fun a => a.toInt64) a)) := by
      unfold f_L_append
      rw [m_gd_t h.ox, e1]
      exact (m_gd_t o3.1).trans (m_gd_t i0)
    have eT : f_X9_thrown Z T'' m = some (T''.1 m 0) := m_gd_t h.M.o
    have ec : lg_cmp (T''.2.1 q3 (0 : Int32).toNatClampNeg) b.toInt64 = 0 := lg_cmp0.mpr (by rw [show (0 : Int32).toNatClampNeg = 0 from rfl, o, ← eq])
    rw [m_lt_s, m_gd_t i1, m_lt_s, m_gd_t i2, m_lt_s, m_gd_t i3, m_lt_s, m_gd_t i4, m_lt_s, m_gd_t i5, eL, m_bw_s, m_lt_s, m_gd_t i1, m_lt_s, m_gd_t i2, m_lt_s, m_gd_t i3, m_lt_s, m_gd_t i4, m_lt_s, m_gd_t i5, m_gd_t h.M.o, e2, m_bw_s, eT, m_b1_s, z, if_pos z00, if_neg nz0, m_gd_t o3.1, m_gd_t i0, if_pos ec, m_lt_s, show Int32.ofNat i + (6 : Int32) = Int32.ofNat (i + 6) from io_add i 6]
    exact hlp T'' hR
  · have eT : f_X9_thrown Z T'' m = some (T''.1 m 0) := m_gd_t h.M.o
    have hm : (e = "java/lang/IllegalStateException" ∧ T''.1 m 0 = 1) := by simpa using hmem
    rcases hm with ⟨rfl, hz⟩
    · have eL : f_L_append Z S x (xs9 (Int32.ofNat i + (1 : Int32)).toNatClampNeg) (xs9 (Int32.ofNat i + (2 : Int32)).toNatClampNeg) (xs9 (Int32.ofNat i + (3 : Int32)).toNatClampNeg) (xs9 (Int32.ofNat i + (4 : Int32)).toNatClampNeg) (xs9 (Int32.ofNat i + (5 : Int32)).toNatClampNeg) q3 = some (1, S') := by
        unfold f_L_append
        rw [m_gd_t h.ox, e1]
        exact if_pos rfl
      rw [m_lt_s, m_gd_t i1, m_lt_s, m_gd_t i2, m_lt_s, m_gd_t i3, m_lt_s, m_gd_t i4, m_lt_s, m_gd_t i5, eL, m_bw_s, m_lt_s, m_gd_t i1, m_lt_s, m_gd_t i2, m_lt_s, m_gd_t i3, m_lt_s, m_gd_t i4, m_lt_s, m_gd_t i5, m_gd_t h.M.o, e2, m_bw_s, eT, m_b1_s, hz, if_pos rfl, if_pos (show ¬ (1 : Int32) = 0 by decide), m_lt_s, show Int32.ofNat i + (6 : Int32) = Int32.ofNat (i + 6) from io_add i 6]
      exact hlp T'' hR
theorem q_lc_1 (j8 j10 : m_S → Option Unit) (hx : m = x + 341) (hL : i + 6 ≤ L9) (hL2 : L9 ≤ 3072) (o3 : m_okn Z q3 12 1) (o4 : m_okn Z q4 19 1) (ne3 : ¬ (x ≤ q3 ∧ q3 < x + 355)) (ne4 : ¬ (x ≤ q4 ∧ q4 < x + 355)) (hN : 30 ≤ N ∧ N < 2147483647) (h : q_Rel Z x m N pb ns nk nc S S) (hlp : ∀ S', q_Re Z x m (N + 1) S' S' → lp (Int32.ofNat (i + 6), S') = some ()) : (m_lt (Int32.ofNat i + (1 : Int32)) (fun v191 => m_gd (m_in v191 L9) (m_bw (f_L_truncate Z S x (xs9 v191.toNatClampNeg) q3) (fun v195 S194 => m_lt (Int32.ofNat i + (1 : Int32)) (fun v197 => m_gd (m_in v197 L9) (m_gd (m_ok Z m 9) (m_bw (f_X9_truncate Z S194 m (xs9 v197.toNatClampNeg)) (fun v203 S202 => m_b1 (f_X9_thrown Z S202 m) (fun v205 => (if v205 = v195 then (if ¬ v195 = 0 then m_lt (Int32.ofNat i + (6 : Int32)) (fun v208 => lp (v208, S202)) else m_gd (m_ok Z q3 12) (m_gd (m_in (0 : Int32) (Z.2.2 q3)) ((if (lg_cmp (S202.2.1 q3 (0 : Int32).toNatClampNeg) v203.toInt64) = 0 then m_lt (Int32.ofNat i + (6 : Int32)) (fun v213 => lp (v213, S202)) else j8 S202)))) else j10 S202)))))))))) = some () := by
  have i1 : m_in (Int32.ofNat i + (1 : Int32)) L9 := by
    rw [show Int32.ofNat i + (1 : Int32) = Int32.ofNat (i + 1) from io_add i 1]; exact io_in (by omega) (by omega)
  rcases q_stepW (fm := fun T => f_X9_truncate Z T m (xs9 (Int32.ofNat i + (1 : Int32)).toNatClampNeg)) hx h (fun T hT => J_truncate hT  _) ne3 (fun a => a.toInt64) with ⟨a, S', e1, b, T'', e2, z, o, eq, hR⟩ | ⟨e, S', e1, b, T'', e2, hmem, hR⟩
  · have i0 : m_in (0 : Int32) (Z.2.2 q3) := q_inl (wi := 0) (i := 0) rfl o3 (by omega) (by omega)
    have eL : f_L_truncate Z S x (xs9 (Int32.ofNat i + (1 : Int32)).toNatClampNeg) q3 = some (0, m_pJ S' q3 0 ((fun a => a.toInt64) a)) := by
      unfold f_L_truncate
      rw [m_gd_t h.ox, e1]
      exact (m_gd_t o3.1).trans (m_gd_t i0)
    have eT : f_X9_thrown Z T'' m = some (T''.1 m 0) := m_gd_t h.M.o
    have ec : lg_cmp (T''.2.1 q3 (0 : Int32).toNatClampNeg) b.toInt64 = 0 := lg_cmp0.mpr (by rw [show (0 : Int32).toNatClampNeg = 0 from rfl, o, ← eq])
    rw [m_lt_s, m_gd_t i1, eL, m_bw_s, m_lt_s, m_gd_t i1, m_gd_t h.M.o, e2, m_bw_s, eT, m_b1_s, z, if_pos z00, if_neg nz0, m_gd_t o3.1, m_gd_t i0, if_pos ec, m_lt_s, show Int32.ofNat i + (6 : Int32) = Int32.ofNat (i + 6) from io_add i 6]
    exact hlp T'' hR
  · have eT : f_X9_thrown Z T'' m = some (T''.1 m 0) := m_gd_t h.M.o
    have hm : (e = "java/lang/IndexOutOfBoundsException" ∧ T''.1 m 0 = 1) := by simpa using hmem
    rcases hm with ⟨rfl, hz⟩
    · have eL : f_L_truncate Z S x (xs9 (Int32.ofNat i + (1 : Int32)).toNatClampNeg) q3 = some (1, S') := by
        unfold f_L_truncate
        rw [m_gd_t h.ox, e1]
        exact if_pos rfl
      rw [m_lt_s, m_gd_t i1, eL, m_bw_s, m_lt_s, m_gd_t i1, m_gd_t h.M.o, e2, m_bw_s, eT, m_b1_s, hz, if_pos rfl, if_pos (show ¬ (1 : Int32) = 0 by decide), m_lt_s, show Int32.ofNat i + (6 : Int32) = Int32.ofNat (i + 6) from io_add i 6]
      exact hlp T'' hR
theorem q_lc_2 (j12 j14 : m_S → Option Unit) (hx : m = x + 341) (hL : i + 6 ≤ L9) (hL2 : L9 ≤ 3072) (o3 : m_okn Z q3 12 1) (o4 : m_okn Z q4 19 1) (ne3 : ¬ (x ≤ q3 ∧ q3 < x + 355)) (ne4 : ¬ (x ≤ q4 ∧ q4 < x + 355)) (hN : 30 ≤ N ∧ N < 2147483647) (h : q_Rel Z x m N pb ns nk nc S S) (hlp : ∀ S', q_Re Z x m (N + 1) S' S' → lp (Int32.ofNat (i + 6), S') = some ()) : (m_bw (f_L_load Z S x q3) (fun v217 S216 => m_gd (m_ok Z m 9) (m_bw (f_X9_load Z S216 m) (fun v222 S221 => m_b1 (f_X9_thrown Z S221 m) (fun v224 => (if v224 = v217 then (if ¬ v217 = 0 then m_lt (Int32.ofNat i + (6 : Int32)) (fun v227 => lp (v227, S221)) else m_gd (m_ok Z q3 12) (m_gd (m_in (0 : Int32) (Z.2.2 q3)) ((if (lg_cmp (S221.2.1 q3 (0 : Int32).toNatClampNeg) v222.toInt64) = 0 then m_lt (Int32.ofNat i + (6 : Int32)) (fun v232 => lp (v232, S221)) else j12 S221)))) else j14 S221)))))) = some () := by
  rcases q_stepW (fm := fun T => f_X9_load Z T m ) hx h (fun T hT => J_load hT hN.1 ) ne3 (fun a => a.toInt64) with ⟨a, S', e1, b, T'', e2, z, o, eq, hR⟩ | ⟨e, S', e1, b, T'', e2, hmem, hR⟩
  · have i0 : m_in (0 : Int32) (Z.2.2 q3) := q_inl (wi := 0) (i := 0) rfl o3 (by omega) (by omega)
    have eL : f_L_load Z S x  q3 = some (0, m_pJ S' q3 0 ((fun a => a.toInt64) a)) := by
      unfold f_L_load
      rw [m_gd_t h.ox, e1]
      exact (m_gd_t o3.1).trans (m_gd_t i0)
    have eT : f_X9_thrown Z T'' m = some (T''.1 m 0) := m_gd_t h.M.o
    have ec : lg_cmp (T''.2.1 q3 (0 : Int32).toNatClampNeg) b.toInt64 = 0 := lg_cmp0.mpr (by rw [show (0 : Int32).toNatClampNeg = 0 from rfl, o, ← eq])
    rw [eL, m_bw_s, m_gd_t h.M.o, e2, m_bw_s, eT, m_b1_s, z, if_pos z00, if_neg nz0, m_gd_t o3.1, m_gd_t i0, if_pos ec, m_lt_s, show Int32.ofNat i + (6 : Int32) = Int32.ofNat (i + 6) from io_add i 6]
    exact hlp T'' hR
  · have eT : f_X9_thrown Z T'' m = some (T''.1 m 0) := m_gd_t h.M.o
    have hm : (e = "java/lang/IllegalArgumentException" ∧ T''.1 m 0 = 1) := by simpa using hmem
    rcases hm with ⟨rfl, hz⟩
    · have eL : f_L_load Z S x  q3 = some (1, S') := by
        unfold f_L_load
        rw [m_gd_t h.ox, e1]
        exact if_pos rfl
      rw [eL, m_bw_s, m_gd_t h.M.o, e2, m_bw_s, eT, m_b1_s, hz, if_pos rfl, if_pos (show ¬ (1 : Int32) = 0 by decide), m_lt_s, show Int32.ofNat i + (6 : Int32) = Int32.ofNat (i + 6) from io_add i 6]
      exact hlp T'' hR
theorem q_lc_3 (j16 : m_S → Option Unit) (hx : m = x + 341) (hL : i + 6 ≤ L9) (hL2 : L9 ≤ 3072) (o3 : m_okn Z q3 12 1) (o4 : m_okn Z q4 19 1) (ne3 : ¬ (x ≤ q3 ∧ q3 < x + 355)) (ne4 : ¬ (x ≤ q4 ∧ q4 < x + 355)) (hN : 30 ≤ N ∧ N < 2147483647) (h : q_Rel Z x m N pb ns nk nc S S) (hlp : ∀ S', q_Re Z x m (N + 1) S' S' → lp (Int32.ofNat (i + 6), S') = some ()) : (m_gd (m_ok Z x 8) (m_b1 (f_X8_errorCode Z S x) (fun v237 => m_gd (m_ok Z m 9) (m_bw (f_X9_errorCode Z S m) (fun v241 S240 => (if v237 = v241 then m_lt (Int32.ofNat i + (6 : Int32)) (fun v243 => lp (v243, S240)) else j16 S240)))))) = some () := by
  obtain ⟨v, T', e1, e2, f, pb', ns', nk', nc', hR⟩ := J_errorCode h
  rw [m_gd_t h.ox, e1, m_b1_s, m_gd_t h.M.o, e2, m_bw_s, if_pos rfl, m_lt_s, show Int32.ofNat i + (6 : Int32) = Int32.ofNat (i + 6) from io_add i 6]
  exact hlp T' ⟨pb', ns', nk', nc', q_Rel_cl hR (q_ag_sub f (fun b k hb => by omega)) (q_ag_refl _ _)⟩
theorem q_lc_4 (j18 : m_S → Option Unit) (hx : m = x + 341) (hL : i + 6 ≤ L9) (hL2 : L9 ≤ 3072) (o3 : m_okn Z q3 12 1) (o4 : m_okn Z q4 19 1) (ne3 : ¬ (x ≤ q3 ∧ q3 < x + 355)) (ne4 : ¬ (x ≤ q4 ∧ q4 < x + 355)) (hN : 30 ≤ N ∧ N < 2147483647) (h : q_Rel Z x m N pb ns nk nc S S) (hlp : ∀ S', q_Re Z x m (N + 1) S' S' → lp (Int32.ofNat (i + 6), S') = some ()) : (m_gd (m_ok Z x 8) (m_b1 (f_X8_errorPosition Z S x) (fun v248 => m_gd (m_ok Z m 9) (m_bw (f_X9_errorPosition Z S m) (fun v252 S251 => (if v248 = v252 then m_lt (Int32.ofNat i + (6 : Int32)) (fun v254 => lp (v254, S251)) else j18 S251)))))) = some () := by
  obtain ⟨v, T', e1, e2, f, pb', ns', nk', nc', hR⟩ := J_errorPosition h
  rw [m_gd_t h.ox, e1, m_b1_s, m_gd_t h.M.o, e2, m_bw_s, if_pos rfl, m_lt_s, show Int32.ofNat i + (6 : Int32) = Int32.ofNat (i + 6) from io_add i 6]
  exact hlp T' ⟨pb', ns', nk', nc', q_Rel_cl hR (q_ag_sub f (fun b k hb => by omega)) (q_ag_refl _ _)⟩
theorem q_lc_5 (j20 j22 : m_S → Option Unit) (hx : m = x + 341) (hL : i + 6 ≤ L9) (hL2 : L9 ≤ 3072) (o3 : m_okn Z q3 12 1) (o4 : m_okn Z q4 19 1) (ne3 : ¬ (x ≤ q3 ∧ q3 < x + 355)) (ne4 : ¬ (x ≤ q4 ∧ q4 < x + 355)) (hN : 30 ≤ N ∧ N < 2147483647) (h : q_Rel Z x m N pb ns nk nc S S) (hlp : ∀ S', q_Re Z x m (N + 1) S' S' → lp (Int32.ofNat (i + 6), S') = some ()) : (m_lt (Int32.ofNat i + (1 : Int32)) (fun v257 => m_gd (m_in v257 L9) (m_bw (f_L_report Z S x (xs9 v257.toNatClampNeg) q3) (fun v261 S260 => m_lt (Int32.ofNat i + (1 : Int32)) (fun v263 => m_gd (m_in v263 L9) (m_gd (m_ok Z m 9) (m_bw (f_X9_report Z S260 m (xs9 v263.toNatClampNeg)) (fun v269 S268 => m_b1 (f_X9_thrown Z S268 m) (fun v271 => (if v271 = v261 then (if ¬ v261 = 0 then m_lt (Int32.ofNat i + (6 : Int32)) (fun v274 => lp (v274, S268)) else m_gd (m_ok Z q3 12) (m_gd (m_in (0 : Int32) (Z.2.2 q3)) ((if (lg_cmp (S268.2.1 q3 (0 : Int32).toNatClampNeg) v269.toInt64) = 0 then m_lt (Int32.ofNat i + (6 : Int32)) (fun v279 => lp (v279, S268)) else j20 S268)))) else j22 S268)))))))))) = some () := by
  have i1 : m_in (Int32.ofNat i + (1 : Int32)) L9 := by
    rw [show Int32.ofNat i + (1 : Int32) = Int32.ofNat (i + 1) from io_add i 1]; exact io_in (by omega) (by omega)
  rcases q_stepR (fm := fun T => f_X9_report Z T m (xs9 (Int32.ofNat i + (1 : Int32)).toNatClampNeg)) hx h (fun T hT => J_report hT  _) ne3 (fun a => a.toInt64) with ⟨a, e1, b, T'', e2, z, o, eq, hR⟩ | ⟨e, e1, b, T'', e2, hmem, hR⟩
  · have i0 : m_in (0 : Int32) (Z.2.2 q3) := q_inl (wi := 0) (i := 0) rfl o3 (by omega) (by omega)
    have eL : f_L_report Z S x (xs9 (Int32.ofNat i + (1 : Int32)).toNatClampNeg) q3 = some (0, m_pJ S q3 0 ((fun a => a.toInt64) a)) := by
      unfold f_L_report
      rw [m_gd_t h.ox, e1]
      exact (m_gd_t o3.1).trans (m_gd_t i0)
    have eT : f_X9_thrown Z T'' m = some (T''.1 m 0) := m_gd_t h.M.o
    have ec : lg_cmp (T''.2.1 q3 (0 : Int32).toNatClampNeg) b.toInt64 = 0 := lg_cmp0.mpr (by rw [show (0 : Int32).toNatClampNeg = 0 from rfl, o, ← eq])
    rw [m_lt_s, m_gd_t i1, eL, m_bw_s, m_lt_s, m_gd_t i1, m_gd_t h.M.o, e2, m_bw_s, eT, m_b1_s, z, if_pos z00, if_neg nz0, m_gd_t o3.1, m_gd_t i0, if_pos ec, m_lt_s, show Int32.ofNat i + (6 : Int32) = Int32.ofNat (i + 6) from io_add i 6]
    exact hlp T'' hR
  · have eT : f_X9_thrown Z T'' m = some (T''.1 m 0) := m_gd_t h.M.o
    have hm : (e = "java/lang/IllegalArgumentException" ∧ T''.1 m 0 = 1) := by simpa using hmem
    rcases hm with ⟨rfl, hz⟩
    · have eL : f_L_report Z S x (xs9 (Int32.ofNat i + (1 : Int32)).toNatClampNeg) q3 = some (1, S) := by
        unfold f_L_report
        rw [m_gd_t h.ox, e1]
        exact if_pos rfl
      rw [m_lt_s, m_gd_t i1, eL, m_bw_s, m_lt_s, m_gd_t i1, m_gd_t h.M.o, e2, m_bw_s, eT, m_b1_s, hz, if_pos rfl, if_pos (show ¬ (1 : Int32) = 0 by decide), m_lt_s, show Int32.ofNat i + (6 : Int32) = Int32.ofNat (i + 6) from io_add i 6]
      exact hlp T'' hR
theorem q_lc_6 (j24 j26 : m_S → Option Unit) (hx : m = x + 341) (hL : i + 6 ≤ L9) (hL2 : L9 ≤ 3072) (o3 : m_okn Z q3 12 1) (o4 : m_okn Z q4 19 1) (ne3 : ¬ (x ≤ q3 ∧ q3 < x + 355)) (ne4 : ¬ (x ≤ q4 ∧ q4 < x + 355)) (hN : 30 ≤ N ∧ N < 2147483647) (h : q_Rel Z x m N pb ns nk nc S S) (hlp : ∀ S', q_Re Z x m (N + 1) S' S' → lp (Int32.ofNat (i + 6), S') = some ()) : (m_lt (Int32.ofNat i + (1 : Int32)) (fun v282 => m_gd (m_in v282 L9) (m_bw (f_L_setPoint Z S x (xs9 v282.toNatClampNeg) q3) (fun v286 S285 => m_lt (Int32.ofNat i + (1 : Int32)) (fun v288 => m_gd (m_in v288 L9) (m_gd (m_ok Z m 9) (m_bw (f_X9_setPoint Z S285 m (xs9 v288.toNatClampNeg)) (fun v294 S293 => m_b1 (f_X9_thrown Z S293 m) (fun v296 => (if v296 = v286 then (if ¬ v286 = 0 then m_lt (Int32.ofNat i + (6 : Int32)) (fun v299 => lp (v299, S293)) else m_gd (m_ok Z q3 12) (m_gd (m_in (0 : Int32) (Z.2.2 q3)) ((if (lg_cmp (S293.2.1 q3 (0 : Int32).toNatClampNeg) v294.toInt64) = 0 then m_lt (Int32.ofNat i + (6 : Int32)) (fun v304 => lp (v304, S293)) else j24 S293)))) else j26 S293)))))))))) = some () := by
  have i1 : m_in (Int32.ofNat i + (1 : Int32)) L9 := by
    rw [show Int32.ofNat i + (1 : Int32) = Int32.ofNat (i + 1) from io_add i 1]; exact io_in (by omega) (by omega)
  rcases q_stepR (fm := fun T => f_X9_setPoint Z T m (xs9 (Int32.ofNat i + (1 : Int32)).toNatClampNeg)) hx h (fun T hT => J_setPoint hT  _) ne3 (fun a => a.toInt64) with ⟨a, e1, b, T'', e2, z, o, eq, hR⟩ | ⟨e, e1, b, T'', e2, hmem, hR⟩
  · have i0 : m_in (0 : Int32) (Z.2.2 q3) := q_inl (wi := 0) (i := 0) rfl o3 (by omega) (by omega)
    have eL : f_L_setPoint Z S x (xs9 (Int32.ofNat i + (1 : Int32)).toNatClampNeg) q3 = some (0, m_pJ S q3 0 ((fun a => a.toInt64) a)) := by
      unfold f_L_setPoint
      rw [m_gd_t h.ox, e1]
      exact (m_gd_t o3.1).trans (m_gd_t i0)
    have eT : f_X9_thrown Z T'' m = some (T''.1 m 0) := m_gd_t h.M.o
    have ec : lg_cmp (T''.2.1 q3 (0 : Int32).toNatClampNeg) b.toInt64 = 0 := lg_cmp0.mpr (by rw [show (0 : Int32).toNatClampNeg = 0 from rfl, o, ← eq])
    rw [m_lt_s, m_gd_t i1, eL, m_bw_s, m_lt_s, m_gd_t i1, m_gd_t h.M.o, e2, m_bw_s, eT, m_b1_s, z, if_pos z00, if_neg nz0, m_gd_t o3.1, m_gd_t i0, if_pos ec, m_lt_s, show Int32.ofNat i + (6 : Int32) = Int32.ofNat (i + 6) from io_add i 6]
    exact hlp T'' hR
  · have eT : f_X9_thrown Z T'' m = some (T''.1 m 0) := m_gd_t h.M.o
    have hm : (e = "java/lang/IllegalArgumentException" ∧ T''.1 m 0 = 1) := by simpa using hmem
    rcases hm with ⟨rfl, hz⟩
    · have eL : f_L_setPoint Z S x (xs9 (Int32.ofNat i + (1 : Int32)).toNatClampNeg) q3 = some (1, S) := by
        unfold f_L_setPoint
        rw [m_gd_t h.ox, e1]
        exact if_pos rfl
      rw [m_lt_s, m_gd_t i1, eL, m_bw_s, m_lt_s, m_gd_t i1, m_gd_t h.M.o, e2, m_bw_s, eT, m_b1_s, hz, if_pos rfl, if_pos (show ¬ (1 : Int32) = 0 by decide), m_lt_s, show Int32.ofNat i + (6 : Int32) = Int32.ofNat (i + 6) from io_add i 6]
      exact hlp T'' hR
theorem q_lc_7 (j28 j30 : m_S → Option Unit) (hx : m = x + 341) (hL : i + 6 ≤ L9) (hL2 : L9 ≤ 3072) (o3 : m_okn Z q3 12 1) (o4 : m_okn Z q4 19 1) (ne3 : ¬ (x ≤ q3 ∧ q3 < x + 355)) (ne4 : ¬ (x ≤ q4 ∧ q4 < x + 355)) (hN : 30 ≤ N ∧ N < 2147483647) (h : q_Rel Z x m N pb ns nk nc S S) (hlp : ∀ S', q_Re Z x m (N + 1) S' S' → lp (Int32.ofNat (i + 6), S') = some ()) : (m_lt (Int32.ofNat i + (1 : Int32)) (fun v307 => m_gd (m_in v307 L9) (m_bw (f_L_visitors Z S x (xs9 v307.toNatClampNeg) q3) (fun v311 S310 => m_lt (Int32.ofNat i + (1 : Int32)) (fun v313 => m_gd (m_in v313 L9) (m_gd (m_ok Z m 9) (m_bw (f_X9_visitors_ Z S310 m (xs9 v313.toNatClampNeg)) (fun v319 S318 => m_b1 (f_X9_thrown Z S318 m) (fun v321 => (if v321 = v311 then (if ¬ v311 = 0 then m_lt (Int32.ofNat i + (6 : Int32)) (fun v324 => lp (v324, S318)) else m_gd (m_ok Z q3 12) (m_gd (m_in (0 : Int32) (Z.2.2 q3)) ((if (lg_cmp (S318.2.1 q3 (0 : Int32).toNatClampNeg) v319.toInt64) = 0 then m_lt (Int32.ofNat i + (6 : Int32)) (fun v329 => lp (v329, S318)) else j28 S318)))) else j30 S318)))))))))) = some () := by
  have i1 : m_in (Int32.ofNat i + (1 : Int32)) L9 := by
    rw [show Int32.ofNat i + (1 : Int32) = Int32.ofNat (i + 1) from io_add i 1]; exact io_in (by omega) (by omega)
  rcases q_stepR (fm := fun T => f_X9_visitors_ Z T m (xs9 (Int32.ofNat i + (1 : Int32)).toNatClampNeg)) hx h (fun T hT => J_visitors hT  _) ne3 (fun a => a.toInt64) with ⟨a, e1, b, T'', e2, z, o, eq, hR⟩ | ⟨e, e1, b, T'', e2, hmem, hR⟩
  · have i0 : m_in (0 : Int32) (Z.2.2 q3) := q_inl (wi := 0) (i := 0) rfl o3 (by omega) (by omega)
    have eL : f_L_visitors Z S x (xs9 (Int32.ofNat i + (1 : Int32)).toNatClampNeg) q3 = some (0, m_pJ S q3 0 ((fun a => a.toInt64) a)) := by
      unfold f_L_visitors
      rw [m_gd_t h.ox, e1]
      exact (m_gd_t o3.1).trans (m_gd_t i0)
    have eT : f_X9_thrown Z T'' m = some (T''.1 m 0) := m_gd_t h.M.o
    have ec : lg_cmp (T''.2.1 q3 (0 : Int32).toNatClampNeg) b.toInt64 = 0 := lg_cmp0.mpr (by rw [show (0 : Int32).toNatClampNeg = 0 from rfl, o, ← eq])
    rw [m_lt_s, m_gd_t i1, eL, m_bw_s, m_lt_s, m_gd_t i1, m_gd_t h.M.o, e2, m_bw_s, eT, m_b1_s, z, if_pos z00, if_neg nz0, m_gd_t o3.1, m_gd_t i0, if_pos ec, m_lt_s, show Int32.ofNat i + (6 : Int32) = Int32.ofNat (i + 6) from io_add i 6]
    exact hlp T'' hR
  · have eT : f_X9_thrown Z T'' m = some (T''.1 m 0) := m_gd_t h.M.o
    have hm : (e = "java/lang/IllegalArgumentException" ∧ T''.1 m 0 = 1) := by simpa using hmem
    rcases hm with ⟨rfl, hz⟩
    · have eL : f_L_visitors Z S x (xs9 (Int32.ofNat i + (1 : Int32)).toNatClampNeg) q3 = some (1, S) := by
        unfold f_L_visitors
        rw [m_gd_t h.ox, e1]
        exact if_pos rfl
      rw [m_lt_s, m_gd_t i1, eL, m_bw_s, m_lt_s, m_gd_t i1, m_gd_t h.M.o, e2, m_bw_s, eT, m_b1_s, hz, if_pos rfl, if_pos (show ¬ (1 : Int32) = 0 by decide), m_lt_s, show Int32.ofNat i + (6 : Int32) = Int32.ofNat (i + 6) from io_add i 6]
      exact hlp T'' hR
theorem q_lc_8 (j32 j34 : m_S → Option Unit) (hx : m = x + 341) (hL : i + 6 ≤ L9) (hL2 : L9 ≤ 3072) (o3 : m_okn Z q3 12 1) (o4 : m_okn Z q4 19 1) (ne3 : ¬ (x ≤ q3 ∧ q3 < x + 355)) (ne4 : ¬ (x ≤ q4 ∧ q4 < x + 355)) (hN : 30 ≤ N ∧ N < 2147483647) (h : q_Rel Z x m N pb ns nk nc S S) (hlp : ∀ S', q_Re Z x m (N + 1) S' S' → lp (Int32.ofNat (i + 6), S') = some ()) : (m_lt (Int32.ofNat i + (1 : Int32)) (fun v332 => m_gd (m_in v332 L9) (m_lt (Int32.ofNat i + (2 : Int32)) (fun v335 => m_gd (m_in v335 L9) (m_bw (f_L_content Z S x (xs9 v332.toNatClampNeg) (xs9 v335.toNatClampNeg) q3) (fun v339 S338 => m_lt (Int32.ofNat i + (1 : Int32)) (fun v341 => m_gd (m_in v341 L9) (m_lt (Int32.ofNat i + (2 : Int32)) (fun v344 => m_gd (m_in v344 L9) (m_gd (m_ok Z m 9) (m_bw (f_X9_content Z S338 m (xs9 v341.toNatClampNeg) (xs9 v344.toNatClampNeg)) (fun v350 S349 => m_b1 (f_X9_thrown Z S349 m) (fun v352 => (if v352 = v339 then (if ¬ v339 = 0 then m_lt (Int32.ofNat i + (6 : Int32)) (fun v355 => lp (v355, S349)) else m_gd (m_ok Z q3 12) (m_gd (m_in (0 : Int32) (Z.2.2 q3)) ((if (lg_cmp (S349.2.1 q3 (0 : Int32).toNatClampNeg) v350.toInt64) = 0 then m_lt (Int32.ofNat i + (6 : Int32)) (fun v360 => lp (v360, S349)) else j32 S349)))) else j34 S349)))))))))))))) = some () := by
  have i1 : m_in (Int32.ofNat i + (1 : Int32)) L9 := by
    rw [show Int32.ofNat i + (1 : Int32) = Int32.ofNat (i + 1) from io_add i 1]; exact io_in (by omega) (by omega)
  have i2 : m_in (Int32.ofNat i + (2 : Int32)) L9 := by
    rw [show Int32.ofNat i + (2 : Int32) = Int32.ofNat (i + 2) from io_add i 2]; exact io_in (by omega) (by omega)
  rcases q_stepR (fm := fun T => f_X9_content Z T m (xs9 (Int32.ofNat i + (1 : Int32)).toNatClampNeg) (xs9 (Int32.ofNat i + (2 : Int32)).toNatClampNeg)) hx h (fun T hT => J_content hT  _ _) ne3 (fun a => a.toInt64) with ⟨a, e1, b, T'', e2, z, o, eq, hR⟩ | ⟨e, e1, b, T'', e2, hmem, hR⟩
  · have i0 : m_in (0 : Int32) (Z.2.2 q3) := q_inl (wi := 0) (i := 0) rfl o3 (by omega) (by omega)
    have eL : f_L_content Z S x (xs9 (Int32.ofNat i + (1 : Int32)).toNatClampNeg) (xs9 (Int32.ofNat i + (2 : Int32)).toNatClampNeg) q3 = some (0, m_pJ S q3 0 ((fun a => a.toInt64) a)) := by
      unfold f_L_content
      rw [m_gd_t h.ox, e1]
      exact (m_gd_t o3.1).trans (m_gd_t i0)
    have eT : f_X9_thrown Z T'' m = some (T''.1 m 0) := m_gd_t h.M.o
    have ec : lg_cmp (T''.2.1 q3 (0 : Int32).toNatClampNeg) b.toInt64 = 0 := lg_cmp0.mpr (by rw [show (0 : Int32).toNatClampNeg = 0 from rfl, o, ← eq])
    rw [m_lt_s, m_gd_t i1, m_lt_s, m_gd_t i2, eL, m_bw_s, m_lt_s, m_gd_t i1, m_lt_s, m_gd_t i2, m_gd_t h.M.o, e2, m_bw_s, eT, m_b1_s, z, if_pos z00, if_neg nz0, m_gd_t o3.1, m_gd_t i0, if_pos ec, m_lt_s, show Int32.ofNat i + (6 : Int32) = Int32.ofNat (i + 6) from io_add i 6]
    exact hlp T'' hR
  · have eT : f_X9_thrown Z T'' m = some (T''.1 m 0) := m_gd_t h.M.o
    have hm : (e = "java/lang/IndexOutOfBoundsException" ∧ T''.1 m 0 = 1) := by simpa using hmem
    rcases hm with ⟨rfl, hz⟩
    · have eL : f_L_content Z S x (xs9 (Int32.ofNat i + (1 : Int32)).toNatClampNeg) (xs9 (Int32.ofNat i + (2 : Int32)).toNatClampNeg) q3 = some (1, S) := by
        unfold f_L_content
        rw [m_gd_t h.ox, e1]
        exact if_pos rfl
      rw [m_lt_s, m_gd_t i1, m_lt_s, m_gd_t i2, eL, m_bw_s, m_lt_s, m_gd_t i1, m_lt_s, m_gd_t i2, m_gd_t h.M.o, e2, m_bw_s, eT, m_b1_s, hz, if_pos rfl, if_pos (show ¬ (1 : Int32) = 0 by decide), m_lt_s, show Int32.ofNat i + (6 : Int32) = Int32.ofNat (i + 6) from io_add i 6]
      exact hlp T'' hR
end CASES0
