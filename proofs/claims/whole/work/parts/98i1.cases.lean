section CASES1
variable {Z : m_Z} {x m q3 q4 L9 i N pb ns nk nc : Nat} {xs9 : Nat → Int32} {S : m_S} {lp : Int32 × m_S → Option Unit}
theorem q_lc_9 (j36 j38 : m_S → Option Unit) (hx : m = x + 341) (hL : i + 6 ≤ L9) (hL2 : L9 ≤ 3072) (o3 : m_okn Z q3 12 1) (o4 : m_okn Z q4 19 1) (ne3 : ¬ (x ≤ q3 ∧ q3 < x + 355)) (ne4 : ¬ (x ≤ q4 ∧ q4 < x + 355)) (hN : 30 ≤ N ∧ N < 2147483647) (h : q_Rel Z x m N pb ns nk nc S S) (hlp : ∀ S', q_Re Z x m (N + 1) S' S' → lp (Int32.ofNat (i + 6), S') = some ()) : (m_lt (Int32.ofNat i + (1 : Int32)) (fun v363 => m_gd (m_in v363 L9) (m_bw (f_L_announce Z S x (xs9 v363.toNatClampNeg) q3) (fun v367 S366 => m_lt (Int32.ofNat i + (1 : Int32)) (fun v369 => m_gd (m_in v369 L9) (m_gd (m_ok Z m 9) (m_bw (f_X9_announce Z S366 m (xs9 v369.toNatClampNeg)) (fun v375 S374 => m_b1 (f_X9_thrown Z S374 m) (fun v377 => (if v377 = v367 then (if ¬ v367 = 0 then m_lt (Int32.ofNat i + (6 : Int32)) (fun v380 => lp (v380, S374)) else m_gd (m_ok Z q3 12) (m_gd (m_in (0 : Int32) (Z.2.2 q3)) ((if (lg_cmp (S374.2.1 q3 (0 : Int32).toNatClampNeg) v375.toInt64) = 0 then m_lt (Int32.ofNat i + (6 : Int32)) (fun v385 => lp (v385, S374)) else j36 S374)))) else j38 S374)))))))))) = some () := by
  have i1 : m_in (Int32.ofNat i + (1 : Int32)) L9 := by
    rw [show Int32.ofNat i + (1 : Int32) = Int32.ofNat (i + 1) from io_add i 1]; exact io_in (by omega) (by omega)
  rcases q_stepW (fm := fun T => f_X9_announce Z T m (xs9 (Int32.ofNat i + (1 : Int32)).toNatClampNeg)) hx h (fun T hT => J_announce hT  _) ne3 (fun a => a.toInt64) with ⟨a, S', e1, b, T'', e2, z, o, eq, hR⟩ | ⟨e, S', e1, b, T'', e2, hmem, hR⟩
  · have i0 : m_in (0 : Int32) (Z.2.2 q3) := q_inl (wi := 0) (i := 0) rfl o3 (by omega) (by omega)
    have eL : f_L_announce Z S x (xs9 (Int32.ofNat i + (1 : Int32)).toNatClampNeg) q3 = some (0, m_pJ S' q3 0 ((fun a => a.toInt64) a)) := by
      unfold f_L_announce
      rw [m_gd_t h.ox, e1]
      exact (m_gd_t o3.1).trans (m_gd_t i0)
    have eT : f_X9_thrown Z T'' m = some (T''.1 m 0) := m_gd_t h.M.o
    have ec : lg_cmp (T''.2.1 q3 (0 : Int32).toNatClampNeg) b.toInt64 = 0 := lg_cmp0.mpr (by rw [show (0 : Int32).toNatClampNeg = 0 from rfl, o, ← eq])
    rw [m_lt_s, m_gd_t i1, eL, m_bw_s, m_lt_s, m_gd_t i1, m_gd_t h.M.o, e2, m_bw_s, eT, m_b1_s, z, if_pos z00, if_neg nz0, m_gd_t o3.1, m_gd_t i0, if_pos ec, m_lt_s, show Int32.ofNat i + (6 : Int32) = Int32.ofNat (i + 6) from io_add i 6]
    exact hlp T'' hR
  · have eT : f_X9_thrown Z T'' m = some (T''.1 m 0) := m_gd_t h.M.o
    have hm : (e = "java/lang/IllegalArgumentException" ∧ T''.1 m 0 = 1) ∨ (e = "java/lang/IllegalStateException" ∧ T''.1 m 0 = 2) := by simpa using hmem
    rcases hm with ⟨rfl, hz⟩ | ⟨rfl, hz⟩
    · have eL : f_L_announce Z S x (xs9 (Int32.ofNat i + (1 : Int32)).toNatClampNeg) q3 = some (1, S') := by
        unfold f_L_announce
        rw [m_gd_t h.ox, e1]
        exact if_pos rfl
      rw [m_lt_s, m_gd_t i1, eL, m_bw_s, m_lt_s, m_gd_t i1, m_gd_t h.M.o, e2, m_bw_s, eT, m_b1_s, hz, if_pos rfl, if_pos (show ¬ (1 : Int32) = 0 by decide), m_lt_s, show Int32.ofNat i + (6 : Int32) = Int32.ofNat (i + 6) from io_add i 6]
      exact hlp T'' hR
    · have eL : f_L_announce Z S x (xs9 (Int32.ofNat i + (1 : Int32)).toNatClampNeg) q3 = some (2, S') := by
        unfold f_L_announce
        rw [m_gd_t h.ox, e1]
        exact (if_neg (by decide)).trans (if_pos rfl)
      rw [m_lt_s, m_gd_t i1, eL, m_bw_s, m_lt_s, m_gd_t i1, m_gd_t h.M.o, e2, m_bw_s, eT, m_b1_s, hz, if_pos rfl, if_pos (show ¬ (2 : Int32) = 0 by decide), m_lt_s, show Int32.ofNat i + (6 : Int32) = Int32.ofNat (i + 6) from io_add i 6]
      exact hlp T'' hR
theorem q_lc_10 (j40 j42 : m_S → Option Unit) (hx : m = x + 341) (hL : i + 6 ≤ L9) (hL2 : L9 ≤ 3072) (o3 : m_okn Z q3 12 1) (o4 : m_okn Z q4 19 1) (ne3 : ¬ (x ≤ q3 ∧ q3 < x + 355)) (ne4 : ¬ (x ≤ q4 ∧ q4 < x + 355)) (hN : 30 ≤ N ∧ N < 2147483647) (h : q_Rel Z x m N pb ns nk nc S S) (hlp : ∀ S', q_Re Z x m (N + 1) S' S' → lp (Int32.ofNat (i + 6), S') = some ()) : (m_lt (Int32.ofNat i + (1 : Int32)) (fun v388 => m_gd (m_in v388 L9) (m_lt (Int32.ofNat i + (2 : Int32)) (fun v391 => m_gd (m_in v391 L9) (m_bw (f_L_displayCase Z S x (xs9 v388.toNatClampNeg) (xs9 v391.toNatClampNeg) q3) (fun v395 S394 => m_lt (Int32.ofNat i + (1 : Int32)) (fun v397 => m_gd (m_in v397 L9) (m_lt (Int32.ofNat i + (2 : Int32)) (fun v400 => m_gd (m_in v400 L9) (m_gd (m_ok Z m 9) (m_bw (f_X9_displayCase Z S394 m (xs9 v397.toNatClampNeg) (xs9 v400.toNatClampNeg)) (fun v406 S405 => m_b1 (f_X9_thrown Z S405 m) (fun v408 => (if v408 = v395 then (if ¬ v395 = 0 then m_lt (Int32.ofNat i + (6 : Int32)) (fun v411 => lp (v411, S405)) else m_gd (m_ok Z q3 12) (m_gd (m_in (0 : Int32) (Z.2.2 q3)) ((if (lg_cmp (S405.2.1 q3 (0 : Int32).toNatClampNeg) v406.toInt64) = 0 then m_lt (Int32.ofNat i + (6 : Int32)) (fun v416 => lp (v416, S405)) else j40 S405)))) else j42 S405)))))))))))))) = some () := by
  have i1 : m_in (Int32.ofNat i + (1 : Int32)) L9 := by
    rw [show Int32.ofNat i + (1 : Int32) = Int32.ofNat (i + 1) from io_add i 1]; exact io_in (by omega) (by omega)
  have i2 : m_in (Int32.ofNat i + (2 : Int32)) L9 := by
    rw [show Int32.ofNat i + (2 : Int32) = Int32.ofNat (i + 2) from io_add i 2]; exact io_in (by omega) (by omega)
  rcases q_stepR (fm := fun T => f_X9_displayCase Z T m (xs9 (Int32.ofNat i + (1 : Int32)).toNatClampNeg) (xs9 (Int32.ofNat i + (2 : Int32)).toNatClampNeg)) hx h (fun T hT => J_displayCase hT  _ _) ne3 (fun a => a.toInt64) with ⟨a, e1, b, T'', e2, z, o, eq, hR⟩ | ⟨e, e1, b, T'', e2, hmem, hR⟩
  · have i0 : m_in (0 : Int32) (Z.2.2 q3) := q_inl (wi := 0) (i := 0) rfl o3 (by omega) (by omega)
    have eL : f_L_displayCase Z S x (xs9 (Int32.ofNat i + (1 : Int32)).toNatClampNeg) (xs9 (Int32.ofNat i + (2 : Int32)).toNatClampNeg) q3 = some (0, m_pJ S q3 0 ((fun a => a.toInt64) a)) := by
      unfold f_L_displayCase
      rw [m_gd_t h.ox, e1]
      exact (m_gd_t o3.1).trans (m_gd_t i0)
    have eT : f_X9_thrown Z T'' m = some (T''.1 m 0) := m_gd_t h.M.o
    have ec : lg_cmp (T''.2.1 q3 (0 : Int32).toNatClampNeg) b.toInt64 = 0 := lg_cmp0.mpr (by rw [show (0 : Int32).toNatClampNeg = 0 from rfl, o, ← eq])
    rw [m_lt_s, m_gd_t i1, m_lt_s, m_gd_t i2, eL, m_bw_s, m_lt_s, m_gd_t i1, m_lt_s, m_gd_t i2, m_gd_t h.M.o, e2, m_bw_s, eT, m_b1_s, z, if_pos z00, if_neg nz0, m_gd_t o3.1, m_gd_t i0, if_pos ec, m_lt_s, show Int32.ofNat i + (6 : Int32) = Int32.ofNat (i + 6) from io_add i 6]
    exact hlp T'' hR
  · have eT : f_X9_thrown Z T'' m = some (T''.1 m 0) := m_gd_t h.M.o
    have hm : (e = "java/lang/IndexOutOfBoundsException" ∧ T''.1 m 0 = 1) ∨ (e = "java/lang/IllegalArgumentException" ∧ T''.1 m 0 = 2) := by simpa using hmem
    rcases hm with ⟨rfl, hz⟩ | ⟨rfl, hz⟩
    · have eL : f_L_displayCase Z S x (xs9 (Int32.ofNat i + (1 : Int32)).toNatClampNeg) (xs9 (Int32.ofNat i + (2 : Int32)).toNatClampNeg) q3 = some (1, S) := by
        unfold f_L_displayCase
        rw [m_gd_t h.ox, e1]
        exact if_pos rfl
      rw [m_lt_s, m_gd_t i1, m_lt_s, m_gd_t i2, eL, m_bw_s, m_lt_s, m_gd_t i1, m_lt_s, m_gd_t i2, m_gd_t h.M.o, e2, m_bw_s, eT, m_b1_s, hz, if_pos rfl, if_pos (show ¬ (1 : Int32) = 0 by decide), m_lt_s, show Int32.ofNat i + (6 : Int32) = Int32.ofNat (i + 6) from io_add i 6]
      exact hlp T'' hR
    · have eL : f_L_displayCase Z S x (xs9 (Int32.ofNat i + (1 : Int32)).toNatClampNeg) (xs9 (Int32.ofNat i + (2 : Int32)).toNatClampNeg) q3 = some (2, S) := by
        unfold f_L_displayCase
        rw [m_gd_t h.ox, e1]
        exact (if_neg (by decide)).trans (if_pos rfl)
      rw [m_lt_s, m_gd_t i1, m_lt_s, m_gd_t i2, eL, m_bw_s, m_lt_s, m_gd_t i1, m_lt_s, m_gd_t i2, m_gd_t h.M.o, e2, m_bw_s, eT, m_b1_s, hz, if_pos rfl, if_pos (show ¬ (2 : Int32) = 0 by decide), m_lt_s, show Int32.ofNat i + (6 : Int32) = Int32.ofNat (i + 6) from io_add i 6]
      exact hlp T'' hR
theorem q_lc_11 (j44 j46 : m_S → Option Unit) (hx : m = x + 341) (hL : i + 6 ≤ L9) (hL2 : L9 ≤ 3072) (o3 : m_okn Z q3 12 1) (o4 : m_okn Z q4 19 1) (ne3 : ¬ (x ≤ q3 ∧ q3 < x + 355)) (ne4 : ¬ (x ≤ q4 ∧ q4 < x + 355)) (hN : 30 ≤ N ∧ N < 2147483647) (h : q_Rel Z x m N pb ns nk nc S S) (hlp : ∀ S', q_Re Z x m (N + 1) S' S' → lp (Int32.ofNat (i + 6), S') = some ()) : (m_lt (Int32.ofNat i + (1 : Int32)) (fun v419 => m_gd (m_in v419 L9) (m_lt (Int32.ofNat i + (2 : Int32)) (fun v422 => m_gd (m_in v422 L9) (m_bw (f_L_balance Z S x (xs9 v419.toNatClampNeg) (xs9 v422.toNatClampNeg) q3) (fun v426 S425 => m_lt (Int32.ofNat i + (1 : Int32)) (fun v428 => m_gd (m_in v428 L9) (m_lt (Int32.ofNat i + (2 : Int32)) (fun v431 => m_gd (m_in v431 L9) (m_gd (m_ok Z m 9) (m_bw (f_X9_balance Z S425 m (xs9 v428.toNatClampNeg) (xs9 v431.toNatClampNeg)) (fun w437 S436 => m_b1 (f_X9_thrown Z S436 m) (fun v439 => (if v439 = v426 then (if ¬ v426 = 0 then m_lt (Int32.ofNat i + (6 : Int32)) (fun v442 => lp (v442, S436)) else m_gd (m_ok Z q3 12) (m_gd (m_in (0 : Int32) (Z.2.2 q3)) ((if (lg_cmp (S436.2.1 q3 (0 : Int32).toNatClampNeg) w437) = 0 then m_lt (Int32.ofNat i + (6 : Int32)) (fun v447 => lp (v447, S436)) else j44 S436)))) else j46 S436)))))))))))))) = some () := by
  have i1 : m_in (Int32.ofNat i + (1 : Int32)) L9 := by
    rw [show Int32.ofNat i + (1 : Int32) = Int32.ofNat (i + 1) from io_add i 1]; exact io_in (by omega) (by omega)
  have i2 : m_in (Int32.ofNat i + (2 : Int32)) L9 := by
    rw [show Int32.ofNat i + (2 : Int32) = Int32.ofNat (i + 2) from io_add i 2]; exact io_in (by omega) (by omega)
  rcases q_stepR (fm := fun T => f_X9_balance Z T m (xs9 (Int32.ofNat i + (1 : Int32)).toNatClampNeg) (xs9 (Int32.ofNat i + (2 : Int32)).toNatClampNeg)) hx h (fun T hT => J_balance hT  _ _) ne3 (fun a => a) with ⟨a, e1, b, T'', e2, z, o, eq, hR⟩ | ⟨e, e1, b, T'', e2, hmem, hR⟩
  · have i0 : m_in (0 : Int32) (Z.2.2 q3) := q_inl (wi := 0) (i := 0) rfl o3 (by omega) (by omega)
    have eL : f_L_balance Z S x (xs9 (Int32.ofNat i + (1 : Int32)).toNatClampNeg) (xs9 (Int32.ofNat i + (2 : Int32)).toNatClampNeg) q3 = some (0, m_pJ S q3 0 ((fun a => a) a)) := by
      unfold f_L_balance
      rw [m_gd_t h.ox, e1]
      exact (m_gd_t o3.1).trans (m_gd_t i0)
    have eT : f_X9_thrown Z T'' m = some (T''.1 m 0) := m_gd_t h.M.o
    have ec : lg_cmp (T''.2.1 q3 (0 : Int32).toNatClampNeg) b = 0 := lg_cmp0.mpr (by rw [show (0 : Int32).toNatClampNeg = 0 from rfl, o, ← eq])
    rw [m_lt_s, m_gd_t i1, m_lt_s, m_gd_t i2, eL, m_bw_s, m_lt_s, m_gd_t i1, m_lt_s, m_gd_t i2, m_gd_t h.M.o, e2, m_bw_s, eT, m_b1_s, z, if_pos z00, if_neg nz0, m_gd_t o3.1, m_gd_t i0, if_pos ec, m_lt_s, show Int32.ofNat i + (6 : Int32) = Int32.ofNat (i + 6) from io_add i 6]
    exact hlp T'' hR
  · have eT : f_X9_thrown Z T'' m = some (T''.1 m 0) := m_gd_t h.M.o
    have hm : (e = "java/lang/IndexOutOfBoundsException" ∧ T''.1 m 0 = 1) ∨ (e = "java/lang/IllegalArgumentException" ∧ T''.1 m 0 = 2) := by simpa using hmem
    rcases hm with ⟨rfl, hz⟩ | ⟨rfl, hz⟩
    · have eL : f_L_balance Z S x (xs9 (Int32.ofNat i + (1 : Int32)).toNatClampNeg) (xs9 (Int32.ofNat i + (2 : Int32)).toNatClampNeg) q3 = some (1, S) := by
        unfold f_L_balance
        rw [m_gd_t h.ox, e1]
        exact if_pos rfl
      rw [m_lt_s, m_gd_t i1, m_lt_s, m_gd_t i2, eL, m_bw_s, m_lt_s, m_gd_t i1, m_lt_s, m_gd_t i2, m_gd_t h.M.o, e2, m_bw_s, eT, m_b1_s, hz, if_pos rfl, if_pos (show ¬ (1 : Int32) = 0 by decide), m_lt_s, show Int32.ofNat i + (6 : Int32) = Int32.ofNat (i + 6) from io_add i 6]
      exact hlp T'' hR
    · have eL : f_L_balance Z S x (xs9 (Int32.ofNat i + (1 : Int32)).toNatClampNeg) (xs9 (Int32.ofNat i + (2 : Int32)).toNatClampNeg) q3 = some (2, S) := by
        unfold f_L_balance
        rw [m_gd_t h.ox, e1]
        exact (if_neg (by decide)).trans (if_pos rfl)
      rw [m_lt_s, m_gd_t i1, m_lt_s, m_gd_t i2, eL, m_bw_s, m_lt_s, m_gd_t i1, m_lt_s, m_gd_t i2, m_gd_t h.M.o, e2, m_bw_s, eT, m_b1_s, hz, if_pos rfl, if_pos (show ¬ (2 : Int32) = 0 by decide), m_lt_s, show Int32.ofNat i + (6 : Int32) = Int32.ofNat (i + 6) from io_add i 6]
      exact hlp T'' hR
theorem q_lc_12 (j48 j50 : m_S → Option Unit) (hx : m = x + 341) (hL : i + 6 ≤ L9) (hL2 : L9 ≤ 3072) (o3 : m_okn Z q3 12 1) (o4 : m_okn Z q4 19 1) (ne3 : ¬ (x ≤ q3 ∧ q3 < x + 355)) (ne4 : ¬ (x ≤ q4 ∧ q4 < x + 355)) (hN : 30 ≤ N ∧ N < 2147483647) (h : q_Rel Z x m N pb ns nk nc S S) (hlp : ∀ S', q_Re Z x m (N + 1) S' S' → lp (Int32.ofNat (i + 6), S') = some ()) : (m_lt (Int32.ofNat i + (1 : Int32)) (fun v450 => m_gd (m_in v450 L9) (m_lt (Int32.ofNat i + (2 : Int32)) (fun v453 => m_gd (m_in v453 L9) (m_bw (f_L_recorded Z S x (xs9 v450.toNatClampNeg) (xs9 v453.toNatClampNeg) q3) (fun v457 S456 => m_lt (Int32.ofNat i + (1 : Int32)) (fun v459 => m_gd (m_in v459 L9) (m_lt (Int32.ofNat i + (2 : Int32)) (fun v462 => m_gd (m_in v462 L9) (m_gd (m_ok Z m 9) (m_bw (f_X9_recorded Z S456 m (xs9 v459.toNatClampNeg) (xs9 v462.toNatClampNeg)) (fun v468 S467 => m_b1 (f_X9_thrown Z S467 m) (fun v470 => (if v470 = v457 then (if ¬ v457 = 0 then m_lt (Int32.ofNat i + (6 : Int32)) (fun v473 => lp (v473, S467)) else m_gd (m_ok Z q3 12) (m_gd (m_in (0 : Int32) (Z.2.2 q3)) ((if (lg_cmp (S467.2.1 q3 (0 : Int32).toNatClampNeg) v468.toInt64) = 0 then m_lt (Int32.ofNat i + (6 : Int32)) (fun v478 => lp (v478, S467)) else j48 S467)))) else j50 S467)))))))))))))) = some () := by
  have i1 : m_in (Int32.ofNat i + (1 : Int32)) L9 := by
    rw [show Int32.ofNat i + (1 : Int32) = Int32.ofNat (i + 1) from io_add i 1]; exact io_in (by omega) (by omega)
  have i2 : m_in (Int32.ofNat i + (2 : Int32)) L9 := by
    rw [show Int32.ofNat i + (2 : Int32) = Int32.ofNat (i + 2) from io_add i 2]; exact io_in (by omega) (by omega)
  rcases q_stepR (fm := fun T => f_X9_recorded Z T m (xs9 (Int32.ofNat i + (1 : Int32)).toNatClampNeg) (xs9 (Int32.ofNat i + (2 : Int32)).toNatClampNeg)) hx h (fun T hT => J_recorded hT  _ _) ne3 (fun a => a.toInt64) with ⟨a, e1, b, T'', e2, z, o, eq, hR⟩ | ⟨e, e1, b, T'', e2, hmem, hR⟩
  · have i0 : m_in (0 : Int32) (Z.2.2 q3) := q_inl (wi := 0) (i := 0) rfl o3 (by omega) (by omega)
    have eL : f_L_recorded Z S x (xs9 (Int32.ofNat i + (1 : Int32)).toNatClampNeg) (xs9 (Int32.ofNat i + (2 : Int32)).toNatClampNeg) q3 = some (0, m_pJ S q3 0 ((fun a => a.toInt64) a)) := by
      unfold f_L_recorded
      rw [m_gd_t h.ox, e1]
      exact (m_gd_t o3.1).trans (m_gd_t i0)
    have eT : f_X9_thrown Z T'' m = some (T''.1 m 0) := m_gd_t h.M.o
    have ec : lg_cmp (T''.2.1 q3 (0 : Int32).toNatClampNeg) b.toInt64 = 0 := lg_cmp0.mpr (by rw [show (0 : Int32).toNatClampNeg = 0 from rfl, o, ← eq])
    rw [m_lt_s, m_gd_t i1, m_lt_s, m_gd_t i2, eL, m_bw_s, m_lt_s, m_gd_t i1, m_lt_s, m_gd_t i2, m_gd_t h.M.o, e2, m_bw_s, eT, m_b1_s, z, if_pos z00, if_neg nz0, m_gd_t o3.1, m_gd_t i0, if_pos ec, m_lt_s, show Int32.ofNat i + (6 : Int32) = Int32.ofNat (i + 6) from io_add i 6]
    exact hlp T'' hR
  · have eT : f_X9_thrown Z T'' m = some (T''.1 m 0) := m_gd_t h.M.o
    have hm : (e = "java/lang/IndexOutOfBoundsException" ∧ T''.1 m 0 = 1) ∨ (e = "java/lang/IllegalArgumentException" ∧ T''.1 m 0 = 2) ∨ (e = "java/util/NoSuchElementException" ∧ T''.1 m 0 = 3) := by simpa using hmem
    rcases hm with ⟨rfl, hz⟩ | ⟨rfl, hz⟩ | ⟨rfl, hz⟩
    · have eL : f_L_recorded Z S x (xs9 (Int32.ofNat i + (1 : Int32)).toNatClampNeg) (xs9 (Int32.ofNat i + (2 : Int32)).toNatClampNeg) q3 = some (1, S) := by
        unfold f_L_recorded
        rw [m_gd_t h.ox, e1]
        exact if_pos rfl
      rw [m_lt_s, m_gd_t i1, m_lt_s, m_gd_t i2, eL, m_bw_s, m_lt_s, m_gd_t i1, m_lt_s, m_gd_t i2, m_gd_t h.M.o, e2, m_bw_s, eT, m_b1_s, hz, if_pos rfl, if_pos (show ¬ (1 : Int32) = 0 by decide), m_lt_s, show Int32.ofNat i + (6 : Int32) = Int32.ofNat (i + 6) from io_add i 6]
      exact hlp T'' hR
    · have eL : f_L_recorded Z S x (xs9 (Int32.ofNat i + (1 : Int32)).toNatClampNeg) (xs9 (Int32.ofNat i + (2 : Int32)).toNatClampNeg) q3 = some (2, S) := by
        unfold f_L_recorded
        rw [m_gd_t h.ox, e1]
        exact (if_neg (by decide)).trans (if_pos rfl)
      rw [m_lt_s, m_gd_t i1, m_lt_s, m_gd_t i2, eL, m_bw_s, m_lt_s, m_gd_t i1, m_lt_s, m_gd_t i2, m_gd_t h.M.o, e2, m_bw_s, eT, m_b1_s, hz, if_pos rfl, if_pos (show ¬ (2 : Int32) = 0 by decide), m_lt_s, show Int32.ofNat i + (6 : Int32) = Int32.ofNat (i + 6) from io_add i 6]
      exact hlp T'' hR
    · have eL : f_L_recorded Z S x (xs9 (Int32.ofNat i + (1 : Int32)).toNatClampNeg) (xs9 (Int32.ofNat i + (2 : Int32)).toNatClampNeg) q3 = some (3, S) := by
        unfold f_L_recorded
        rw [m_gd_t h.ox, e1]
        exact (if_neg (by decide)).trans ((if_neg (by decide)).trans (if_pos rfl))
      rw [m_lt_s, m_gd_t i1, m_lt_s, m_gd_t i2, eL, m_bw_s, m_lt_s, m_gd_t i1, m_lt_s, m_gd_t i2, m_gd_t h.M.o, e2, m_bw_s, eT, m_b1_s, hz, if_pos rfl, if_pos (show ¬ (3 : Int32) = 0 by decide), m_lt_s, show Int32.ofNat i + (6 : Int32) = Int32.ofNat (i + 6) from io_add i 6]
      exact hlp T'' hR
theorem q_lc_13 (j52 j54 : m_S → Option Unit) (hx : m = x + 341) (hL : i + 6 ≤ L9) (hL2 : L9 ≤ 3072) (o3 : m_okn Z q3 12 1) (o4 : m_okn Z q4 19 1) (ne3 : ¬ (x ≤ q3 ∧ q3 < x + 355)) (ne4 : ¬ (x ≤ q4 ∧ q4 < x + 355)) (hN : 30 ≤ N ∧ N < 2147483647) (h : q_Rel Z x m N pb ns nk nc S S) (hlp : ∀ S', q_Re Z x m (N + 1) S' S' → lp (Int32.ofNat (i + 6), S') = some ()) : (m_lt (Int32.ofNat i + (1 : Int32)) (fun v481 => m_gd (m_in v481 L9) (m_bw (f_L_swing Z S x (xs9 v481.toNatClampNeg) q3) (fun v485 S484 => m_lt (Int32.ofNat i + (1 : Int32)) (fun v487 => m_gd (m_in v487 L9) (m_gd (m_ok Z m 9) (m_bw (f_X9_swing Z S484 m (xs9 v487.toNatClampNeg)) (fun v493 S492 => m_b1 (f_X9_thrown Z S492 m) (fun v495 => (if v495 = v485 then (if ¬ v485 = 0 then m_lt (Int32.ofNat i + (6 : Int32)) (fun v498 => lp (v498, S492)) else m_gd (m_ok Z q3 12) (m_gd (m_in (0 : Int32) (Z.2.2 q3)) ((if (lg_cmp (S492.2.1 q3 (0 : Int32).toNatClampNeg) v493.toInt64) = 0 then m_lt (Int32.ofNat i + (6 : Int32)) (fun v503 => lp (v503, S492)) else j52 S492)))) else j54 S492)))))))))) = some () := by
  have i1 : m_in (Int32.ofNat i + (1 : Int32)) L9 := by
    rw [show Int32.ofNat i + (1 : Int32) = Int32.ofNat (i + 1) from io_add i 1]; exact io_in (by omega) (by omega)
  rcases q_stepR (fm := fun T => f_X9_swing Z T m (xs9 (Int32.ofNat i + (1 : Int32)).toNatClampNeg)) hx h (fun T hT => J_swing hT  _) ne3 (fun a => a.toInt64) with ⟨a, e1, b, T'', e2, z, o, eq, hR⟩ | ⟨e, e1, b, T'', e2, hmem, hR⟩
  · have i0 : m_in (0 : Int32) (Z.2.2 q3) := q_inl (wi := 0) (i := 0) rfl o3 (by omega) (by omega)
    have eL : f_L_swing Z S x (xs9 (Int32.ofNat i + (1 : Int32)).toNatClampNeg) q3 = some (0, m_pJ S q3 0 ((fun a => a.toInt64) a)) := by
      unfold f_L_swing
      rw [m_gd_t h.ox, e1]
      exact (m_gd_t o3.1).trans (m_gd_t i0)
    have eT : f_X9_thrown Z T'' m = some (T''.1 m 0) := m_gd_t h.M.o
    have ec : lg_cmp (T''.2.1 q3 (0 : Int32).toNatClampNeg) b.toInt64 = 0 := lg_cmp0.mpr (by rw [show (0 : Int32).toNatClampNeg = 0 from rfl, o, ← eq])
    rw [m_lt_s, m_gd_t i1, eL, m_bw_s, m_lt_s, m_gd_t i1, m_gd_t h.M.o, e2, m_bw_s, eT, m_b1_s, z, if_pos z00, if_neg nz0, m_gd_t o3.1, m_gd_t i0, if_pos ec, m_lt_s, show Int32.ofNat i + (6 : Int32) = Int32.ofNat (i + 6) from io_add i 6]
    exact hlp T'' hR
  · have eT : f_X9_thrown Z T'' m = some (T''.1 m 0) := m_gd_t h.M.o
    have hm : (e = "java/lang/IndexOutOfBoundsException" ∧ T''.1 m 0 = 1) ∨ (e = "java/util/NoSuchElementException" ∧ T''.1 m 0 = 2) := by simpa using hmem
    rcases hm with ⟨rfl, hz⟩ | ⟨rfl, hz⟩
    · have eL : f_L_swing Z S x (xs9 (Int32.ofNat i + (1 : Int32)).toNatClampNeg) q3 = some (1, S) := by
        unfold f_L_swing
        rw [m_gd_t h.ox, e1]
        exact if_pos rfl
      rw [m_lt_s, m_gd_t i1, eL, m_bw_s, m_lt_s, m_gd_t i1, m_gd_t h.M.o, e2, m_bw_s, eT, m_b1_s, hz, if_pos rfl, if_pos (show ¬ (1 : Int32) = 0 by decide), m_lt_s, show Int32.ofNat i + (6 : Int32) = Int32.ofNat (i + 6) from io_add i 6]
      exact hlp T'' hR
    · have eL : f_L_swing Z S x (xs9 (Int32.ofNat i + (1 : Int32)).toNatClampNeg) q3 = some (2, S) := by
        unfold f_L_swing
        rw [m_gd_t h.ox, e1]
        exact (if_neg (by decide)).trans (if_pos rfl)
      rw [m_lt_s, m_gd_t i1, eL, m_bw_s, m_lt_s, m_gd_t i1, m_gd_t h.M.o, e2, m_bw_s, eT, m_b1_s, hz, if_pos rfl, if_pos (show ¬ (2 : Int32) = 0 by decide), m_lt_s, show Int32.ofNat i + (6 : Int32) = Int32.ofNat (i + 6) from io_add i 6]
      exact hlp T'' hR
theorem q_lc_14 (j56 j58 : m_S → Option Unit) (hx : m = x + 341) (hL : i + 6 ≤ L9) (hL2 : L9 ≤ 3072) (o3 : m_okn Z q3 12 1) (o4 : m_okn Z q4 19 1) (ne3 : ¬ (x ≤ q3 ∧ q3 < x + 355)) (ne4 : ¬ (x ≤ q4 ∧ q4 < x + 355)) (hN : 30 ≤ N ∧ N < 2147483647) (h : q_Rel Z x m N pb ns nk nc S S) (hlp : ∀ S', q_Re Z x m (N + 1) S' S' → lp (Int32.ofNat (i + 6), S') = some ()) : (m_lt (Int32.ofNat i + (1 : Int32)) (fun v506 => m_gd (m_in v506 L9) (m_bw (f_L_mean Z S x (xs9 v506.toNatClampNeg) q4) (fun v510 S509 => m_lt (Int32.ofNat i + (1 : Int32)) (fun v512 => m_gd (m_in v512 L9) (m_gd (m_ok Z m 9) (m_bw (f_X9_mean Z S509 m (xs9 v512.toNatClampNeg)) (fun d518 S517 => m_b1 (f_X9_thrown Z S517 m) (fun v520 => (if v520 = v510 then (if ¬ v510 = 0 then m_lt (Int32.ofNat i + (6 : Int32)) (fun v523 => lp (v523, S517)) else m_gd (m_ok Z q4 19) (m_gd (m_in (0 : Int32) (Z.2.2 q4)) ((if (Op.cmpValue (FP.dcmp ((S517.2.1 q4 (0 : Int32).toNatClampNeg).toUInt64) d518) CmpOp.l) = 0 then m_lt (Int32.ofNat i + (6 : Int32)) (fun v528 => lp (v528, S517)) else m_gd (m_in (0 : Int32) (Z.2.2 q4)) (m_gd (m_in (0 : Int32) (Z.2.2 q4)) ((if (Op.cmpValue (FP.dcmp ((S517.2.1 q4 (0 : Int32).toNatClampNeg).toUInt64) ((S517.2.1 q4 (0 : Int32).toNatClampNeg).toUInt64)) CmpOp.l) = 0 then j56 S517 else (if ¬ (Op.cmpValue (FP.dcmp d518 d518) CmpOp.l) = 0 then m_lt (Int32.ofNat i + (6 : Int32)) (fun v534 => lp (v534, S517)) else j56 S517)))))))) else j58 S517)))))))))) = some () := by
  have i1 : m_in (Int32.ofNat i + (1 : Int32)) L9 := by
    rw [show Int32.ofNat i + (1 : Int32) = Int32.ofNat (i + 1) from io_add i 1]; exact io_in (by omega) (by omega)
  rcases q_stepR (fm := fun T => f_X9_mean Z T m (xs9 (Int32.ofNat i + (1 : Int32)).toNatClampNeg)) hx h (fun T hT => J_mean hT  _) ne4 (fun a => a.toInt64) with ⟨a, e1, b, T'', e2, z, o, eq, hR⟩ | ⟨e, e1, b, T'', e2, hmem, hR⟩
  · have i0 : m_in (0 : Int32) (Z.2.2 q4) := q_inl (wi := 0) (i := 0) rfl o4 (by omega) (by omega)
    have eL : f_L_mean Z S x (xs9 (Int32.ofNat i + (1 : Int32)).toNatClampNeg) q4 = some (0, m_pJ S q4 0 ((fun a => a.toInt64) a)) := by
      unfold f_L_mean
      rw [m_gd_t h.ox, e1]
      exact (m_gd_t o4.1).trans (m_gd_t i0)
    have eT : f_X9_thrown Z T'' m = some (T''.1 m 0) := m_gd_t h.M.o
    have ed : (T''.2.1 q4 (0 : Int32).toNatClampNeg).toUInt64 = b := by rw [show (0 : Int32).toNatClampNeg = 0 from rfl, o, ← eq]; exact UInt64.toUInt64_toInt64 a
    rw [m_lt_s, m_gd_t i1, eL, m_bw_s, m_lt_s, m_gd_t i1, m_gd_t h.M.o, e2, m_bw_s, eT, m_b1_s, z, if_pos z00, if_neg nz0, m_gd_t o4.1, m_gd_t i0, ed]
    by_cases w : (Op.cmpValue (FP.dcmp b b) CmpOp.l) = 0
    · rw [if_pos w, m_lt_s, show Int32.ofNat i + (6 : Int32) = Int32.ofNat (i + 6) from io_add i 6]
      exact hlp T'' hR
    · rw [if_neg w, m_gd_t i0, m_gd_t i0, if_neg w, if_pos w, m_lt_s, show Int32.ofNat i + (6 : Int32) = Int32.ofNat (i + 6) from io_add i 6]
      exact hlp T'' hR
  · have eT : f_X9_thrown Z T'' m = some (T''.1 m 0) := m_gd_t h.M.o
    have hm : (e = "java/lang/IndexOutOfBoundsException" ∧ T''.1 m 0 = 1) ∨ (e = "java/util/NoSuchElementException" ∧ T''.1 m 0 = 2) := by simpa using hmem
    rcases hm with ⟨rfl, hz⟩ | ⟨rfl, hz⟩
    · have eL : f_L_mean Z S x (xs9 (Int32.ofNat i + (1 : Int32)).toNatClampNeg) q4 = some (1, S) := by
        unfold f_L_mean
        rw [m_gd_t h.ox, e1]
        exact if_pos rfl
      rw [m_lt_s, m_gd_t i1, eL, m_bw_s, m_lt_s, m_gd_t i1, m_gd_t h.M.o, e2, m_bw_s, eT, m_b1_s, hz, if_pos rfl, if_pos (show ¬ (1 : Int32) = 0 by decide), m_lt_s, show Int32.ofNat i + (6 : Int32) = Int32.ofNat (i + 6) from io_add i 6]
      exact hlp T'' hR
    · have eL : f_L_mean Z S x (xs9 (Int32.ofNat i + (1 : Int32)).toNatClampNeg) q4 = some (2, S) := by
        unfold f_L_mean
        rw [m_gd_t h.ox, e1]
        exact (if_neg (by decide)).trans (if_pos rfl)
      rw [m_lt_s, m_gd_t i1, eL, m_bw_s, m_lt_s, m_gd_t i1, m_gd_t h.M.o, e2, m_bw_s, eT, m_b1_s, hz, if_pos rfl, if_pos (show ¬ (2 : Int32) = 0 by decide), m_lt_s, show Int32.ofNat i + (6 : Int32) = Int32.ofNat (i + 6) from io_add i 6]
      exact hlp T'' hR
theorem q_lc_15 (j60 j62 : m_S → Option Unit) (hx : m = x + 341) (hL : i + 6 ≤ L9) (hL2 : L9 ≤ 3072) (o3 : m_okn Z q3 12 1) (o4 : m_okn Z q4 19 1) (ne3 : ¬ (x ≤ q3 ∧ q3 < x + 355)) (ne4 : ¬ (x ≤ q4 ∧ q4 < x + 355)) (hN : 30 ≤ N ∧ N < 2147483647) (h : q_Rel Z x m N pb ns nk nc S S) (hlp : ∀ S', q_Re Z x m (N + 1) S' S' → lp (Int32.ofNat (i + 6), S') = some ()) : (m_lt (Int32.ofNat i + (1 : Int32)) (fun v537 => m_gd (m_in v537 L9) (m_bw (f_L_buffering Z S x (xs9 v537.toNatClampNeg) q4) (fun v541 S540 => m_lt (Int32.ofNat i + (1 : Int32)) (fun v543 => m_gd (m_in v543 L9) (m_gd (m_ok Z m 9) (m_bw (f_X9_buffering Z S540 m (xs9 v543.toNatClampNeg)) (fun d549 S548 => m_b1 (f_X9_thrown Z S548 m) (fun v551 => (if v551 = v541 then (if ¬ v541 = 0 then m_lt (Int32.ofNat i + (6 : Int32)) (fun v554 => lp (v554, S548)) else m_gd (m_ok Z q4 19) (m_gd (m_in (0 : Int32) (Z.2.2 q4)) ((if (Op.cmpValue (FP.dcmp ((S548.2.1 q4 (0 : Int32).toNatClampNeg).toUInt64) d549) CmpOp.l) = 0 then m_lt (Int32.ofNat i + (6 : Int32)) (fun v559 => lp (v559, S548)) else m_gd (m_in (0 : Int32) (Z.2.2 q4)) (m_gd (m_in (0 : Int32) (Z.2.2 q4)) ((if (Op.cmpValue (FP.dcmp ((S548.2.1 q4 (0 : Int32).toNatClampNeg).toUInt64) ((S548.2.1 q4 (0 : Int32).toNatClampNeg).toUInt64)) CmpOp.l) = 0 then j60 S548 else (if ¬ (Op.cmpValue (FP.dcmp d549 d549) CmpOp.l) = 0 then m_lt (Int32.ofNat i + (6 : Int32)) (fun v565 => lp (v565, S548)) else j60 S548)))))))) else j62 S548)))))))))) = some () := by
  have i1 : m_in (Int32.ofNat i + (1 : Int32)) L9 := by
    rw [show Int32.ofNat i + (1 : Int32) = Int32.ofNat (i + 1) from io_add i 1]; exact io_in (by omega) (by omega)
  rcases q_stepR (fm := fun T => f_X9_buffering Z T m (xs9 (Int32.ofNat i + (1 : Int32)).toNatClampNeg)) hx h (fun T hT => J_buffering hT  _) ne4 (fun a => a.toInt64) with ⟨a, e1, b, T'', e2, z, o, eq, hR⟩ | ⟨e, e1, b, T'', e2, hmem, hR⟩
  · have i0 : m_in (0 : Int32) (Z.2.2 q4) := q_inl (wi := 0) (i := 0) rfl o4 (by omega) (by omega)
    have eL : f_L_buffering Z S x (xs9 (Int32.ofNat i + (1 : Int32)).toNatClampNeg) q4 = some (0, m_pJ S q4 0 ((fun a => a.toInt64) a)) := by
      unfold f_L_buffering
      rw [m_gd_t h.ox, e1]
      exact (m_gd_t o4.1).trans (m_gd_t i0)
    have eT : f_X9_thrown Z T'' m = some (T''.1 m 0) := m_gd_t h.M.o
    have ed : (T''.2.1 q4 (0 : Int32).toNatClampNeg).toUInt64 = b := by rw [show (0 : Int32).toNatClampNeg = 0 from rfl, o, ← eq]; exact UInt64.toUInt64_toInt64 a
    rw [m_lt_s, m_gd_t i1, eL, m_bw_s, m_lt_s, m_gd_t i1, m_gd_t h.M.o, e2, m_bw_s, eT, m_b1_s, z, if_pos z00, if_neg nz0, m_gd_t o4.1, m_gd_t i0, ed]
    by_cases w : (Op.cmpValue (FP.dcmp b b) CmpOp.l) = 0
    · rw [if_pos w, m_lt_s, show Int32.ofNat i + (6 : Int32) = Int32.ofNat (i + 6) from io_add i 6]
      exact hlp T'' hR
    · rw [if_neg w, m_gd_t i0, m_gd_t i0, if_neg w, if_pos w, m_lt_s, show Int32.ofNat i + (6 : Int32) = Int32.ofNat (i + 6) from io_add i 6]
      exact hlp T'' hR
  · have eT : f_X9_thrown Z T'' m = some (T''.1 m 0) := m_gd_t h.M.o
    have hm : (e = "java/lang/IndexOutOfBoundsException" ∧ T''.1 m 0 = 1) ∨ (e = "java/util/NoSuchElementException" ∧ T''.1 m 0 = 2) := by simpa using hmem
    rcases hm with ⟨rfl, hz⟩ | ⟨rfl, hz⟩
    · have eL : f_L_buffering Z S x (xs9 (Int32.ofNat i + (1 : Int32)).toNatClampNeg) q4 = some (1, S) := by
        unfold f_L_buffering
        rw [m_gd_t h.ox, e1]
        exact if_pos rfl
      rw [m_lt_s, m_gd_t i1, eL, m_bw_s, m_lt_s, m_gd_t i1, m_gd_t h.M.o, e2, m_bw_s, eT, m_b1_s, hz, if_pos rfl, if_pos (show ¬ (1 : Int32) = 0 by decide), m_lt_s, show Int32.ofNat i + (6 : Int32) = Int32.ofNat (i + 6) from io_add i 6]
      exact hlp T'' hR
    · have eL : f_L_buffering Z S x (xs9 (Int32.ofNat i + (1 : Int32)).toNatClampNeg) q4 = some (2, S) := by
        unfold f_L_buffering
        rw [m_gd_t h.ox, e1]
        exact (if_neg (by decide)).trans (if_pos rfl)
      rw [m_lt_s, m_gd_t i1, eL, m_bw_s, m_lt_s, m_gd_t i1, m_gd_t h.M.o, e2, m_bw_s, eT, m_b1_s, hz, if_pos rfl, if_pos (show ¬ (2 : Int32) = 0 by decide), m_lt_s, show Int32.ofNat i + (6 : Int32) = Int32.ofNat (i + 6) from io_add i 6]
      exact hlp T'' hR
theorem q_lc_16 (j64 j66 : m_S → Option Unit) (hx : m = x + 341) (hL : i + 6 ≤ L9) (hL2 : L9 ≤ 3072) (o3 : m_okn Z q3 12 1) (o4 : m_okn Z q4 19 1) (ne3 : ¬ (x ≤ q3 ∧ q3 < x + 355)) (ne4 : ¬ (x ≤ q4 ∧ q4 < x + 355)) (hN : 30 ≤ N ∧ N < 2147483647) (h : q_Rel Z x m N pb ns nk nc S S) (hlp : ∀ S', q_Re Z x m (N + 1) S' S' → lp (Int32.ofNat (i + 6), S') = some ()) : (m_lt (Int32.ofNat i + (1 : Int32)) (fun v568 => m_gd (m_in v568 L9) (m_lt (Int32.ofNat i + (2 : Int32)) (fun v571 => m_gd (m_in v571 L9) (m_bw (f_L_setLeak Z S x (xs9 v568.toNatClampNeg) (xs9 v571.toNatClampNeg) q3) (fun v575 S574 => m_lt (Int32.ofNat i + (1 : Int32)) (fun v577 => m_gd (m_in v577 L9) (m_lt (Int32.ofNat i + (2 : Int32)) (fun v580 => m_gd (m_in v580 L9) (m_gd (m_ok Z m 9) (m_bw (f_X9_setLeak Z S574 m (xs9 v577.toNatClampNeg) (xs9 v580.toNatClampNeg)) (fun v586 S585 => m_b1 (f_X9_thrown Z S585 m) (fun v588 => (if v588 = v575 then (if ¬ v575 = 0 then m_lt (Int32.ofNat i + (6 : Int32)) (fun v591 => lp (v591, S585)) else m_gd (m_ok Z q3 12) (m_gd (m_in (0 : Int32) (Z.2.2 q3)) ((if (lg_cmp (S585.2.1 q3 (0 : Int32).toNatClampNeg) v586.toInt64) = 0 then m_lt (Int32.ofNat i + (6 : Int32)) (fun v596 => lp (v596, S585)) else j64 S585)))) else j66 S585)))))))))))))) = some () := by
  have i1 : m_in (Int32.ofNat i + (1 : Int32)) L9 := by
    rw [show Int32.ofNat i + (1 : Int32) = Int32.ofNat (i + 1) from io_add i 1]; exact io_in (by omega) (by omega)
  have i2 : m_in (Int32.ofNat i + (2 : Int32)) L9 := by
    rw [show Int32.ofNat i + (2 : Int32) = Int32.ofNat (i + 2) from io_add i 2]; exact io_in (by omega) (by omega)
  rcases q_stepW (fm := fun T => f_X9_setLeak Z T m (xs9 (Int32.ofNat i + (1 : Int32)).toNatClampNeg) (xs9 (Int32.ofNat i + (2 : Int32)).toNatClampNeg)) hx h (fun T hT => J_setLeak hT  _ _) ne3 (fun a => a.toInt64) with ⟨a, S', e1, b, T'', e2, z, o, eq, hR⟩ | ⟨e, S', e1, b, T'', e2, hmem, hR⟩
  · have i0 : m_in (0 : Int32) (Z.2.2 q3) := q_inl (wi := 0) (i := 0) rfl o3 (by omega) (by omega)
    have eL : f_L_setLeak Z S x (xs9 (Int32.ofNat i + (1 : Int32)).toNatClampNeg) (xs9 (Int32.ofNat i + (2 : Int32)).toNatClampNeg) q3 = some (0, m_pJ S' q3 0 ((fun a => a.toInt64) a)) := by
      unfold f_L_setLeak
      rw [m_gd_t h.ox, e1]
      exact (m_gd_t o3.1).trans (m_gd_t i0)
    have eT : f_X9_thrown Z T'' m = some (T''.1 m 0) := m_gd_t h.M.o
    have ec : lg_cmp (T''.2.1 q3 (0 : Int32).toNatClampNeg) b.toInt64 = 0 := lg_cmp0.mpr (by rw [show (0 : Int32).toNatClampNeg = 0 from rfl, o, ← eq])
    rw [m_lt_s, m_gd_t i1, m_lt_s, m_gd_t i2, eL, m_bw_s, m_lt_s, m_gd_t i1, m_lt_s, m_gd_t i2, m_gd_t h.M.o, e2, m_bw_s, eT, m_b1_s, z, if_pos z00, if_neg nz0, m_gd_t o3.1, m_gd_t i0, if_pos ec, m_lt_s, show Int32.ofNat i + (6 : Int32) = Int32.ofNat (i + 6) from io_add i 6]
    exact hlp T'' hR
  · have eT : f_X9_thrown Z T'' m = some (T''.1 m 0) := m_gd_t h.M.o
    have hm : (e = "java/lang/IndexOutOfBoundsException" ∧ T''.1 m 0 = 1) ∨ (e = "java/lang/IllegalArgumentException" ∧ T''.1 m 0 = 2) := by simpa using hmem
    rcases hm with ⟨rfl, hz⟩ | ⟨rfl, hz⟩
    · have eL : f_L_setLeak Z S x (xs9 (Int32.ofNat i + (1 : Int32)).toNatClampNeg) (xs9 (Int32.ofNat i + (2 : Int32)).toNatClampNeg) q3 = some (1, S') := by
        unfold f_L_setLeak
        rw [m_gd_t h.ox, e1]
        exact if_pos rfl
      rw [m_lt_s, m_gd_t i1, m_lt_s, m_gd_t i2, eL, m_bw_s, m_lt_s, m_gd_t i1, m_lt_s, m_gd_t i2, m_gd_t h.M.o, e2, m_bw_s, eT, m_b1_s, hz, if_pos rfl, if_pos (show ¬ (1 : Int32) = 0 by decide), m_lt_s, show Int32.ofNat i + (6 : Int32) = Int32.ofNat (i + 6) from io_add i 6]
      exact hlp T'' hR
    · have eL : f_L_setLeak Z S x (xs9 (Int32.ofNat i + (1 : Int32)).toNatClampNeg) (xs9 (Int32.ofNat i + (2 : Int32)).toNatClampNeg) q3 = some (2, S') := by
        unfold f_L_setLeak
        rw [m_gd_t h.ox, e1]
        exact (if_neg (by decide)).trans (if_pos rfl)
      rw [m_lt_s, m_gd_t i1, m_lt_s, m_gd_t i2, eL, m_bw_s, m_lt_s, m_gd_t i1, m_lt_s, m_gd_t i2, m_gd_t h.M.o, e2, m_bw_s, eT, m_b1_s, hz, if_pos rfl, if_pos (show ¬ (2 : Int32) = 0 by decide), m_lt_s, show Int32.ofNat i + (6 : Int32) = Int32.ofNat (i + 6) from io_add i 6]
      exact hlp T'' hR
theorem q_lc_17 (j68 : m_S → Option Unit) (hx : m = x + 341) (hL : i + 6 ≤ L9) (hL2 : L9 ≤ 3072) (o3 : m_okn Z q3 12 1) (o4 : m_okn Z q4 19 1) (ne3 : ¬ (x ≤ q3 ∧ q3 < x + 355)) (ne4 : ¬ (x ≤ q4 ∧ q4 < x + 355)) (hN : 30 ≤ N ∧ N < 2147483647) (h : q_Rel Z x m N pb ns nk nc S S) (hlp : ∀ S', q_Re Z x m (N + 1) S' S' → lp (Int32.ofNat (i + 6), S') = some ()) : (m_lt (Int32.ofNat i + (1 : Int32)) (fun v599 => m_gd (m_in v599 L9) (m_lt (Int32.ofNat i + (2 : Int32)) (fun v602 => m_gd (m_in v602 L9) (m_lt (Int32.ofNat i + (3 : Int32)) (fun v605 => m_gd (m_in v605 L9) (m_bw (f_L_setSafe Z S x (xs9 v599.toNatClampNeg) (xs9 v602.toNatClampNeg) (xs9 v605.toNatClampNeg)) (fun v609 S608 => m_lt (Int32.ofNat i + (1 : Int32)) (fun v611 => m_gd (m_in v611 L9) (m_lt (Int32.ofNat i + (2 : Int32)) (fun v614 => m_gd (m_in v614 L9) (m_lt (Int32.ofNat i + (3 : Int32)) (fun v617 => m_gd (m_in v617 L9) (m_gd (m_ok Z m 9) (m_bw (f_X9_setSafe Z S608 m (xs9 v611.toNatClampNeg) (xs9 v614.toNatClampNeg) (xs9 v617.toNatClampNeg)) (fun _u S622 => m_b1 (f_X9_thrown Z S622 m) (fun v624 => (if v624 = v609 then m_lt (Int32.ofNat i + (6 : Int32)) (fun v626 => lp (v626, S622)) else j68 S622)))))))))))))))))) = some () := by
  have i1 : m_in (Int32.ofNat i + (1 : Int32)) L9 := by
    rw [show Int32.ofNat i + (1 : Int32) = Int32.ofNat (i + 1) from io_add i 1]; exact io_in (by omega) (by omega)
  have i2 : m_in (Int32.ofNat i + (2 : Int32)) L9 := by
    rw [show Int32.ofNat i + (2 : Int32) = Int32.ofNat (i + 2) from io_add i 2]; exact io_in (by omega) (by omega)
  have i3 : m_in (Int32.ofNat i + (3 : Int32)) L9 := by
    rw [show Int32.ofNat i + (3 : Int32) = Int32.ofNat (i + 3) from io_add i 3]; exact io_in (by omega) (by omega)
  rcases q_stepV (fm := fun T => f_X9_setSafe Z T m (xs9 (Int32.ofNat i + (1 : Int32)).toNatClampNeg) (xs9 (Int32.ofNat i + (2 : Int32)).toNatClampNeg) (xs9 (Int32.ofNat i + (3 : Int32)).toNatClampNeg)) hx h (fun T hT => J_setSafe hT  _ _ _) with ⟨a, S', e1, b, T'', e2, z, hR⟩ | ⟨e, S', e1, b, T'', e2, hmem, hR⟩
  · have i0 : m_in (0 : Int32) (Z.2.2 q3) := q_inl (wi := 0) (i := 0) rfl o3 (by omega) (by omega)
    have eL : f_L_setSafe Z S x (xs9 (Int32.ofNat i + (1 : Int32)).toNatClampNeg) (xs9 (Int32.ofNat i + (2 : Int32)).toNatClampNeg) (xs9 (Int32.ofNat i + (3 : Int32)).toNatClampNeg) = some (0, S') := by
      unfold f_L_setSafe
      rw [m_gd_t h.ox, e1]
    have eT : f_X9_thrown Z T'' m = some (T''.1 m 0) := m_gd_t h.M.o
    rw [m_lt_s, m_gd_t i1, m_lt_s, m_gd_t i2, m_lt_s, m_gd_t i3, eL, m_bw_s, m_lt_s, m_gd_t i1, m_lt_s, m_gd_t i2, m_lt_s, m_gd_t i3, m_gd_t h.M.o, e2, m_bw_s, eT, m_b1_s, z, if_pos z00, m_lt_s, show Int32.ofNat i + (6 : Int32) = Int32.ofNat (i + 6) from io_add i 6]
    exact hlp T'' hR
  · have eT : f_X9_thrown Z T'' m = some (T''.1 m 0) := m_gd_t h.M.o
    have hm : (e = "java/lang/IndexOutOfBoundsException" ∧ T''.1 m 0 = 1) ∨ (e = "java/lang/IllegalArgumentException" ∧ T''.1 m 0 = 2) := by simpa using hmem
    rcases hm with ⟨rfl, hz⟩ | ⟨rfl, hz⟩
    · have eL : f_L_setSafe Z S x (xs9 (Int32.ofNat i + (1 : Int32)).toNatClampNeg) (xs9 (Int32.ofNat i + (2 : Int32)).toNatClampNeg) (xs9 (Int32.ofNat i + (3 : Int32)).toNatClampNeg) = some (1, S') := by
        unfold f_L_setSafe
        rw [m_gd_t h.ox, e1]
        exact if_pos rfl
      rw [m_lt_s, m_gd_t i1, m_lt_s, m_gd_t i2, m_lt_s, m_gd_t i3, eL, m_bw_s, m_lt_s, m_gd_t i1, m_lt_s, m_gd_t i2, m_lt_s, m_gd_t i3, m_gd_t h.M.o, e2, m_bw_s, eT, m_b1_s, hz, if_pos rfl, m_lt_s, show Int32.ofNat i + (6 : Int32) = Int32.ofNat (i + 6) from io_add i 6]
      exact hlp T'' hR
    · have eL : f_L_setSafe Z S x (xs9 (Int32.ofNat i + (1 : Int32)).toNatClampNeg) (xs9 (Int32.ofNat i + (2 : Int32)).toNatClampNeg) (xs9 (Int32.ofNat i + (3 : Int32)).toNatClampNeg) = some (2, S') := by
        unfold f_L_setSafe
        rw [m_gd_t h.ox, e1]
        exact (if_neg (by decide)).trans (if_pos rfl)
      rw [m_lt_s, m_gd_t i1, m_lt_s, m_gd_t i2, m_lt_s, m_gd_t i3, eL, m_bw_s, m_lt_s, m_gd_t i1, m_lt_s, m_gd_t i2, m_lt_s, m_gd_t i3, m_gd_t h.M.o, e2, m_bw_s, eT, m_b1_s, hz, if_pos rfl, m_lt_s, show Int32.ofNat i + (6 : Int32) = Int32.ofNat (i + 6) from io_add i 6]
      exact hlp T'' hR
end CASES1
