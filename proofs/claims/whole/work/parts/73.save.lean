section SAVE
variable {Z : m_Z} {x m N pb ns nk nc : Nat} {S T : m_S}
theorem q_bool1 : vp_nar .boolean (1 : Int32) = 1 := by decide
theorem g_reqSlot (Z : m_Z) (S : m_S) (x : Nat) (p : Int32) : f_X8_requireSlot Z S x p = some (if 0 ≤ p ∧ p < Int32.ofNat 2 then .ok () else .error "java/lang/IndexOutOfBoundsException") := by
  unfold f_X8_requireSlot
  by_cases q : p < 0
  · rw [if_pos q, if_neg (fun z => absurd z.1 (Int32.not_le.mpr q))]
  · rw [if_neg q]
    by_cases q2 : p < (2 : Int32)
    · rw [if_pos q2, if_pos ⟨Int32.not_lt.mp q, q2⟩]
    · rw [if_neg q2, if_neg (fun z => q2 z.2)]
theorem q_slotRef (h : q_Rel Z x m N pb ns nk nc S T) {s : Nat} (hs : s < 2) : S.2.2 (x + 201) s = some (x + 213 + 64 * s) := by
  have : s = 0 ∨ s = 1 := by omega
  rcases this with rfl | rfl
  · exact h.rs.g (a := 201) (k := 0) (v := 213) (by decide +kernel)
  · exact h.rs.g (a := 201) (k := 1) (v := 277) (by decide +kernel)
theorem q_kcas2 {s c k : Nat} (hs : s < 2) (hc : c < 6) (hk : k < 6) : q_k (219 + 64 * s + 10 * c + k) = 0 := by
  have : (List.range 2).all (fun s => (List.range 6).all (fun c => (List.range 6).all (fun k => decide (q_k (219 + 64 * s + 10 * c + k) = 0)))) = true := by decide +kernel
  have := List.all_eq_true.mp (List.all_eq_true.mp (List.all_eq_true.mp this s (List.mem_range.mpr hs)) c (List.mem_range.mpr hc)) k (List.mem_range.mpr hk)
  simpa using this
theorem J_save (h : q_Rel Z x m N pb ns nk nc S T) (p : Int32) : q_JW Z x m (N + 1) [("java/lang/IndexOutOfBoundsException", 1)] (fun _ _ => True) S T (f_X8_save Z S x p) (f_X9_save Z T m p) := by
  obtain ⟨T0, e0, z0, f0, h0⟩ := q_zero h
  have hM := h0.M
  have hm := h0.em
  have h6 := h0.nc6
  have hpb := h0.pbr
  obtain ⟨cnt, t, t9, c5, hg, hser, hst⟩ := h0.sta
  rcases q_cdec (n := 2) (by omega) p with ⟨s, hs, rfl⟩ | hp
  · obtain ⟨S1, e1, st1, a1, r1⟩ := g_copyS (sd := x + 213 + 64 * s) (ss := x + 137) (h0.st2 hs) h0.st (by omega) h6 hst
    obtain ⟨S2, hS2⟩ : ∃ y, y = m_pI S1 (x + 202) s 1 := ⟨_, rfl⟩
    have a02 : q_ag (fun b k => ¬ (x + 213 + 64 * s ≤ b ∧ b < x + 213 + 64 * s + 64) ∧ ¬ (b = x + 202 ∧ k = s)) S S2 := by
      rw [hS2]; exact q_ag_I (q_ag_sub a1 (fun b k hb => hb.1)) (by omega)
    have r12 : S2.2.2 = S1.2.2 := by rw [hS2]; rfl
    have rS2 : q_RS S2.2.2 x 0 341 := q_RS_R h0.rs (fun j k' hj hne => by
      rw [r12]
      refine r1 (x + j) k' (fun ⟨c, k, q1, q2, q3⟩ => hne ?_)
      rw [show j = 219 + 64 * s + 10 * c + k by omega]; exact q_kcas2 hs q1 q2)
    obtain ⟨T1, hT1⟩ : ∃ y, y = m_pI T0 (m + 10) s 1 := ⟨_, rfl⟩
    have x1 : T1.2 = T0.2 := by rw [hT1]; rfl
    have i1 : ∀ b k, ¬ (b = m + 10 ∧ k = s) → T1.1 b k = T0.1 b k := fun b k hb => by rw [hT1, pI_ne hb]
    have em1 : ∀ i, (340 : Int32) * Int32.ofNat s + Int32.ofNat i = Int32.ofNat (340 * s + i) := fun i => by
      show Int32.ofNat 340 * Int32.ofNat s + Int32.ofNat i = _
      rw [io_mul, io_add]
    have em2 : ∀ i, (30 : Int32) * Int32.ofNat s + Int32.ofNat i = Int32.ofNat (30 * s + i) := fun i => by
      show Int32.ofNat 30 * Int32.ofNat s + Int32.ofNat i = _
      rw [io_mul, io_add]
    obtain ⟨T2, h2, e2⟩ := q_loop0 (F := F_X9_save_29 Z m (Int32.ofNat s) (fun (S16 : m_S) => m_jp (fun (S17 : m_S) => some ((), S17)) (fun j18 => m_fx (F_X9_save_62 Z m (Int32.ofNat s) j18) 100000 ((0 : Int32), S16)))) (j := fun (S16 : m_S) => m_jp (fun (S17 : m_S) => some ((), S17)) (fun j18 => m_fx (F_X9_save_62 Z m (Int32.ofNat s) j18) 100000 ((0 : Int32), S16))) (N := 340) (q_icp (m + 5) (340 * s) (m + 3) 0 340 T1) (by omega) (fun i U hi hU => by
        have hMU : q_M Z U.2.2 m := by rw [hU.2.2, x1]; exact hM
        refine ⟨_, q_icp_s hU hi (by omega), fun lp => ?_⟩
        unfold F_X9_save_29
        simp only [em1, io_tn (show i < 2147483648 by omega), io_tn (show 340 * s + i < 2147483648 by omega)]
        rw [if_neg (k340 hi), hMU.saved.1, m_b1_s, hMU.a.1, m_b1_s, m_gd_t hMU.a.2.1, m_gd_t (q_inn hMU.a.2 (by omega) (by omega)), m_gd_t hMU.saved.2.1, m_gd_t (q_inn hMU.saved.2 (by omega) (by omega)), m_lt_s, m_lt_s, io_one, Nat.zero_add])
      (fun U hU lp => by
        unfold F_X9_save_29
        simp only []
        rw [if_pos (show (340 : Int32) ≤ Int32.ofNat 340 from Int32.le_refl _)]) T1 (q_icp_0 _ _ _ _ _ T1)
    obtain ⟨T3, h3, e3⟩ := q_loop0 (F := F_X9_save_62 Z m (Int32.ofNat s) (fun (S17 : m_S) => some ((), S17))) (j := fun (S17 : m_S) => some ((), S17)) (N := 30) (q_jcp (m + 9) (30 * s) (m + 7) 0 30 T2) (by omega) (fun i U hi hU => by
        have hMU : q_M Z U.2.2 m := by rw [hU.2.2.2, h2.2.2, x1]; exact hM
        refine ⟨_, q_jcp_s hU hi (by omega), fun lp => ?_⟩
        unfold F_X9_save_62
        simp only [em2, io_tn (show i < 2147483648 by omega), io_tn (show 30 * s + i < 2147483648 by omega)]
        rw [if_neg (k30 hi), hMU.savedL.1, m_b1_s, hMU.b.1, m_b1_s, m_gd_t hMU.b.2.1, m_gd_t (q_inn hMU.b.2 (by omega) (by omega)), m_gd_t hMU.savedL.2.1, m_gd_t (q_inn hMU.savedL.2 (by omega) (by omega)), m_lt_s, m_lt_s, io_one, Nat.zero_add])
      (fun U hU lp => by
        unfold F_X9_save_62
        simp only []
        rw [if_pos (show (30 : Int32) ≤ Int32.ofNat 30 from Int32.le_refl _)]) T2 (q_jcp_0 _ _ _ _ _ T2)
    have a03 : q_ag (fun b k => ¬ (b = m + 10 ∧ k = s) ∧ ¬ (b = m + 5 ∧ 340 * s ≤ k ∧ k < 340 * s + 340) ∧ ¬ (b = m + 9 ∧ 30 * s ≤ k ∧ k < 30 * s + 30)) T0 T3 := by
      refine q_ag_trans ?_ (q_ag_trans (q_ag_sub h2.2.1 (fun b k hb => by omega)) (q_ag_sub h3.2.1 (fun b k hb => by omega)))
      rw [hT1]; exact q_ag_I (q_ag_refl _ _) (by omega)
    have x3 : T3.2.2 = T0.2.2 := by rw [h3.2.2.2, h2.2.2, x1]
    have rowA : ∀ j, j < 340 → T3.1 (m + 5) (340 * s + j) = T0.1 (m + 3) j := fun j hj => by
      have := h2.1 j hj
      rw [Nat.zero_add, i1 _ _ (by omega)] at this
      rw [h3.2.2.1]; exact this
    have rowB : ∀ j, j < 30 → T3.2.1 (m + 9) (30 * s + j) = T0.2.1 (m + 7) j := fun j hj => by
      have := h3.1 j hj
      rw [Nat.zero_add, h2.2.2, x1] at this; exact this
    have m10 : T3.1 (m + 10) s = 1 := by rw [h3.2.2.1, (h2.2.1 _ _ (by omega)).1, hT1, pI_same]
    refine q_JW_ok (T0 := T0) (S' := S2) (T' := T3) (pb := pb) (ns := ns) (nk := nk) (nc := nc) (a := ()) (b := ()) (q_ag_sub a02 (fun b k hb => by omega)) f0 (q_ag_sub a03 (fun b k hb => by omega)) ?_ ?_ ?_ ?_ trivial
    · obtain ⟨⟨b1, b2, b3, b4⟩, p1, p2, p3, p4, p5, n, n9, d1, d2, d3, d4, d5⟩ := h0
      have hp : T3.1 (m + 1) = T0.1 (m + 1) := funext fun k => (a03 _ _ (by omega)).1
      refine ⟨⟨b1, b2, rS2, by rw [x3]; exact b4⟩, ?_, ?_, ?_, ?_, fun s' hs' => ?_, n, n9, ?_, ?_, ?_, ?_, fun j hj => ?_⟩
      · unfold q_pbs
        rw [(a02 x 1 (by omega)).2.2, (a02 x 2 (by omega)).2.2]; exact p1
      · rw [hp]; exact q_set9_ag p2 (q_ag_sub a02 (fun b k hb => by omega)) (fun _ _ => rfl)
      · rw [hp]; exact q_Ks_ag p3 (q_ag_sub a02 (fun b k hb => by omega))
      · rw [hp]; exact q_sta_ag p4 h6 (q_ag_sub a02 (fun b k hb => by omega)) (fun k _ => (a03 _ _ (by omega)).1) (fun k _ => (a03 _ _ (by omega)).2.1) (Nat.le_succ _)
      · by_cases e : s' = s
        · subst e
          have s2 : S2.1 (x + 202) s' = 1 := by rw [hS2, pI_same]
          refine ⟨⟨by rw [s2, m10], Or.inr m10⟩, fun _ => ?_⟩
          rw [hp]
          refine ⟨cnt, t, t9, c5, ?_, q_ser_ag hser h6 c5 rowA (Nat.le_succ _), q_state_ag st1 h6 ?_ rowA rowB⟩
          · show 0 ≤ (T3.1 (m + 5) (340 * s' + 2)).toInt ∧ (T3.1 (m + 5) (340 * s' + 2)).toInt ≤ 5000
            rw [rowA 2 (by omega)]; exact hg
          · rw [hS2]; exact q_ag_I (q_ag_refl _ _) (by omega)
        · obtain ⟨⟨s1, s2⟩, s3⟩ := p5 s' hs'
          have t10 : T3.1 (m + 10) s' = T0.1 (m + 10) s' := (a03 _ _ (by omega)).1
          refine ⟨⟨?_, by rw [t10]; exact s2⟩, fun q => ?_⟩
          · rw [(a02 _ _ (by omega)).1, t10]; exact s1
          · rw [t10] at q
            rw [hp]
            exact q_sta_ag (s3 q) h6 (q_ag_sub a02 (fun b k hb => by omega)) (fun k hk => (a03 _ _ (by omega)).1) (fun k hk => (a03 _ _ (by omega)).2.1) (Nat.le_succ _)
      · rw [(a02 _ _ (by omega)).1]; exact d1
      · rw [(a03 _ _ (by omega)).1]; exact d2
      · rw [(a02 _ _ (by omega)).1, (a03 _ _ (by omega)).1]; exact d3
      · rw [(a02 _ _ (by omega)).1, (a03 _ _ (by omega)).1]; exact d4
      · rw [(a02 _ _ (by omega)).1, (a03 _ _ (by omega)).1]; exact d5 j hj
    · rw [(a03 _ _ (by omega)).1]; exact z0
    · have hsr : S.2.2 (x + 201) (Int32.ofNat s).toNatClampNeg = some (x + 213 + 64 * s) := by rw [io_tn (by omega)]; exact q_slotRef h hs
      unfold f_X8_save
      rw [m_gd_t h.ox, g_reqSlot, if_pos (q_yes hs (by omega)), m_btw_s, h.r4, m_b1_s, m_gd_t h.o201.1, m_gd_t (q_inn h.o201 (by omega) (by omega)), hsr, m_b1_s, h.r3, m_b1_s, m_gd_t (h0.st2 hs).1, e1, m_bw_s, r1 x 5 (by rintro ⟨c, k, q1, q2, q3⟩; omega), h.r5, m_b1_s, m_gd_t h.o202.1, m_gd_t (q_inn h.o202 (by omega) (by omega)), io_tn (by omega), q_bool1, m_lt_s, ← hS2]
    · unfold f_X9_save
      rw [m_gd_t hM.o, m_lt_s, e0, e_isInN (hi := 1) (n := 1) rfl (by omega), m_b1_s, e_may hM.o z0 z10, if_pos (q_yes hs (by omega)), if_pos z10, hM.isSaved.1, m_b1_s, m_gd_t hM.isSaved.2.1, m_gd_t (q_inn hM.isSaved.2 (by omega) (by omega)), io_tn (by omega), q_bool1, m_lt_s, ← hT1, m_jp_s, e2, m_jp_s]
      exact e3
  · refine q_JW_er h0 f0 (s := "java/lang/IndexOutOfBoundsException") (b := ()) (k := 1) ?_ ?_ (by simp)
    · unfold f_X8_save
      rw [m_gd_t h.ox, g_reqSlot, if_neg (q_no hp), m_btw_e]
    · unfold f_X9_save
      rw [m_gd_t hM.o, m_lt_s, e0, e_isInN (hi := 1) (n := 1) rfl (by omega), m_b1_s, e_may hM.o z0 z10, if_neg (q_no hp), if_neg nz0]
theorem J_restore (h : q_Rel Z x m N pb ns nk nc S T) (p : Int32) : q_JW Z x m (N + 1) [("java/lang/IndexOutOfBoundsException", 1), ("java/util/NoSuchElementException", 2)] (fun _ _ => True) S T (f_X8_restore Z S x p) (f_X9_restore Z T m p) := by
  obtain ⟨T0, e0, z0, f0, h0⟩ := q_zero h
  have hM := h0.M
  have hm := h0.em
  have h6 := h0.nc6
  have hpb := h0.pbr
  rcases q_cdec (n := 2) (by omega) p with ⟨s, hs, rfl⟩ | hp
  · obtain ⟨⟨sl1, sl2⟩, sl3⟩ := h0.sl s hs
    by_cases c1 : T0.1 (m + 10) s = 0
    · refine q_JW_er h0 f0 (s := "java/util/NoSuchElementException") (b := ()) (k := 2) ?_ ?_ (by simp)
      · unfold f_X8_restore
        rw [m_gd_t h.ox, g_reqSlot, if_pos (q_yes hs (by omega)), m_btw_s, h.r5, m_b1_s, m_gd_t h.o202.1, m_gd_t (q_inn h.o202 (by omega) (by omega)), if_neg (show ¬ ¬ S.1 (x + 202) (Int32.ofNat s).toNatClampNeg = 0 from fun z => z (by rw [io_tn (by omega), sl1]; exact c1))]
      · unfold f_X9_restore
        rw [m_gd_t hM.o, m_lt_s, e0, e_isInN (hi := 1) (n := 1) rfl (by omega), m_b1_s, e_may hM.o z0 z10, if_pos (q_yes hs (by omega)), if_neg z10, hM.isSaved.1, m_b1_s, m_gd_t hM.isSaved.2.1, m_gd_t (q_inn hM.isSaved.2 (by omega) (by omega)), io_tn (by omega), c1, e_may0 hM.o z0 z20, m_bw_s, if_neg nz0]
    · obtain ⟨cnt, t, t9, c5, hg, hser, hst⟩ := sl3 c1
      have t1 : T0.1 (m + 10) s = 1 := sl2.resolve_left c1
      obtain ⟨S1, e1, st1, a1, r1⟩ := g_copyS (sd := x + 137) (ss := x + 213 + 64 * s) h0.st (h0.st2 hs) (by omega) h6 hst
      have rS1 : q_RS S1.2.2 x 0 341 := q_RS_R h0.rs (fun j k' hj hne => by
        refine r1 (x + j) k' (fun ⟨c, k, q1, q2, q3⟩ => hne ?_)
        rw [show j = 143 + 10 * c + k by omega]; exact q_kcas q1 q2)
      have em1 : ∀ i, (340 : Int32) * Int32.ofNat s + Int32.ofNat i = Int32.ofNat (340 * s + i) := fun i => by
        show Int32.ofNat 340 * Int32.ofNat s + Int32.ofNat i = _
        rw [io_mul, io_add]
      have em2 : ∀ i, (30 : Int32) * Int32.ofNat s + Int32.ofNat i = Int32.ofNat (30 * s + i) := fun i => by
        show Int32.ofNat 30 * Int32.ofNat s + Int32.ofNat i = _
        rw [io_mul, io_add]
      obtain ⟨T2, h2, e2⟩ := q_loop0 (F := F_X9_restore_36 Z m (Int32.ofNat s) (fun (S18 : m_S) => m_jp (fun (S19 : m_S) => some ((), S19)) (fun j20 => m_fx (F_X9_restore_69 Z m (Int32.ofNat s) j20) 100000 ((0 : Int32), S18)))) (j := fun (S18 : m_S) => m_jp (fun (S19 : m_S) => some ((), S19)) (fun j20 => m_fx (F_X9_restore_69 Z m (Int32.ofNat s) j20) 100000 ((0 : Int32), S18))) (N := 340) (q_icp (m + 3) 0 (m + 5) (340 * s) 340 T0) (by omega) (fun i U hi hU => by
          have hMU : q_M Z U.2.2 m := by rw [hU.2.2]; exact hM
          refine ⟨_, q_icp_s hU hi (by omega), fun lp => ?_⟩
          unfold F_X9_restore_36
          simp only [em1, io_tn (show i < 2147483648 by omega)]
          rw [if_neg (k340 hi), hMU.a.1, m_b1_s, hMU.saved.1, m_b1_s, m_gd_t hMU.saved.2.1, m_lt_s, m_gd_t (q_inn hMU.saved.2 (by omega) (by omega)), m_gd_t hMU.a.2.1, m_gd_t (q_inn hMU.a.2 (by omega) (by omega)), io_tn (show 340 * s + i < 2147483648 by omega), m_lt_s, m_lt_s, io_one, Nat.zero_add])
        (fun U hU lp => by
          unfold F_X9_restore_36
          simp only []
          rw [if_pos (show (340 : Int32) ≤ Int32.ofNat 340 from Int32.le_refl _)]) T0 (q_icp_0 _ _ _ _ _ T0)
      obtain ⟨T3, h3, e3⟩ := q_loop0 (F := F_X9_restore_69 Z m (Int32.ofNat s) (fun (S19 : m_S) => some ((), S19))) (j := fun (S19 : m_S) => some ((), S19)) (N := 30) (q_jcp (m + 7) 0 (m + 9) (30 * s) 30 T2) (by omega) (fun i U hi hU => by
          have hMU : q_M Z U.2.2 m := by rw [hU.2.2.2, h2.2.2]; exact hM
          refine ⟨_, q_jcp_s hU hi (by omega), fun lp => ?_⟩
          unfold F_X9_restore_69
          simp only [em2, io_tn (show i < 2147483648 by omega)]
          rw [if_neg (k30 hi), hMU.b.1, m_b1_s, hMU.savedL.1, m_b1_s, m_gd_t hMU.savedL.2.1, m_lt_s, m_gd_t (q_inn hMU.savedL.2 (by omega) (by omega)), m_gd_t hMU.b.2.1, m_gd_t (q_inn hMU.b.2 (by omega) (by omega)), io_tn (show 30 * s + i < 2147483648 by omega), m_lt_s, m_lt_s, io_one, Nat.zero_add])
        (fun U hU lp => by
          unfold F_X9_restore_69
          simp only []
          rw [if_pos (show (30 : Int32) ≤ Int32.ofNat 30 from Int32.le_refl _)]) T2 (q_jcp_0 _ _ _ _ _ T2)
      have a03 : q_ag (fun b k => ¬ (b = m + 3 ∧ k < 340) ∧ ¬ (b = m + 7 ∧ k < 30)) T0 T3 := q_ag_trans (q_ag_sub h2.2.1 (fun b k hb => by omega)) (q_ag_sub h3.2.1 (fun b k hb => by omega))
      have x3 : T3.2.2 = T0.2.2 := by rw [h3.2.2.2, h2.2.2]
      have rowA : ∀ j, j < 340 → T3.1 (m + 3) j = T0.1 (m + 5) (340 * s + j) := fun j hj => by
        have := h2.1 j hj
        rw [Nat.zero_add] at this
        rw [h3.2.2.1]; exact this
      have rowB : ∀ j, j < 30 → T3.2.1 (m + 7) j = T0.2.1 (m + 9) (30 * s + j) := fun j hj => by
        have := h3.1 j hj
        rw [Nat.zero_add, h2.2.2] at this; exact this
      refine q_JW_ok (T0 := T0) (S' := S1) (T' := T3) (pb := pb) (ns := ns) (nk := nk) (nc := nc) (a := ()) (b := ()) (q_ag_sub a1 (fun b k hb => by omega)) f0 (q_ag_sub a03 (fun b k hb => by omega)) ?_ ?_ ?_ ?_ trivial
      · refine q_Rel_main h0 (Nat.le_succ _) (q_ag_sub a1 (fun b k hb => by omega)) rS1 (q_ag_sub a03 (fun b k hb => by omega)) (by rw [x3]; exact h0.rt) ⟨cnt, t, t9, c5, ?_, q_ser_ag hser h6 c5 rowA (Nat.le_succ _), q_state_ag st1 h6 (q_ag_refl _ _) rowA rowB⟩
        rw [rowA 2 (by omega)]; exact hg
      · rw [(a03 _ _ (by omega)).1]; exact z0
      · unfold f_X8_restore
        rw [m_gd_t h.ox, g_reqSlot, if_pos (q_yes hs (by omega)), m_btw_s, h.r5, m_b1_s, m_gd_t h.o202.1, m_gd_t (q_inn h.o202 (by omega) (by omega)), if_pos (show ¬ S.1 (x + 202) (Int32.ofNat s).toNatClampNeg = 0 from fun z => c1 (by rw [io_tn (by omega), sl1] at z; exact z)), h.r3, m_b1_s, h.r4, m_b1_s, m_gd_t h.o201.1, m_gd_t (q_inn h.o201 (by omega) (by omega)), io_tn (by omega), q_slotRef h hs, m_b1_s, m_gd_t h.o137, e1, m_bw_s]
      · unfold f_X9_restore
        rw [m_gd_t hM.o, m_lt_s, e0, e_isInN (hi := 1) (n := 1) rfl (by omega), m_b1_s, e_may hM.o z0 z10, if_pos (q_yes hs (by omega)), if_neg z10, hM.isSaved.1, m_b1_s, m_gd_t hM.isSaved.2.1, m_gd_t (q_inn hM.isSaved.2 (by omega) (by omega)), io_tn (by omega), t1, e_may1 hM.o z10 z0, m_bw_s, if_pos z10, m_jp_s, e2, m_jp_s]
        exact e3
  · refine q_JW_er h0 f0 (s := "java/lang/IndexOutOfBoundsException") (b := ()) (k := 1) ?_ ?_ (by simp)
    · unfold f_X8_restore
      rw [m_gd_t h.ox, g_reqSlot, if_neg (q_no hp), m_btw_e]
    · unfold f_X9_restore
      rw [m_gd_t hM.o, m_lt_s, e0, e_isInN (hi := 1) (n := 1) rfl (by omega), m_b1_s, e_may hM.o z0 z10, if_neg (q_no hp), if_pos z00]
end SAVE
