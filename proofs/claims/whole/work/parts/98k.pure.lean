/-! the start, and the pure half -/
theorem q_ad_ok {Z : m_Z} {a c k n q : Nat} {N : Nat} (h : m_okn Z a c N) (hq : q ∉ Z.1) : m_okn (m_ad Z q k n) a c N := by
  have ne : ¬ a = q := fun e => hq (e ▸ h.1.1)
  exact ⟨⟨List.mem_append_left _ h.1.1, (if_neg ne).trans h.1.2⟩, (if_neg ne).trans h.2⟩
theorem q_ad_new (Z : m_Z) (q k n : Nat) : m_okn (m_ad Z q k n) q k n := ⟨⟨List.mem_append_right _ (List.mem_singleton.mpr rfl), if_pos rfl⟩, if_pos rfl⟩
theorem q_zr_ag (S : m_S) (q : Nat) : q_ag (fun b _ => ¬ b = q) S (m_zr S q) := fun b k hb => ⟨if_neg hb, if_neg hb, if_neg hb⟩
def q_z0 : Bool := (List.range 11).all (fun k => decide (m_y00.2.1.1 5 k = 0)) && (List.range 24).all (fun k => decide (m_y00.2.1.1 8 k = 0)) && (List.range 3).all (fun k => decide (m_y00.2.1.1 138 k = 0)) && decide (m_y00.2.1.1 137 1 = 0) && decide (m_y00.2.1.1 137 2 = 0) && decide (m_y00.2.1.1 202 0 = 0) && decide (m_y00.2.1.1 202 1 = 0) && decide (m_y00.2.1.1 1 1 = 0) && decide (m_y00.2.1.1 1 2 = 0) && decide (m_y00.2.1.1 1 3 = -1) && decide (m_y00.2.1.1 341 12 = 0) && decide (m_y00.2.1.1 341 18 = 0) && decide (m_y00.2.1.1 341 19 = -1)
theorem q_z0_t : q_z0 = true := by decide +kernel
theorem q_st_I (h : Nat) {a k : Nat} {v : Int32} (e : m_y00.2.1.1 a k = v) : (m_y2 h).2.1.1 (h + a) k = v := by
  have := (m_start_sh h).2.1 a k
  rw [Nat.add_comm h a, this]; exact e
theorem m_pure : m_PURE := by
  intro h L9 xs9 hL9
  obtain ⟨y1, y2⟩ := m_start_Z h
  have hZ : q_ZL (m_y2 h).1 h := fun j hj => ⟨⟨(y1 _).mpr ⟨by omega, by omega⟩, (y2 j hj).1⟩, (y2 j hj).2⟩
  have hR : ∀ q ∈ q_rt, (m_y2 h).2.1.2.2 (h + q.1) q.2.1 = some (h + q.2.2) := fun q hq => m_start_R h hq
  have hM : q_M (m_y2 h).1 (m_y2 h).2.1.2.2 (h + 341) := q_M_of rfl hZ (fun q hq _ _ _ => hR q hq)
  obtain ⟨S1, e1, zt, zf, a1, j1⟩ := e_plain hM
  have hM1 : q_M (m_y2 h).1 S1.2.2 (h + 341) := by rw [j1]; exact hM
  obtain ⟨S2, e2, t1, -, -, t4, -, -, ⟨t70, t71⟩, t8, t9⟩ := e_takes (nc := 0) (cnt := fun _ => 0) hM1 (by omega) (zt 5 (by omega)) (fun c hc => absurd hc (by omega)) (fun c k hc => absurd hc (by omega))
  refine ⟨S1, S2, e1, e2, fun q3 q4 hq3 hq4 hne => ?_⟩
  have ne3 : ¬ (h ≤ q3 ∧ q3 < h + 355) := fun z => hq3 ((y1 q3).mpr z)
  have ne4 : ¬ (h ≤ q4 ∧ q4 < h + 355) := fun z => hq4 ((y1 q4).mpr z)
  obtain ⟨Z, hZZ⟩ : ∃ Z, Z = m_ad (m_ad (m_y2 h).1 q3 12 1) q4 19 1 := ⟨_, rfl⟩
  have hq4' : q4 ∉ (m_ad (m_y2 h).1 q3 12 1).1 := fun z => by
    rcases List.mem_append.mp z with z | z
    · exact hq4 z
    · exact hne (List.mem_singleton.mp z)
  have zl : q_ZL Z h := fun j hj => by rw [hZZ]; exact q_ad_ok (q_ad_ok (hZ j hj) hq3) hq4'
  have o3 : m_okn Z q3 12 1 := by rw [hZZ]; exact q_ad_ok (q_ad_new _ _ _ _) hq4'
  have o4 : m_okn Z q4 19 1 := by rw [hZZ]; exact q_ad_new _ _ _ _
  obtain ⟨S, hS⟩ : ∃ S, S = m_zr (m_zr S2 q3) q4 := ⟨_, rfl⟩
  have aS : q_ag (fun b _ => h ≤ b ∧ b < h + 355) S2 S := by
    rw [hS]; exact q_ag_trans (q_ag_sub (q_zr_ag S2 q3) (fun b k hb z => ne3 (z ▸ hb))) (q_ag_sub (q_zr_ag _ q4) (fun b k hb z => ne4 (z ▸ hb)))
  -- the class's cells are as they were
  have cI : ∀ a k, a < 341 → S.1 (h + a) k = (m_y2 h).2.1.1 (h + a) k := fun a k ha => by
    rw [(aS _ _ ⟨by omega, by omega⟩).1, (t8 _ _ (by omega)).1, (a1 _ _ (by omega)).1]
  have mI : ∀ k, S.1 (h + 341) k = (m_y2 h).2.1.1 (h + 341) k := fun k => by
    rw [(aS _ _ ⟨by omega, by omega⟩).1, (t8 _ _ (by omega)).1, (a1 _ _ (by omega)).1]
  have mT : ∀ b k, h + 341 ≤ b → b < h + 355 → S.1 b k = S2.1 b k := fun b k h1 h2 => (aS _ _ ⟨by omega, by omega⟩).1
  have rr : ∀ q ∈ q_rt, S.2.2 (h + q.1) q.2.1 = some (h + q.2.2) := fun q hq => by
    have : ∀ q ∈ q_rt, q.1 < 355 := by decide +kernel
    have := this q hq
    rw [(aS _ _ ⟨by omega, by omega⟩).2.2, t9, j1]; exact hR q hq
  have z := q_z0_t
  unfold q_z0 at z
  simp only [Bool.and_eq_true, decide_eq_true_eq, List.all_eq_true, List.mem_range] at z
  obtain ⟨⟨⟨⟨⟨⟨⟨⟨⟨⟨⟨⟨z1, z2⟩, z3⟩, z4⟩, z5⟩, z6⟩, z7⟩, z8⟩, z9⟩, z10⟩, z11⟩, z12⟩, z13⟩ := z
  have p1 : ∀ k, k < 116 → S.1 (h + 341 + 1) k = 0 := fun k hk => by rw [mT _ _ (by omega) (by omega), t1 k hk]; exact zt k hk
  have p3 : ∀ k, k < 4 → S.1 (h + 341 + 3) k = 0 := fun k hk => by rw [mT _ _ (by omega) (by omega), t4 k hk]; exact zf k (by omega)
  have g : ∀ a k v, a < 341 → m_y00.2.1.1 a k = v → S.1 (h + a) k = v := fun a k v ha e => (cI a k ha).trans (q_st_I h e)
  have gm : ∀ k v, m_y00.2.1.1 341 k = v → S.1 (h + 341) k = v := fun k v e => (mI k).trans (q_st_I h e)
  have pd : ∀ k, k < 11 → S.1 (h + 5) k = 0 := fun k hk => g 5 k 0 (by omega) (z1 k hk)
  have rs : q_RS S.2.2 h 0 341 := fun q hq _ _ _ => rr q hq
  have hh : m_ok Z (h + 5) 5 ∧ (S.2.2 (h + 5) 3 = some (h + 5 + 1) ∧ m_okn Z (h + 5 + 1) 11 12) ∧ (S.2.2 (h + 5) 4 = some (h + 5 + 2) ∧ m_okn Z (h + 5 + 2) 11 12) ∧ S.2.2 (h + 5) 5 = some (h + 5 + 3) ∧ m_okn Z (h + 5 + 3) 11 24 :=
    ⟨(zl.g (j := 5) (N := 0) (by decide +kernel)).1, ⟨rs.g (a := 5) (v := 6) (by decide +kernel), zl.g (j := 6) (by decide +kernel)⟩, ⟨rs.g (a := 5) (v := 7) (by decide +kernel), zl.g (j := 7) (by decide +kernel)⟩, rs.g (a := 5) (v := 8) (by decide +kernel), zl.g (j := 8) (by decide +kernel)⟩
  have rel : q_Rel Z h (h + 341) 31 (h + 5) 0 0 0 S S := by
    refine ⟨⟨rfl, zl, rs, fun q hq _ _ _ => rr q hq⟩, Or.inl ⟨rfl, rr (0, 1, 5) (by decide +kernel), rr (0, 2, 71) (by decide +kernel)⟩, ⟨hh, ⟨?_, ?_, ?_, ?_, ?_, ?_, ?_, ?_⟩, fun i hi => absurd hi (by omega), fun i hi => ?_, ⟨by omega, fun i hi => absurd hi (by omega), fun i hi => absurd hi (by omega)⟩, by omega, by omega⟩, ⟨by omega, fun k hk => absurd hk (by omega)⟩, ⟨fun _ => 0, 0, by omega, fun c hc => absurd hc (by omega), ?_, ⟨0, by omega, p3 3 (by omega), fun c k hc => absurd hc (by omega), fun c k c' k' hc => absurd hc (by omega)⟩, ⟨?_, p3 0 (by omega)⟩, ?_, ?_, ?_, ?_, fun c hc => absurd hc (by omega)⟩, fun s hs => ⟨⟨?_, ?_⟩, fun q => ?_⟩, 0, by omega, g 1 1 0 (by omega) z8, gm 12 0 z11, (g 1 2 0 (by omega) z9).trans (gm 18 0 z12).symm, (g 1 3 (-1) (by omega) z10).trans (gm 19 (-1) z13).symm, fun j hj => absurd hj (Nat.not_lt_zero _)⟩
    · rw [pd 0 (by omega), p1 0 (by omega)]
    · rw [pd 1 (by omega), p1 1 (by omega)]
    · exact pd 2 (by omega)
    · exact p1 2 (by omega)
    · exact pd 6 (by omega)
    · exact p1 4 (by omega)
    · exact pd 8 (by omega)
    · exact p1 5 (by omega)
    · rw [p1 _ (by omega)]; exact g 8 i 0 (by omega) (z2 i hi)
    · rw [p3 2 (by omega)]; exact ⟨Int.le_refl 0, by decide⟩
    · exact g 138 0 0 (by omega) (z3 0 (by omega))
    · rw [p3 1 (by omega)]; exact g 138 1 0 (by omega) (z3 1 (by omega))
    · rw [p3 2 (by omega)]; exact g 138 2 0 (by omega) (z3 2 (by omega))
    · rw [p3 3 (by omega)]; exact g 137 1 0 (by omega) z4
    · exact g 137 2 0 (by omega) z5
    · have hs' : s = 0 ∨ s = 1 := by omega
      rcases hs' with rfl | rfl
      · rw [mT (h + 341 + 10) _ (by omega) (by omega), t70]; exact g 202 0 0 (by omega) z6
      · rw [mT (h + 341 + 10) _ (by omega) (by omega), t71]; exact g 202 1 0 (by omega) z7
    · have hs' : s = 0 ∨ s = 1 := by omega
      rcases hs' with rfl | rfl
      · exact Or.inl (by rw [mT _ _ (by omega) (by omega), t70])
      · exact Or.inl (by rw [mT _ _ (by omega) (by omega), t71])
    · have hs' : s = 0 ∨ s = 1 := by omega
      rcases hs' with rfl | rfl
      · exact absurd (by rw [mT _ _ (by omega) (by omega), t70]) q
      · exact absurd (by rw [mT _ _ (by omega) (by omega), t71]) q
  rw [← hZZ, ← hS]
  unfold f_L_law
  exact q_law_loop rfl hL9 o3 o4 ne3 ne4 _ (fun _ => rfl) (fun _ => none) (fun _ => none) (fun _ => none) (fun _ => none) (fun _ => none) (fun _ => none) (fun _ => none) (fun _ => none) (fun _ => none) (fun _ => none) (fun _ => none) (fun _ => none) (fun _ => none) (fun _ => none) (fun _ => none) (fun _ => none) (fun _ => none) (fun _ => none) (fun _ => none) (fun _ => none) (fun _ => none) (fun _ => none) (fun _ => none) (fun _ => none) (fun _ => none) (fun _ => none) (fun _ => none) (fun _ => none) (fun _ => none) (fun _ => none) (fun _ => none) (fun _ => none) (fun _ => none) (fun _ => none) (fun _ => none) (fun _ => none) (fun _ => none) (fun _ => none) (fun _ => none) (fun _ => none) (fun _ => none) (fun _ => none) (fun _ => none) (fun _ => none) (fun _ => none) (fun _ => none) (fun _ => none) (fun _ => none) (fun _ => none) (fun _ => none) (fun _ => none) (fun _ => none) (fun _ => none) (fun _ => none) (fun _ => none) (fun _ => none) (fun _ => none) (fun _ => none) (fun _ => none) (fun _ => none) (fun _ => none) (fun _ => none) (fun _ => none) (L9 / 6) 0 513 31 S (by omega) (by omega) (by omega) (by omega) ⟨h + 5, 0, 0, 0, rel⟩
