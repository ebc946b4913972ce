/-! loops that copy rows -/
theorem q_loop {β : Type} {F : (Int32 × m_S → Option β) → Int32 × m_S → Option β} {j : m_S → Option β} {N : Nat} {Inv : Nat → m_S → Prop} (step : ∀ i U, i < N → Inv i U → ∃ U', Inv (i + 1) U' ∧ ∀ lp, F lp (Int32.ofNat i, U) = lp (Int32.ofNat (i + 1), U')) (fin : ∀ U, Inv N U → ∀ lp, F lp (Int32.ofNat N, U) = j U) : ∀ (d i fuel : Nat) (U : m_S), d + i = N → d < fuel → Inv i U → ∃ U', Inv N U' ∧ m_fx F fuel (Int32.ofNat i, U) = j U' := by
  intro d
  induction d with
  | zero =>
    intro i fuel U h1 h2 hI
    obtain ⟨f, rfl⟩ : ∃ f, fuel = f + 1 := ⟨fuel - 1, by omega⟩
    have : i = N := by omega
    subst this
    exact ⟨U, hI, by rw [m_fx_s]; exact fin U hI _⟩
  | succ d ih =>
    intro i fuel U h1 h2 hI
    obtain ⟨f, rfl⟩ : ∃ f, fuel = f + 1 := ⟨fuel - 1, by omega⟩
    obtain ⟨U1, hU1, hs⟩ := step i U (by omega) hI
    obtain ⟨U', hU', hr⟩ := ih (i + 1) f U1 (by omega) (by omega) hU1
    exact ⟨U', hU', by rw [m_fx_s, hs]; exact hr⟩
theorem q_loop0 {β : Type} {F : (Int32 × m_S → Option β) → Int32 × m_S → Option β} {j : m_S → Option β} {N : Nat} (Inv : Nat → m_S → Prop) (hN : N < 100000) (step : ∀ i U, i < N → Inv i U → ∃ U', Inv (i + 1) U' ∧ ∀ lp, F lp (Int32.ofNat i, U) = lp (Int32.ofNat (i + 1), U')) (fin : ∀ U, Inv N U → ∀ lp, F lp (Int32.ofNat N, U) = j U) (U : m_S) (h0 : Inv 0 U) : ∃ U', Inv N U' ∧ m_fx F 100000 ((0 : Int32), U) = j U' := q_loop step fin N 0 100000 U (by omega) (by omega) h0
/-- the first i of a row of ints are copied -/
def q_icp (D od A oa N : Nat) (T : m_S) (i : Nat) (U : m_S) : Prop := (∀ j, j < i → U.1 D (od + j) = T.1 A (oa + j)) ∧ q_ag (fun b k => ¬ (b = D ∧ od ≤ k ∧ k < od + N)) T U ∧ U.2 = T.2
theorem q_icp_0 (D od A oa N : Nat) (T : m_S) : q_icp D od A oa N T 0 T := ⟨fun j hj => absurd hj (Nat.not_lt_zero _), q_ag_refl _ T, rfl⟩
theorem q_icp_s {D od A oa N i : Nat} {T U : m_S} (h : q_icp D od A oa N T i U) (hi : i < N) (hne : D ≠ A) : q_icp D od A oa N T (i + 1) (m_pI U D (od + i) (U.1 A (oa + i))) := by
  refine ⟨fun j hj => ?_, q_ag_I h.2.1 (by omega), h.2.2⟩
  by_cases e : j = i
  · subst e; rw [pI_same, (h.2.1 _ _ (by omega)).1]
  · rw [pI_ne (by omega)]; exact h.1 j (by omega)
/-- .. of longs -/
def q_jcp (D od A oa N : Nat) (T : m_S) (i : Nat) (U : m_S) : Prop := (∀ j, j < i → U.2.1 D (od + j) = T.2.1 A (oa + j)) ∧ q_ag (fun b k => ¬ (b = D ∧ od ≤ k ∧ k < od + N)) T U ∧ U.1 = T.1 ∧ U.2.2 = T.2.2
theorem q_jcp_0 (D od A oa N : Nat) (T : m_S) : q_jcp D od A oa N T 0 T := ⟨fun j hj => absurd hj (Nat.not_lt_zero _), q_ag_refl _ T, rfl, rfl⟩
theorem q_jcp_s {D od A oa N i : Nat} {T U : m_S} (h : q_jcp D od A oa N T i U) (hi : i < N) (hne : D ≠ A) : q_jcp D od A oa N T (i + 1) (m_pJ U D (od + i) (U.2.1 A (oa + i))) := by
  refine ⟨fun j hj => ?_, q_ag_J h.2.1 (by omega), h.2.2⟩
  by_cases e : j = i
  · subst e; rw [pJ_same, (h.2.1 _ _ (by omega)).2.1]
  · rw [pJ_ne (by omega)]; exact h.1 j (by omega)
theorem k340 {i : Nat} (hi : i < 340) : ¬ (340 : Int32) ≤ Int32.ofNat i := fun q => absurd ((io_le (a := 340) (by omega) (by omega)).mp q) (by omega)
theorem k30 {i : Nat} (hi : i < 30) : ¬ (30 : Int32) ≤ Int32.ofNat i := fun q => absurd ((io_le (a := 30) (by omega) (by omega)).mp q) (by omega)
/-- rows a and b in T' are those of T at D and E -/
def q_rows (m A B D E : Nat) (T T' : m_S) : Prop := (∀ j, j < 340 → T'.1 D j = T.1 A j) ∧ (∀ j, j < 30 → T'.2.1 E j = T.2.1 B j) ∧ q_ag (fun b k => ¬ (b = D ∧ k < 340) ∧ ¬ (b = E ∧ k < 30)) T T' ∧ T'.2.2 = T.2.2
theorem e_aside {Z : m_Z} {T : m_S} {m : Nat} (h : q_M Z T.2.2 m) : ∃ T', f_X9_setsAside Z T m = some ((), T') ∧ q_rows m (m + 3) (m + 7) (m + 4) (m + 8) T T' := by
  unfold f_X9_setsAside
  obtain ⟨T1, h1, e1⟩ := q_loop0 (F := F_X9_setsAside_2 Z m (fun S1 => m_jp (fun (S2 : m_S) => some ((), S2)) (fun j3 => m_fx (F_X9_setsAside_29 Z m j3) 100000 ((0 : Int32), S1)))) (j := fun S1 => m_jp (fun (S2 : m_S) => some ((), S2)) (fun j3 => m_fx (F_X9_setsAside_29 Z m j3) 100000 ((0 : Int32), S1))) (N := 340) (q_icp (m + 4) 0 (m + 3) 0 340 T) (by omega) (fun i U hi hU => by
      have hM : q_M Z U.2.2 m := by rw [hU.2.2]; exact h
      refine ⟨_, q_icp_s hU hi (by omega), fun lp => ?_⟩
      unfold F_X9_setsAside_2
      simp only [io_tn (show i < 2147483648 by omega)]
      rw [if_neg (k340 hi), m_gd_t hM.o, hM.beside.1, m_b1_s, hM.a.1, m_b1_s, m_gd_t hM.a.2.1, m_gd_t (q_inn hM.a.2 (by omega) (by omega)), m_gd_t hM.beside.2.1, m_gd_t (q_inn hM.beside.2 (by omega) (by omega)), m_lt_s, m_lt_s, io_one, Nat.zero_add])
    (fun U hU lp => by
      unfold F_X9_setsAside_2
      simp only []
      rw [if_pos (show (340 : Int32) ≤ Int32.ofNat 340 from Int32.le_refl _)]) T (q_icp_0 _ _ _ _ _ T)
  obtain ⟨T2, h2, e2⟩ := q_loop0 (F := F_X9_setsAside_29 Z m (fun (S2 : m_S) => some ((), S2))) (j := fun (S2 : m_S) => some ((), S2)) (N := 30) (q_jcp (m + 8) 0 (m + 7) 0 30 T1) (by omega) (fun i U hi hU => by
      have hM : q_M Z U.2.2 m := by rw [hU.2.2.2, h1.2.2]; exact h
      refine ⟨_, q_jcp_s hU hi (by omega), fun lp => ?_⟩
      unfold F_X9_setsAside_29
      simp only [io_tn (show i < 2147483648 by omega)]
      rw [if_neg (k30 hi), m_gd_t hM.o, hM.besideL.1, m_b1_s, hM.b.1, m_b1_s, m_gd_t hM.b.2.1, m_gd_t (q_inn hM.b.2 (by omega) (by omega)), m_gd_t hM.besideL.2.1, m_gd_t (q_inn hM.besideL.2 (by omega) (by omega)), m_lt_s, m_lt_s, io_one, Nat.zero_add])
    (fun U hU lp => by
      unfold F_X9_setsAside_29
      simp only []
      rw [if_pos (show (30 : Int32) ≤ Int32.ofNat 30 from Int32.le_refl _)]) T1 (q_jcp_0 _ _ _ _ _ T1)
  refine ⟨T2, ?_, fun j hj => ?_, fun j hj => ?_, ?_, ?_⟩
  · rw [m_jp_s, e1, m_jp_s]; exact e2
  · rw [h2.2.2.1]
    have := h1.1 j hj
    rw [Nat.zero_add] at this; exact this
  · have := h2.1 j hj
    rw [Nat.zero_add, h1.2.2] at this; exact this
  · exact q_ag_trans (q_ag_sub h1.2.1 (fun b k hb => by omega)) (q_ag_sub h2.2.1 (fun b k hb => by omega))
  · rw [h2.2.2.2, h1.2.2]
theorem e_back {Z : m_Z} {T : m_S} {m : Nat} (h : q_M Z T.2.2 m) : ∃ T', f_X9_bringsBack Z T m = some ((), T') ∧ q_rows m (m + 4) (m + 8) (m + 3) (m + 7) T T' := by
  unfold f_X9_bringsBack
  obtain ⟨T1, h1, e1⟩ := q_loop0 (F := F_X9_bringsBack_2 Z m (fun S1 => m_jp (fun (S2 : m_S) => some ((), S2)) (fun j3 => m_fx (F_X9_bringsBack_29 Z m j3) 100000 ((0 : Int32), S1)))) (j := fun S1 => m_jp (fun (S2 : m_S) => some ((), S2)) (fun j3 => m_fx (F_X9_bringsBack_29 Z m j3) 100000 ((0 : Int32), S1))) (N := 340) (q_icp (m + 3) 0 (m + 4) 0 340 T) (by omega) (fun i U hi hU => by
      have hM : q_M Z U.2.2 m := by rw [hU.2.2]; exact h
      refine ⟨_, q_icp_s hU hi (by omega), fun lp => ?_⟩
      unfold F_X9_bringsBack_2
      simp only [io_tn (show i < 2147483648 by omega)]
      rw [if_neg (k340 hi), m_gd_t hM.o, hM.a.1, m_b1_s, hM.beside.1, m_b1_s, m_gd_t hM.beside.2.1, m_gd_t (q_inn hM.beside.2 (by omega) (by omega)), m_gd_t hM.a.2.1, m_gd_t (q_inn hM.a.2 (by omega) (by omega)), m_lt_s, m_lt_s, io_one, Nat.zero_add])
    (fun U hU lp => by
      unfold F_X9_bringsBack_2
      simp only []
      rw [if_pos (show (340 : Int32) ≤ Int32.ofNat 340 from Int32.le_refl _)]) T (q_icp_0 _ _ _ _ _ T)
  obtain ⟨T2, h2, e2⟩ := q_loop0 (F := F_X9_bringsBack_29 Z m (fun (S2 : m_S) => some ((), S2))) (j := fun (S2 : m_S) => some ((), S2)) (N := 30) (q_jcp (m + 7) 0 (m + 8) 0 30 T1) (by omega) (fun i U hi hU => by
      have hM : q_M Z U.2.2 m := by rw [hU.2.2.2, h1.2.2]; exact h
      refine ⟨_, q_jcp_s hU hi (by omega), fun lp => ?_⟩
      unfold F_X9_bringsBack_29
      simp only [io_tn (show i < 2147483648 by omega)]
      rw [if_neg (k30 hi), m_gd_t hM.o, hM.b.1, m_b1_s, hM.besideL.1, m_b1_s, m_gd_t hM.besideL.2.1, m_gd_t (q_inn hM.besideL.2 (by omega) (by omega)), m_gd_t hM.b.2.1, m_gd_t (q_inn hM.b.2 (by omega) (by omega)), m_lt_s, m_lt_s, io_one, Nat.zero_add])
    (fun U hU lp => by
      unfold F_X9_bringsBack_29
      simp only []
      rw [if_pos (show (30 : Int32) ≤ Int32.ofNat 30 from Int32.le_refl _)]) T1 (q_jcp_0 _ _ _ _ _ T1)
  refine ⟨T2, ?_, fun j hj => ?_, fun j hj => ?_, ?_, ?_⟩
  · rw [m_jp_s, e1, m_jp_s]; exact e2
  · rw [h2.2.2.1]
    have := h1.1 j hj
    rw [Nat.zero_add] at this; exact this
  · have := h2.1 j hj
    rw [Nat.zero_add, h1.2.2] at this; exact this
  · exact q_ag_trans (q_ag_sub h1.2.1 (fun b k hb => by omega)) (q_ag_sub h2.2.1 (fun b k hb => by omega))
  · rw [h2.2.2.2, h1.2.2]
