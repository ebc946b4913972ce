/-! the draft, as far as it is read -/
/-- the row that takes() will make of the fresh one: a cassette's moisture out of its humidity -/
def q_row (p a : Nat → Int32) (k : Nat) : Int32 := if 15 ≤ k ∧ (k - 15) % 56 < 24 ∧ (k - 15) % 4 = 0 ∧ (k - 15) % 56 / 4 < (a (8 + 56 * ((k - 15) / 56))).toNatClampNeg then q_mp p (q_kn a (k - 3)) (a (k - 1)) (a k) else a k
def q_D (Z : m_Z) (x m pd ns nv nk nc : Nat) (cnt : Nat → Nat) (nq : Nat) (S T : m_S) : Prop := q_set9 Z pd ns nk nc S (T.1 (m + 2)) ∧ T.1 (m + 2) 3 = Int32.ofNat nv ∧ q_Ks Z (pd + 6) nk S (T.1 (m + 2)) ∧ (S.1 pd 10 = Int32.ofNat nq ∧ T.1 (m + 6) 3 = Int32.ofNat nq ∧ ∀ k, k < 3 → T.1 (m + 6) k = 0) ∧ (q_nt (x + 3) (m + 12) nk S T ∧ q_nt (x + 4) (m + 13) nc S T) ∧ (∀ c, c < nc → cnt c ≤ 5 ∧ q_vit (pd + 6) nk (cnt c) S (pd + 18 + 8 * c) (T.1 (m + 2)) (q_row (T.1 (m + 2)) (T.1 (m + 6))) c ∧ q_wv (T.1 (m + 2)) (q_row (T.1 (m + 2)) (T.1 (m + 6))) (cnt c) c ∧ T.1 (m + 6) (9 + 56 * c) = 0) ∧ (∀ c k, nc ≤ c → c < 6 → 4 + 56 * c ≤ k → k < 36 + 56 * c → T.1 (m + 6) k = 0) ∧ q_ser (T.1 (m + 6)) nc cnt nq
theorem m_jp_c {α β : Type} {k : α → β} {b : (α → β) → β} {d : α} (h : ∀ j : α → β, b j = j d) : m_jp k b = k d := h k
section SEASON
variable {Z : m_Z} {x m pd n st : Nat} {B : Nat → Int32} {S0 T0 S T : m_S}
theorem e_begins_ok {i : Nat} {wi lim : Int32} {T1 : m_S} (hM : q_M Z T.2.2 m) (h0 : T.1 m 18 = 0) (e : wi = Int32.ofNat i) (hi : i < 116) (hne : ¬ T.1 (m + 2) i = lim) (ht : f_X9_token Z T m = some ((), T1)) (hM1 : q_M Z T1.2.2 m) (h1 : T1.1 m 18 = 0) : f_X9_begins Z T m wi lim = some (1, T1) := by
  subst e
  unfold f_X9_begins
  rw [m_gd_t hM.o, hM.told.1, m_b1_s, m_gd_t hM.told.2.1, m_gd_t (q_inn hM.told.2 hi (by omega)), io_tn (by omega)]
  simp only [m_jp_s]
  rw [if_pos hne, e_wrong0 hM h0, m_b1_s, if_neg nz0, ht, m_bw_s, e_wrong0 hM1 h1, m_b1_s, if_neg nz0]
/-- full: the reference's statement ends at once -/
theorem e_begins_full {i : Nat} {wi lim : Int32} {T1 : m_S} (hM : q_M Z T.2.2 m) (e : wi = Int32.ofNat i) (hi : i < 116) (hq : T.1 (m + 2) i = lim) (hf : f_X9_fails Z T m 4 = some ((), T1)) (hw : q_wr Z m T1) : f_X9_begins Z T m wi lim = some (0, T1) := by
  subst e
  unfold f_X9_begins
  rw [m_gd_t hM.o, hM.told.1, m_b1_s, m_gd_t hM.told.2.1, m_gd_t (q_inn hM.told.2 hi (by omega)), io_tn (by omega)]
  simp only [m_jp_s]
  rw [if_neg (fun z => z hq), hf, m_bw_s, e_wrong1 hw, m_b1_s, if_pos z10, m_b1_s, if_pos z10]
theorem q_season {ns nv nq : Nat} {cnt : Nat → Nat} (h : q_P Z x m pd n B S0 T0 st S T) (hD : q_D Z x m pd ns nv 0 0 cnt nq S T) (hn : ns < 12) : q_E Z x m pd S0 T0 (fun S' T' => (∃ st', q_P Z x m pd n B S0 T0 st' S' T') ∧ q_D Z x m pd (ns + 1) nv 0 0 cnt nq S' T') (f_X3_readSeason Z S (x + 1) pd) (f_X9_season Z T m) := by
  have hm := h.em
  have hpd := h.pdr
  obtain ⟨⟨⟨o5, ⟨rd1, od1⟩, ⟨rd2, od2⟩, rd3, od3⟩, ⟨w0, w1, w2, w3, w4, w5, w6, w7⟩, hds, hv, hws, hk4, hc6⟩, hnv, hK, ⟨hq1, hq2, hq3⟩, hnt, hcs, hz, hser⟩ := hD
  obtain ⟨st1, S1, T1, g1, r1, hP1, f1, f2, f3, f4⟩ := q_P_next h
  have tp : ∀ k, T1.1 (m + 2) k = T.1 (m + 2) k := fun k => (f3 _ _ (by omega)).1
  have sp : ∀ b k, b ≠ x + 1 → S1.1 b k = S.1 b k := fun b k hb => (f1 _ _ (by omega)).1
  have eb := e_begins_ok (i := 2) (wi := 2) (lim := 12) h.M h.w0 rfl (by omega) (by rw [w3]; exact fun z => by have := t_eq.mp z; rw [t_ofNat (by omega), show (12 : Int32).toInt = 12 from rfl] at this; omega) r1 hP1.M hP1.w0
  obtain ⟨dd, hdd⟩ : ∃ y, y = if ns = 0 then 0 else T.1 (m + 2) (4 + 2 * ns) + 1 := ⟨_, rfl⟩
  have gn : f_X5_nextDay Z S1 pd = some dd := by
    unfold f_X5_nextDay
    rw [m_gd_t o5, sp _ _ (by omega), w2, m_lt_s]
    by_cases q : ns = 0
    · rw [if_pos (show Int32.ofNat ns - 1 < 0 by rw [q]; decide), hdd, if_pos q]
    · rw [show Int32.ofNat ns - 1 = Int32.ofNat (ns - 1) from io_sub (b := 1) (by omega), if_neg (io_nn (n := 12) (by omega) (by omega)), if_pos (show Int32.ofNat (ns - 1) < 12 from (io_lt (b := 12) (by omega) (by omega)).mpr (by omega)), f2, rd1, m_b1_s, m_gd_t od1.1, m_gd_t (q_inn od1 (by omega) (by omega)), io_tn (by omega), sp _ _ (by omega), (hds (ns - 1) (by omega)).1, hdd, if_neg q]
      show some (T.1 (m + 2) (6 + 2 * (ns - 1)) + 1) = _
      rw [show 6 + 2 * (ns - 1) = 4 + 2 * ns by omega]
  unfold f_X3_readSeason f_X9_season
  rw [m_gd_t h.f.o1, m_gd_t h.M.o, g1, m_bw_s, eb, m_bw_s, if_pos (show ¬ (1 : Int32) = 0 from z10), m_gd_t o5, gn, m_b1_s, hP1.M.told.1, m_b1_s, m_gd_t hP1.M.told.2.1, m_gd_t (q_inl (wi := 2) (i := 2) rfl hP1.M.told.2 (by omega) (by omega))]
  have e2 : T1.1 (m + 2) (2 : Int32).toNatClampNeg = Int32.ofNat ns := (tp 2).trans w3
  have e10 : (6 : Int32) + (2 : Int32) * Int32.ofNat ns = Int32.ofNat (6 + 2 * ns) := by
    show Int32.ofNat 6 + Int32.ofNat 2 * Int32.ofNat ns = _
    rw [io_mul, io_add]
  rw [e2, e10, m_lt_s, m_gd_t (q_inl (wi := 2) (i := 2) rfl hP1.M.told.2 (by omega) (by omega))]
  have hsel : ∀ (j13 : Int32 → Option (Unit × m_S)), (if ¬ Int32.ofNat ns = 0 then m_lt (Int32.ofNat (6 + 2 * ns) - (2 : Int32)) (fun v40 => m_gd (m_in v40 (Z.2.2 (m + 2))) (j13 ((T1.1 (m + 2) v40.toNatClampNeg) + (1 : Int32)))) else j13 (0 : Int32)) = j13 dd := fun j13 => by
    by_cases q : ns = 0
    · rw [if_neg (show ¬ ¬ Int32.ofNat ns = 0 from fun z => z (by rw [q]; rfl)), hdd, if_pos q]
    · rw [if_pos (show ¬ Int32.ofNat ns = 0 from fun z => q (by have := t_eq.mp z; rw [t_ofNat (by omega), i32_0] at this; omega)), show Int32.ofNat (6 + 2 * ns) - (2 : Int32) = Int32.ofNat (4 + 2 * ns) from (io_sub (a := 6 + 2 * ns) (b := 2) (by omega)).trans (congrArg Int32.ofNat (by omega)), m_lt_s, m_gd_t (q_inn hP1.M.told.2 (by omega) (by omega)), io_tn (by omega), tp, hdd, if_neg q]
  rw [m_jp_c hsel]
  have i10 : m_in (Int32.ofNat (6 + 2 * ns)) (Z.2.2 (m + 2)) := q_inn hP1.M.told.2 (by omega) (by omega)
  have i11 : m_in (Int32.ofNat (7 + 2 * ns)) (Z.2.2 (m + 2)) := q_inn hP1.M.told.2 (by omega) (by omega)
  have i2 : m_in (2 : Int32) (Z.2.2 (m + 2)) := q_inl (wi := 2) (i := 2) rfl hP1.M.told.2 (by omega) (by omega)
  have ok2 : m_ok Z (m + 2) 11 := hP1.M.told.2.1
  have e11 : Int32.ofNat (6 + 2 * ns) + (1 : Int32) = Int32.ofNat (7 + 2 * ns) := (io_one _).trans (congrArg Int32.ofNat (by omega))
  have t10 : (Int32.ofNat (6 + 2 * ns)).toNatClampNeg = 6 + 2 * ns := io_tn (by omega)
  have t11 : (Int32.ofNat (7 + 2 * ns)).toNatClampNeg = 7 + 2 * ns := io_tn (by omega)
  have t2 : (2 : Int32).toNatClampNeg = 2 := rfl
  refine q_E_num hP1 dd 364 (fun v st2 S2 T2 v1 v2 hP2 a1 a2 a3 a4 => ?_) (fun v T' hw => ?_)
  · rw [m_gd_t i10, t10]
    obtain ⟨T3, hT3⟩ : ∃ y, y = m_pI T2 (m + 2) (6 + 2 * ns) v := ⟨_, rfl⟩
    have b3 : q_ag (fun b k => ¬ (b = m + 2 ∧ k = 6 + 2 * ns)) T2 T3 := by rw [hT3]; exact q_ag_I (q_ag_refl _ _) (by omega)
    have r3 : T3.2.2 = T2.2.2 := by rw [hT3]; rfl
    have hP3 : q_P Z x m pd n B S0 T0 st2 S2 T3 := hP2.go (q_ag_refl _ _) hP2.rs (q_ag_sub b3 (fun b k hb => by omega)) r3
    rw [← hT3, m_lt_s, hP3.M.told.1, m_b1_s]
    refine q_E_num hP3 0 1000 (fun u st4 S4 T4 u1 u2 hP4 c1 c2 c3 c4 => ?_) (fun u T' hw => ?_)
    · rw [m_gd_t ok2, e11, m_gd_t i11, t11]
      obtain ⟨T5, hT5⟩ : ∃ y, y = m_pI T4 (m + 2) (7 + 2 * ns) u := ⟨_, rfl⟩
      have b5 : q_ag (fun b k => ¬ (b = m + 2 ∧ k = 7 + 2 * ns)) T4 T5 := by rw [hT5]; exact q_ag_I (q_ag_refl _ _) (by omega)
      have r5 : T5.2.2 = T4.2.2 := by rw [hT5]; rfl
      have q2 : T5.1 (m + 2) 2 = Int32.ofNat ns := by rw [(b5 _ _ (by omega)).1, (c3 _ _ (by omega)).1, (b3 _ _ (by omega)).1, (a3 _ _ (by omega)).1]; exact (tp 2).trans w3
      obtain ⟨T6, hT6⟩ : ∃ y, y = m_pI T5 (m + 2) 2 (Int32.ofNat (ns + 1)) := ⟨_, rfl⟩
      have b6 : q_ag (fun b k => ¬ (b = m + 2 ∧ (k = 2 ∨ k = 7 + 2 * ns))) T4 T6 := by rw [hT6]; exact q_ag_I (q_ag_sub b5 (fun b k hb => by omega)) (by omega)
      have r6 : T6.2.2 = T4.2.2 := by rw [hT6]; exact r5
      have hP6 : q_P Z x m pd n B S0 T0 st4 S4 T6 := hP4.go (q_ag_refl _ _) hP4.rs (q_ag_sub b6 (fun b k hb => by omega)) r6
      rw [← hT5, m_lt_s, show T5.2.2 m 2 = some (m + 2) by rw [r5]; exact hP4.M.told.1, m_b1_s, m_gd_t ok2, m_gd_t i2, m_gd_t i2, t2, q2, io_one, ← hT6, m_lt_s]
      refine q_E_semi hP6 (fun st7 S7 T7 hP7 d1 d2 d3 d4 => ?_) (fun T' hw => ?_)
      · have cc : ∀ b k, b ≠ x + 1 → S7.1 b k = S.1 b k := fun b k hb => by rw [(d1 _ _ (by omega)).1, (c1 _ _ (by omega)).1, (a1 _ _ (by omega)).1]; exact sp b k hb
        have cj : S7.2 = S.2 := d2.trans (c2.trans (a2.trans f2))
        obtain ⟨S8, hS8⟩ : ∃ y, y = m_pI (m_pI (m_pI S7 (pd + 1) ns v) (pd + 2) ns u) pd 2 (Int32.ofNat (ns + 1)) := ⟨_, rfl⟩
        have b8 : q_ag (fun b k => ¬ (b = pd + 1 ∧ k = ns) ∧ ¬ (b = pd + 2 ∧ k = ns) ∧ ¬ (b = pd ∧ k = 2)) S7 S8 := by rw [hS8]; exact q_ag_I (q_ag_I (q_ag_I (q_ag_refl _ _) (by omega)) (by omega)) (by omega)
        have r8 : S8.2 = S.2 := by rw [hS8]; exact cj
        have s82 : S8.1 pd 2 = Int32.ofNat (ns + 1) := by rw [hS8, pI_same]
        have s8a : S8.1 (pd + 1) ns = v := by rw [hS8, pI_ne (by omega), pI_ne (by omega), pI_same]
        have s8b : S8.1 (pd + 2) ns = u := by rw [hS8, pI_ne (by omega), pI_same]
        have s8 : ∀ b k, b ≠ x + 1 → ¬ (b = pd + 1 ∧ k = ns) → ¬ (b = pd + 2 ∧ k = ns) → ¬ (b = pd ∧ k = 2) → S8.1 b k = S.1 b k := fun b k h1 h2 h3 h4 => by rw [(b8 _ _ ⟨h2, h3, h4⟩).1]; exact cc b k h1
        have ga : f_X5_addSeason Z S7 pd v u = some ((), S8) := by
          unfold f_X5_addSeason
          rw [m_gd_t o5, cc _ _ (by omega), w2, if_neg (show ¬ (12 : Int32) ≤ Int32.ofNat ns from fun z => absurd ((io_le (a := 12) (by omega) (by omega)).mp z) (by omega)), cj, rd1, m_b1_s, m_gd_t od1.1, m_gd_t (q_inn od1 (by omega) (by omega)), io_tn (by omega), m_lt_s]
          rw [show (m_pI S7 (pd + 1) ns v).2.2 pd 4 = some (pd + 2) by show S7.2.2 pd 4 = _; rw [cj]; exact rd2, m_b1_s, m_gd_t od2.1, show (m_pI S7 (pd + 1) ns v).1 pd 2 = Int32.ofNat ns by rw [pI_ne (by omega), cc _ _ (by omega)]; exact w2, m_gd_t (q_inn od2 (by omega) (by omega)), io_tn (by omega), m_lt_s]
          rw [show (m_pI (m_pI S7 (pd + 1) ns v) (pd + 2) ns u).1 pd 2 = Int32.ofNat ns by rw [pI_ne (by omega), pI_ne (by omega), cc _ _ (by omega)]; exact w2, io_one, ← hS8, m_lt_s]
        rw [ga, m_bw_s]
        have hP8 : q_P Z x m pd n B S0 T0 st7 S8 T7 := hP7.go (q_ag_sub b8 (fun b k hb => by omega)) (by rw [r8]; exact h.rs) (q_ag_refl _ _) rfl
        have tt : ∀ b k, b ≠ m → b ≠ m + 2 → T7.1 b k = T.1 b k := fun b k h1 h2 => by rw [(d3 _ _ (by omega)).1, (b6 _ _ (by omega)).1, (c3 _ _ (by omega)).1, (b3 _ _ (by omega)).1, (a3 _ _ (by omega)).1, (f3 _ _ (by omega)).1]
        have tt2 : ∀ k, k ≠ 2 → k ≠ 6 + 2 * ns → k ≠ 7 + 2 * ns → T7.1 (m + 2) k = T.1 (m + 2) k := fun k h1 h2 h3 => by rw [(d3 _ _ (by omega)).1, (b6 _ _ (by omega)).1, (c3 _ _ (by omega)).1, (b3 _ _ (by omega)).1, (a3 _ _ (by omega)).1, (f3 _ _ (by omega)).1]
        have tj : T7.2.1 (m + 12) = T.2.1 (m + 12) ∧ T7.2.1 (m + 13) = T.2.1 (m + 13) := by
          constructor <;> exact funext fun k => by rw [(d3 _ _ (by omega)).2.1, (b6 _ _ (by omega)).2.1, (c3 _ _ (by omega)).2.1, (b3 _ _ (by omega)).2.1, (a3 _ _ (by omega)).2.1, (f3 _ _ (by omega)).2.1]
        have tv2 : T7.1 (m + 2) 2 = Int32.ofNat (ns + 1) := by rw [(d3 _ _ (by omega)).1, hT6, pI_same]
        have tv7 : T7.1 (m + 2) (7 + 2 * ns) = u := by rw [(d3 _ _ (by omega)).1, hT6, pI_ne (by omega), hT5, pI_same]
        have tv6 : T7.1 (m + 2) (6 + 2 * ns) = v := by rw [(d3 _ _ (by omega)).1, (b6 _ _ (by omega)).1, (c3 _ _ (by omega)).1, hT3, pI_same]
        have k0 : (0 : Int32).toInt = 0 := rfl
        have k1 : (1 : Int32).toInt = 1 := rfl
        have k364 : (364 : Int32).toInt = 364 := rfl
        have k1000 : (1000 : Int32).toInt = 1000 := rfl
        have hdv : 0 ≤ v.toInt ∧ (∀ i, i + 1 = ns → (T.1 (m + 2) (6 + 2 * i)).toInt < v.toInt) := by
          by_cases q : ns = 0
          · rw [hdd, if_pos q, k0] at v1
            exact ⟨v1, fun i hi => by omega⟩
          · rw [hdd, if_neg q] at v1
            have hb := hws.2.1 (ns - 1) (by omega)
            have hb' : 0 ≤ (T.1 (m + 2) (4 + 2 * ns)).toInt ∧ (T.1 (m + 2) (4 + 2 * ns)).toInt ≤ 364 := by
              have e : q_d (T.1 (m + 2)) (ns - 1) = T.1 (m + 2) (4 + 2 * ns) := by unfold q_d; exact congrArg _ (by omega)
              rw [e] at hb; exact ⟨hb.1, hb.2.1⟩
            rw [t_add (by omega) (by omega), k1] at v1
            refine ⟨by omega, fun i hi => ?_⟩
            rw [show 6 + 2 * i = 4 + 2 * ns by omega]; omega
        rw [k364] at v2
        rw [k0] at u1
        rw [k1000] at u2
        refine Or.inl ⟨S8, T7, rfl, rfl, ⟨st7, hP8⟩, ⟨⟨o5, ⟨by rw [r8]; exact rd1, od1⟩, ⟨by rw [r8]; exact rd2, od2⟩, by rw [r8]; exact rd3, od3⟩, ⟨?_, ?_, s82, tv2, ?_, ?_, ?_, ?_⟩, fun i hi => ?_, fun i hi => ?_, ⟨by omega, fun i hi => ?_, fun i hi => ?_⟩, by omega, by omega⟩, ?_, ⟨by omega, fun k hk => absurd hk (by omega)⟩, ⟨?_, ?_, fun k hk => ?_⟩, ⟨fun i hi => absurd hi (by omega), fun i hi => absurd hi (by omega)⟩, fun c hc => absurd hc (by omega), fun c k h1 h2 h3 h4 => ?_, ?_⟩
        · rw [s8 _ _ (by omega) (by omega) (by omega) (by omega), tt2 _ (by omega) (by omega) (by omega)]; exact w0
        · rw [s8 _ _ (by omega) (by omega) (by omega) (by omega), tt2 _ (by omega) (by omega) (by omega)]; exact w1
        · rw [s8 _ _ (by omega) (by omega) (by omega) (by omega)]; exact w4
        · rw [tt2 _ (by omega) (by omega) (by omega)]; exact w5
        · rw [s8 _ _ (by omega) (by omega) (by omega) (by omega)]; exact w6
        · rw [tt2 _ (by omega) (by omega) (by omega)]; exact w7
        · by_cases q : i = ns
          · subst q; exact ⟨s8a.trans tv6.symm, s8b.trans tv7.symm⟩
          · have := hds i (by omega)
            unfold q_d q_s at this ⊢
            rw [s8 _ _ (by omega) (by omega) (by omega) (by omega), s8 _ _ (by omega) (by omega) (by omega) (by omega), tt2 _ (by omega) (by omega) (by omega), tt2 _ (by omega) (by omega) (by omega)]; exact this
        · rw [s8 _ _ (by omega) (by omega) (by omega) (by omega), tt2 _ (by omega) (by omega) (by omega)]; exact hv i hi
        · unfold q_d q_s
          by_cases q : i = ns
          · subst q; rw [tv6, tv7]; exact ⟨hdv.1, v2, u1, u2⟩
          · rw [tt2 _ (by omega) (by omega) (by omega), tt2 _ (by omega) (by omega) (by omega)]; exact hws.2.1 i (by omega)
        · unfold q_d
          by_cases q : i + 1 = ns
          · rw [tt2 (6 + 2 * i) (by omega) (by omega) (by omega), show 6 + 2 * (i + 1) = 6 + 2 * ns by omega, tv6]; exact hdv.2 i q
          · rw [tt2 (6 + 2 * i) (by omega) (by omega) (by omega), tt2 (6 + 2 * (i + 1)) (by omega) (by omega) (by omega)]; exact hws.2.2 i (by omega)
        · rw [tt2 _ (by omega) (by omega) (by omega)]; exact hnv
        · rw [s8 _ _ (by omega) (by omega) (by omega) (by omega)]; exact hq1
        · rw [tt _ _ (by omega) (by omega)]; exact hq2
        · rw [tt _ _ (by omega) (by omega)]; exact hq3 k hk
        · rw [tt _ _ (by omega) (by omega)]; exact hz c k h1 h2 h3 h4
        · rw [show T7.1 (m + 6) = T.1 (m + 6) from funext fun k => tt _ _ (by omega) (by omega)]; exact hser
      · exact q_W_done
    · rw [m_gd_t ok2, e11, m_gd_t i11, t11]
      refine q_W_set (Or.inl rfl) ?_
      have hw1 := q_wr_I (b := m + 2) (k := 7 + 2 * ns) (v := u) hw (Or.inl rfl)
      generalize m_pI T' (m + 2) (7 + 2 * ns) u = T9 at hw1 ⊢
      rw [hw1.1.told.1, m_b1_s, m_gd_t ok2, m_gd_t i2, m_gd_t i2]
      refine q_W_set (Or.inl rfl) ?_
      have hw2 := q_wr_I (b := m + 2) (k := (2 : Int32).toNatClampNeg) (v := T9.1 (m + 2) (2 : Int32).toNatClampNeg + 1) hw1 (Or.inl rfl)
      exact q_W_ends hw2 q_W_done
  · rw [m_gd_t i10, t10]
    refine q_W_set (Or.inl rfl) ?_
    have hw0 := q_wr_I (b := m + 2) (k := 6 + 2 * ns) (v := v) hw (Or.inl rfl)
    generalize m_pI T' (m + 2) (6 + 2 * ns) v = T8 at hw0 ⊢
    rw [hw0.1.told.1, m_b1_s]
    refine q_W_fig hw0 _ _ ?_
    rw [m_gd_t ok2, e11, m_gd_t i11, t11]
    refine q_W_set (Or.inl rfl) ?_
    have hw1 := q_wr_I (b := m + 2) (k := 7 + 2 * ns) (v := 0) hw0 (Or.inl rfl)
    generalize m_pI T8 (m + 2) (7 + 2 * ns) 0 = T9 at hw1 ⊢
    rw [hw1.1.told.1, m_b1_s, m_gd_t ok2, m_gd_t i2, m_gd_t i2]
    refine q_W_set (Or.inl rfl) ?_
    have hw2 := q_wr_I (b := m + 2) (k := (2 : Int32).toNatClampNeg) (v := T9.1 (m + 2) (2 : Int32).toNatClampNeg + 1) hw1 (Or.inl rfl)
    exact q_W_ends hw2 q_W_done
end SEASON
