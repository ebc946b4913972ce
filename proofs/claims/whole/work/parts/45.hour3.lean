/-- a state at sb, of a setup at pb, is as rows a and b tell -/
def q_state (kb nk nc : Nat) (cnt : Nat → Nat) (S : m_S) (sb : Nat) (p a : Nat → Int32) (b : Nat → Int64) (t : Nat) : Prop := (S.1 (sb + 1) 0 = Int32.ofNat t ∧ a 0 = Int32.ofNat t) ∧ S.1 (sb + 1) 1 = a 1 ∧ S.1 (sb + 1) 2 = a 2 ∧ S.1 sb 1 = a 3 ∧ S.1 sb 2 = Int32.ofNat nc ∧ ∀ c, c < nc → q_cs kb nk (cnt c) S (sb + 4 + 10 * c) p a b c t
theorem q_Ks_fr2 {Z : m_Z} {kb nk lo hi : Nat} {S S' : m_S} {p : Nat → Int32} (h : q_Ks Z kb nk S p) (hf : ∀ x k, ¬ (lo ≤ x ∧ x < hi) → S'.1 x k = S.1 x k) (hR : S'.2.2 = S.2.2) (hap : ∀ b, kb ≤ b → b < kb + 12 → b < lo ∨ hi ≤ b) : q_Ks Z kb nk S' p := by
  refine ⟨h.1, fun k hk => ?_⟩
  obtain ⟨a1, a2, a3⟩ := h.2 k hk
  have nk4 := h.1
  have e : ∀ x j, x < 3 → S'.1 (kb + 3 * k + x) j = S.1 (kb + 3 * k + x) j := fun x j hx => hf _ _ (by have := hap (kb + 3 * k + x) (by omega) (by omega); omega)
  refine ⟨by rw [hR]; exact a1, ⟨?_, ?_, ?_, fun j hj => ⟨?_, ?_⟩⟩, a3⟩
  · exact (e 0 0 (by omega)).trans a2.1
  · exact (e 0 1 (by omega)).trans a2.2.1
  · exact (e 0 2 (by omega)).trans a2.2.2.1
  · rw [e 1 j (by omega)]; exact (a2.2.2.2 j hj).1
  · rw [e 2 j (by omega)]; exact (a2.2.2.2 j hj).2
/-- what an hour leaves of the serial numbers -/
def q_keep (m : Nat) (T T' : m_S) : Prop := (∀ c k, c < 6 → k < 6 → T'.1 (m + 3) (12 + 56 * c + 4 * k) = T.1 (m + 3) (12 + 56 * c + 4 * k)) ∧ T'.1 (m + 3) 3 = T.1 (m + 3) 3
theorem j_hour_all {Z : m_Z} {kb pb ns nk nc m sb t : Nat} {cnt : Nat → Nat} {Sc Sm : m_S} (hM : q_M Z Sm.2.2 m) (hSt : q_St Z Sc.2.2 sb) (hs : q_set9 Z pb ns nk nc Sc (Sm.1 (m + 1))) (hK : q_Ks Z kb nk Sc (Sm.1 (m + 1))) (hap : ∀ b, kb ≤ b → b < kb + 12 → b < sb ∨ sb + 64 ≤ b) (hap2 : sb + 64 ≤ pb ∨ pb + 4 ≤ sb) (h : q_state kb nk nc cnt Sc sb (Sm.1 (m + 1)) (Sm.1 (m + 3)) (Sm.2.1 (m + 7)) t) (t9 : t < 100000) : ∃ u S' T', f_X6_passHour Z Sc sb pb = some (u, S') ∧ f_X9_hour Z Sm m 0 (Int32.ofNat nc - 1) = some (u, T') ∧ q_state kb nk nc cnt S' sb (Sm.1 (m + 1)) (T'.1 (m + 3)) (T'.2.1 (m + 7)) (t + 1) ∧ q_fS sb (sb + 64) Sc S' ∧ ((∀ b k, ¬ (b = m + 3) → ¬ (b = m ∧ k = 25) → T'.1 b k = Sm.1 b k) ∧ (∀ b k, b ≠ m + 7 → T'.2.1 b k = Sm.2.1 b k) ∧ T'.2.2 = Sm.2.2) ∧ q_keep m Sm T' ∧ T'.1 (m + 3) 2 = 0 := by
  obtain ⟨⟨y0, y0'⟩, y1, y2, y3, y4, y5⟩ := h
  have nc6 : nc ≤ 6 := hs.2.2.2.2.2.2
  have n2 : Sm.1 (m + 1) 2 = Int32.ofNat ns := hs.2.1.2.2.2.1
  have hws := hs.2.2.2.2.1
  have g1 := g_roomhour (r := sb + 1) hs hSt.2.1.2 y0 (by omega) (by omega)
  obtain ⟨j38, hj, g2⟩ := e_hourhead (fr := 0) (to := Int32.ofNat nc - 1) hM n2 hws y0' (by omega)
  rw [y1, y2] at g1
  have rt := q_rm_t (Sm.1 (m + 1)) ns (Int32.ofNat t) (q_ex (Sm.1 (m + 1)) t (Sm.1 (m + 3) 1) (Sm.1 (m + 3) 2))
  generalize q_rm (Sm.1 (m + 1)) ns (Int32.ofNat t) (q_ex (Sm.1 (m + 1)) t (Sm.1 (m + 3) 1) (Sm.1 (m + 3) 2)) = room at *
  generalize q_ex (Sm.1 (m + 1)) t (Sm.1 (m + 3) 1) (Sm.1 (m + 3) 2) = ex at *
  obtain ⟨S1, hS1⟩ : ∃ q, q = m_pI (m_pI (m_pI Sc (sb + 1) 1 ex) (sb + 1) 2 0) (sb + 1) 0 (Int32.ofNat (t + 1)) := ⟨_, rfl⟩
  obtain ⟨T1, hT1⟩ : ∃ q, q = m_pI (m_pI (m_pI Sm (m + 3) 1 ex) (m + 3) 2 0) m 25 room := ⟨_, rfl⟩
  rw [← hS1] at g1
  rw [← hT1] at g2
  have fS : ∀ b k, b ≠ sb + 1 → S1.1 b k = Sc.1 b k := fun b k q => by rw [hS1, pI_ne (fun z => q z.1), pI_ne (fun z => q z.1), pI_ne (fun z => q z.1)]
  have rS : S1.2 = Sc.2 := by rw [hS1]; rfl
  have s0 : S1.1 (sb + 1) 0 = Int32.ofNat (t + 1) := by rw [hS1, pI_same]
  have s1 : S1.1 (sb + 1) 1 = ex := by rw [hS1, pI_ne (by omega), pI_ne (by omega), pI_same]
  have s2 : S1.1 (sb + 1) 2 = 0 := by rw [hS1, pI_ne (by omega), pI_same]
  have fT : ∀ b k, ¬ (b = m + 3 ∧ (k = 1 ∨ k = 2)) → ¬ (b = m ∧ k = 25) → T1.1 b k = Sm.1 b k := fun b k q1 q2 => by rw [hT1, pI_ne q2, pI_ne (by omega), pI_ne (by omega)]
  have rT : T1.2 = Sm.2 := by rw [hT1]; rfl
  have a1 : T1.1 (m + 3) 1 = ex := by rw [hT1, pI_ne (by omega), pI_ne (by omega), pI_same]
  have a2 : T1.1 (m + 3) 2 = 0 := by rw [hT1, pI_ne (by omega), pI_same]
  have a25 : T1.1 m 25 = room := by rw [hT1, pI_same]
  have pT : T1.1 (m + 1) = Sm.1 (m + 1) := funext fun k => fT _ _ (by omega) (by omega)
  obtain ⟨S', T', u, z1, z2, z3, z4, z5, z6⟩ := q_hours_loop (Z := Z) (kb := kb) (nk := nk) (nc := nc) (m := m) (sb := sb) (t := t) (cnt := cnt) (S0 := Sc) (Sc := S1) (Sm := T1) (room := room) (by rw [rT]; exact hM) (by rw [rS]; exact hSt) nc6 (by rw [fS _ _ (by omega)]; exact y4) hap
    (by rw [pT]; exact q_Ks_fr2 (lo := sb) (hi := sb + 64) hK (fun x k q => fS x k (by omega)) (by rw [rS]) hap) (by rw [fT _ _ (by omega) (by omega)]; exact y0') (by omega) y0 rt.1 rt.2 a25 nc 0 100000 100000 (by omega) (by omega) (by omega) S1 T1 0
    (fun c hc => by
      rw [if_neg (Nat.not_lt_zero c), pT]
      exact q_cs_fr (y5 c hc) (fun x k k1 k2 => ⟨fS x k (by omega), by rw [rS]⟩) (by rw [rS]) (fun k k1 k2 => fT _ _ (by omega) (by omega)) (fun k k1 k2 => by rw [rT]))
    ⟨fun _ _ _ => ⟨rfl, rfl⟩, rfl⟩ ⟨fun _ _ _ => rfl, fun _ _ _ => rfl, rfl⟩ (fun _ _ _ _ => rfl)
  rw [pT] at z1
  have hM' : q_M Z T'.2.2 m := by rw [z3.2.2, rT]; exact hM
  have t0' : T'.1 (m + 3) 0 = Int32.ofNat t := by rw [z3.1 _ _ (by omega), fT _ _ (by omega) (by omega)]; exact y0'
  refine ⟨u, S', m_pI T' (m + 3) 0 (Int32.ofNat (t + 1)), ?_, ?_, ⟨⟨?_, pI_same _ _ _ _⟩, ?_, ?_, ?_, ?_, fun c hc => ?_⟩, ⟨fun b k q => ⟨?_, ?_⟩, ?_⟩, ⟨fun b k q1 q2 => ?_, fun b k q => ?_, ?_⟩, ⟨fun c k hc hk => ?_, ?_⟩, ?_⟩
  · unfold f_X6_passHour
    rw [m_gd_t hSt.1, hSt.2.1.1, m_b1_s, m_gd_t hSt.2.1.2, g1, m_bw_s, m_jp_s]
    exact z4 _
  · rw [g2]
    refine (z5 j38).trans ?_
    rw [hj u T' hM', t0', io_one]
  · rw [(z2.1 _ _ (by omega)).1]; exact s0
  · rw [(z2.1 _ _ (by omega)).1, s1, pI_ne (by omega), z3.1 _ _ (by omega), a1]
  · rw [(z2.1 _ _ (by omega)).1, s2, pI_ne (by omega), z3.1 _ _ (by omega), a2]
  · rw [(z2.1 _ _ (by omega)).1, fS _ _ (by omega), pI_ne (by omega), z3.1 _ _ (by omega), fT _ _ (by omega) (by omega)]; exact y3
  · rw [(z2.1 _ _ (by omega)).1, fS _ _ (by omega)]; exact y4
  · exact q_cs_fr (z1 c hc) (fun _ _ _ _ => ⟨rfl, rfl⟩) rfl (fun k k1 k2 => pI_ne (by omega)) (fun _ _ _ => rfl)
  · rw [(z2.1 b k (by omega)).1, fS b k (by omega)]
  · rw [(z2.1 b k (by omega)).2, rS]
  · rw [z2.2, rS]
  · rw [pI_ne (by omega), z3.1 _ _ (by omega), fT _ _ (by omega) q2]
  · show T'.2.1 b k = _; rw [z3.2.1 b k q, rT]
  · show T'.2.2 = _; rw [z3.2.2, rT]
  · rw [pI_ne (by omega), z6 c k hc hk, fT _ _ (by omega) (by omega)]
  · rw [pI_ne (by omega), z3.1 _ _ (by omega), fT _ _ (by omega) (by omega)]
  · rw [pI_ne (by omega), z3.1 _ _ (by omega), a2]
