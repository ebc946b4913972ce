theorem q_set9_fr {Z : m_Z} {pb ns nk nc lo hi : Nat} {S S' : m_S} {p : Nat → Int32} (h : q_set9 Z pb ns nk nc S p) (hf : ∀ x k, ¬ (lo ≤ x ∧ x < hi) → S'.1 x k = S.1 x k) (hR : S'.2.2 = S.2.2) (hap : hi ≤ pb ∨ pb + 4 ≤ lo) : q_set9 Z pb ns nk nc S' p := by
  obtain ⟨h1, ⟨x0, x1, x2, x3, x4, x5, x6, x7⟩, h3, h4, h5⟩ := h
  refine ⟨by rw [hR]; exact h1, ⟨?_, ?_, ?_, x3, ?_, x5, ?_, x7⟩, fun i hi => ⟨?_, ?_⟩, fun i hi => ?_, h5⟩
  · rw [hf _ _ (by omega)]; exact x0
  · rw [hf _ _ (by omega)]; exact x1
  · rw [hf _ _ (by omega)]; exact x2
  · rw [hf _ _ (by omega)]; exact x4
  · rw [hf _ _ (by omega)]; exact x6
  · rw [hf _ _ (by omega)]; exact (h3 i hi).1
  · rw [hf _ _ (by omega)]; exact (h3 i hi).2
  · rw [hf _ _ (by omega)]; exact h4 i hi
/-- what hours of all cases change in the reference -/
def q_fH (m : Nat) (T T' : m_S) : Prop := (∀ b k, ¬ (b = m + 3) → ¬ (b = m ∧ k = 25) → T'.1 b k = T.1 b k) ∧ (∀ b k, b ≠ m + 7 → T'.2.1 b k = T.2.1 b k) ∧ T'.2.2 = T.2.2
theorem q_adv_loop {Z : m_Z} {kb pb ns nk nc m sb x t H : Nat} {cnt : Nat → Nat} (hsb : sb = x + 137) (hm : m = x + 341) (hkb : kb = pb + 6) (hpb : pb = x + 5 ∨ pb = x + 71) (hH : H ≤ 2000) (ht : t + H ≤ 99999) : ∀ (d i fc fm : Nat), d + i = H → d < fc → d < fm → ∀ (S T : m_S) (u : Int32), q_M Z T.2.2 m → q_St Z S.2.2 sb → S.2.2 x 3 = some sb → S.2.2 x 1 = some pb → q_set9 Z pb ns nk nc S (T.1 (m + 1)) → q_Ks Z kb nk S (T.1 (m + 1)) → q_state kb nk nc cnt S sb (T.1 (m + 1)) (T.1 (m + 3)) (T.2.1 (m + 7)) (t + i) →
    ∃ S' T' u', q_set9 Z pb ns nk nc S' (T'.1 (m + 1)) ∧ q_Ks Z kb nk S' (T'.1 (m + 1)) ∧ q_state kb nk nc cnt S' sb (T'.1 (m + 1)) (T'.1 (m + 3)) (T'.2.1 (m + 7)) (t + H) ∧ q_fS sb (sb + 64) S S' ∧ q_fH m T T' ∧ (∀ j13, m_fx (F_X8_advance_42 Z x (Int32.ofNat H) j13) fc (u, Int32.ofNat i, S) = j13 u' S') ∧ (∀ j3, m_fx (F_X9_hours_6 Z m (Int32.ofNat H) 0 (Int32.ofNat nc - 1) j3) fm (u, Int32.ofNat i, T) = j3 u' T') ∧ q_keep m T T' ∧ (T'.1 (m + 3) 2 = T.1 (m + 3) 2 ∨ T'.1 (m + 3) 2 = 0) := by
  intro d
  induction d with
  | zero =>
    intro i fc fm h1 h2 h3 S T u hM hSt r3 r1 hs hK hst
    obtain ⟨f, rfl⟩ : ∃ f, fc = f + 1 := ⟨fc - 1, by omega⟩
    obtain ⟨f', rfl⟩ : ∃ f', fm = f' + 1 := ⟨fm - 1, by omega⟩
    have hi : i = H := by omega
    subst hi
    have hle : Int32.ofNat i ≤ Int32.ofNat i := (io_le (by omega) (by omega)).mpr (Nat.le_refl _)
    refine ⟨S, T, u, hs, hK, hst, ⟨fun _ _ _ => ⟨rfl, rfl⟩, rfl⟩, ⟨fun _ _ _ _ => rfl, fun _ _ _ => rfl, rfl⟩, fun j13 => ?_, fun j3 => ?_, ⟨fun _ _ _ _ => rfl, rfl⟩, Or.inl rfl⟩
    · rw [m_fx_s]
      unfold F_X8_advance_42
      simp only []
      rw [if_pos hle]
    · rw [m_fx_s]
      unfold F_X9_hours_6
      simp only []
      rw [if_pos hle]
  | succ d ih =>
    intro i fc fm h1 h2 h3 S T u hM hSt r3 r1 hs hK hst
    obtain ⟨f, rfl⟩ : ∃ f, fc = f + 1 := ⟨fc - 1, by omega⟩
    obtain ⟨f', rfl⟩ : ∃ f', fm = f' + 1 := ⟨fm - 1, by omega⟩
    obtain ⟨u1, S1, T1, e1, e2, e3, e4, e5, e6, e7⟩ := j_hour_all (Z := Z) (kb := kb) (pb := pb) (ns := ns) (nk := nk) (nc := nc) (m := m) (sb := sb) (t := t + i) (cnt := cnt) (Sc := S) (Sm := T) hM hSt hs hK (fun b b1 b2 => by omega) (by omega) hst (by omega)
    have pT : T1.1 (m + 1) = T.1 (m + 1) := funext fun k => e5.1 _ _ (by omega) (by omega)
    obtain ⟨S', T', u', z1, z2, z3, z4, z5, z6, z7, z8, z9⟩ := ih (i + 1) f f' (by omega) (by omega) (by omega) S1 T1 (u + u1) (by rw [e5.2.2]; exact hM) (by rw [e4.2]; exact hSt) (by rw [e4.2]; exact r3) (by rw [e4.2]; exact r1)
      (by rw [pT]; exact q_set9_fr (lo := sb) (hi := sb + 64) hs (fun y k q => (e4.1 y k q).1) e4.2 (by omega))
      (by rw [pT]; exact q_Ks_fr2 (lo := sb) (hi := sb + 64) hK (fun y k q => (e4.1 y k q).1) e4.2 (fun b b1 b2 => by omega))
      (by rw [pT]; exact e3)
    have c1 : ¬ Int32.ofNat H ≤ Int32.ofNat i := fun q => absurd ((io_le (by omega) (by omega)).mp q) (by omega)
    refine ⟨S', T', u', z1, z2, z3, ⟨fun b k q => ⟨(z4.1 b k q).1.trans (e4.1 b k q).1, (z4.1 b k q).2.trans (e4.1 b k q).2⟩, z4.2.trans e4.2⟩, ⟨fun b k q1 q2 => (z5.1 b k q1 q2).trans (e5.1 b k q1 q2), fun b k q => (z5.2.1 b k q).trans (e5.2.1 b k q), z5.2.2.trans e5.2.2⟩, fun j13 => ?_, fun j3 => ?_, ⟨fun c k hc hk => (z8.1 c k hc hk).trans (e6.1 c k hc hk), z8.2.trans e6.2⟩, Or.inr (z9.elim (fun q => q.trans e7) id)⟩
    · rw [m_fx_s]
      generalize hlp : m_fx (F_X8_advance_42 Z x (Int32.ofNat H) j13) f = lp
      unfold F_X8_advance_42
      simp only []
      rw [if_neg c1, r3, m_b1_s, r1, m_b1_s, m_gd_t hSt.1, e1, m_bw_s, m_lt_s, m_lt_s, io_one, ← hlp]
      exact z6 j13
    · rw [m_fx_s]
      generalize hlp : m_fx (F_X9_hours_6 Z m (Int32.ofNat H) 0 (Int32.ofNat nc - 1) j3) f' = lp
      unfold F_X9_hours_6
      simp only []
      rw [if_neg c1, m_gd_t hM.o, e2, m_bw_s, m_lt_s, m_lt_s, io_one, ← hlp]
      exact z7 j3
