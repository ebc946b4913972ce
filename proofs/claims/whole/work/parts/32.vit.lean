/-! a case of the class against its place in the reference's row -/
def q_kn (a : Nat → Int32) (o : Nat) : Nat := (a (o + 1)).toNatClampNeg
def q_cas (kb nk : Nat) (S : m_S) (ca : Nat) (a : Nat → Int32) (o : Nat) : Prop := S.1 ca 0 = a o ∧ (q_kn a o < nk ∧ a (o + 1) = Int32.ofNat (q_kn a o) ∧ S.2.2 ca 1 = some (kb + 3 * q_kn a o)) ∧ S.1 ca 2 = a (o + 2) ∧ S.1 ca 3 = a (o + 3)
def q_vit (kb nk n : Nat) (S : m_S) (v : Nat) (p a : Nat → Int32) (c : Nat) : Prop := S.1 v 0 = p (110 + c) ∧ S.1 v 1 = a (4 + 56 * c) ∧ S.1 v 2 = a (5 + 56 * c) ∧ S.1 v 3 = a (6 + 56 * c) ∧ S.1 v 4 = a (7 + 56 * c) ∧ S.1 v 5 = Int32.ofNat n ∧ a (8 + 56 * c) = Int32.ofNat n ∧ ∀ k, k < n → q_cas kb nk S (v + 2 + k) a (12 + 56 * c + 4 * k)
/-- the numbers of a case are as the document has them -/
def q_wv (p a : Nat → Int32) (n c : Nat) : Prop := (100 ≤ (p (110 + c)).toInt ∧ (p (110 + c)).toInt ≤ 9999) ∧ (0 ≤ (a (4 + 56 * c)).toInt ∧ (a (4 + 56 * c)).toInt ≤ 1000) ∧ (0 ≤ (a (7 + 56 * c)).toInt ∧ (a (7 + 56 * c)).toInt < 20000) ∧ n ≤ 6 ∧ ∀ k, k < n → (1 ≤ (a (14 + 56 * c + 4 * k)).toInt ∧ (a (14 + 56 * c + 4 * k)).toInt ≤ 999) ∧ 0 ≤ (a (15 + 56 * c + 4 * k)).toInt ∧ (a (15 + 56 * c + 4 * k)).toInt ≤ (q_mp p (q_kn a (12 + 56 * c + 4 * k)) (a (14 + 56 * c + 4 * k)) 1000).toInt
/-- the kinds of a setup: number k at kb + 3 k -/
def q_Ks (Z : m_Z) (kb nk : Nat) (S : m_S) (p : Nat → Int32) : Prop := nk ≤ 4 ∧ ∀ k, k < nk → q_K Z S.2.2 (kb + 3 * k) ∧ q_kin S (kb + 3 * k) p k ∧ q_wk p k
theorem g_hum {Z : m_Z} {S : m_S} {v : Nat} (g : m_ok Z v 7) (h : 100 ≤ (S.1 v 0).toInt) : f_X7_humidity Z S v = some (((1000 : Int32) * S.1 v 4) / S.1 v 0) := by
  unfold f_X7_humidity
  rw [m_gd_t g, if_pos (show (1 : Int32) ≤ S.1 v 0 from t_le.mpr (by have : (1 : Int32).toInt = 1 := rfl; omega)), m_gd_t (show ¬ S.1 v 0 = 0 from fun e => by have := t_eq.mp e; have : (0 : Int32).toInt = 0 := rfl; omega)]
theorem e_hum {Z : m_Z} {S : m_S} {m c : Nat} (h : q_M Z S.2.2 m) (hc : c < 6) (v0 : 100 ≤ (S.1 (m + 1) (110 + c)).toInt) (v1 : (S.1 (m + 1) (110 + c)).toInt ≤ 9999) (a0 : 0 ≤ (S.1 (m + 3) (7 + 56 * c)).toInt) (a1 : (S.1 (m + 3) (7 + 56 * c)).toInt < 20000) : f_X9_humidityOf Z S m (Int32.ofNat c) = some (((1000 : Int32) * S.1 (m + 3) (7 + 56 * c)) / S.1 (m + 1) (110 + c)) := by
  have e : (110 : Int32) + Int32.ofNat c = Int32.ofNat (110 + c) := io_add 110 c
  have ei : 4 + 56 * c + 3 = 7 + 56 * c := by omega
  unfold f_X9_humidityOf
  rw [m_gd_t h.o, e_of (wi := 3) h (w := 3) rfl hc (by omega), m_b1_s, h.p.1, m_b1_s, m_gd_t h.p.2.1, m_lt_s, e, m_gd_t (q_inn h.p.2 (by omega) (by omega)), io_tn (by omega), ei, m_gd_t (show ¬ (S.1 (m + 1) (110 + c)).toInt64 = 0 from fun q => by have := l_eq.mp q; rw [l_of] at this; have : (0 : Int64).toInt = 0 := rfl; omega), q_hum_l a0 a1 v0 v1]
theorem g_wish {Z : m_Z} {S : m_S} {ca d k : Nat} {p : Nat → Int32} {hum : Int32} (g : m_ok Z ca 0) (hr : S.2.2 ca 1 = some d) (gk : q_K Z S.2.2 d) (hk : q_kin S d p k) (hw : q_wk p k) : f_X0_wishAt Z S ca hum = some (((q_mp p k (S.1 ca 2) hum - S.1 ca 3) * p (54 + 14 * k)) / (1000 : Int32)) := by
  unfold f_X0_wishAt
  rw [m_gd_t g, hr, m_b1_s, m_gd_t gk.1, g_would gk hk hw, m_b1_s, hk.2.1]
/-- what an hour leaves alone -/
def q_frV (v : Nat) (S S' : m_S) : Prop := (∀ b k, ¬ (b = v ∧ k = 4) → ¬ (v + 2 ≤ b ∧ b < v + 8 ∧ k = 3) → S'.1 b k = S.1 b k) ∧ S'.2 = S.2
def q_frA (m c : Nat) (S S' : m_S) : Prop := (∀ b k, ¬ (b = m + 3 ∧ (k = 7 + 56 * c ∨ ∃ j, j < 6 ∧ k = 15 + 56 * c + 4 * j)) → S'.1 b k = S.1 b k) ∧ S'.2.2 = S.2.2
theorem q_Ks_fr {Z : m_Z} {kb nk v : Nat} {S S' : m_S} {p : Nat → Int32} (h : q_Ks Z kb nk S p) (hf : q_frV v S S') (hap : ∀ b, kb ≤ b → b < kb + 12 → b < v ∨ v + 8 ≤ b) : q_Ks Z kb nk S' p := by
  refine ⟨h.1, fun k hk => ?_⟩
  have h4 := h.1
  obtain ⟨h1, h2, h3⟩ := h.2 k hk
  have e : ∀ i j, i < 3 → S'.1 (kb + 3 * k + i) j = S.1 (kb + 3 * k + i) j := fun i j hi => hf.1 _ _ (fun q => by have := hap (kb + 3 * k + i) (by omega) (by omega); omega) (fun q => by have := hap (kb + 3 * k + i) (by omega) (by omega); omega)
  refine ⟨by rw [hf.2]; exact h1, ⟨?_, ?_, ?_, fun j hj => ⟨?_, ?_⟩⟩, h3⟩
  · exact (e 0 0 (by omega)).trans h2.1
  · exact (e 0 1 (by omega)).trans h2.2.1
  · exact (e 0 2 (by omega)).trans h2.2.2.1
  · rw [e 1 j (by omega)]; exact (h2.2.2.2 j hj).1
  · rw [e 2 j (by omega)]; exact (h2.2.2.2 j hj).2
theorem pI_same (S : m_S) (a k : Nat) (v : Int32) : (m_pI S a k v).1 a k = v := if_pos ⟨rfl, rfl⟩
theorem pI_ne {S : m_S} {a k b j : Nat} {v : Int32} (h : ¬ (b = a ∧ j = k)) : (m_pI S a k v).1 b j = S.1 b j := if_neg h
theorem pJ_same (S : m_S) (a k : Nat) (v : Int64) : (m_pJ S a k v).2.1 a k = v := if_pos ⟨rfl, rfl⟩
theorem pJ_ne {S : m_S} {a k b j : Nat} {v : Int64} (h : ¬ (b = a ∧ j = k)) : (m_pJ S a k v).2.1 b j = S.2.1 b j := if_neg h
