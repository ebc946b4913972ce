/-! a case: vitrine at v, logbook at v + 8; n cassettes; t hours have passed -/
def q_cs (kb nk n : Nat) (S : m_S) (v : Nat) (p a : Nat → Int32) (b : Nat → Int64) (c t : Nat) : Prop := q_vit kb nk n S v p a c ∧ q_wv p a n c ∧ q_log S (v + 8) a b c t
theorem q_vit_fr {kb nk n v c : Nat} {S S' : m_S} {p a a' : Nat → Int32} (h : q_vit kb nk n S v p a c) (n6 : n ≤ 6) (hS : ∀ x k, v ≤ x → x < v + 8 → S'.1 x k = S.1 x k) (hR : S'.2.2 = S.2.2) (ha : ∀ k, 4 + 56 * c ≤ k → k < 36 + 56 * c → a' k = a k) : q_vit kb nk n S' v p a' c := by
  obtain ⟨v0, v1, v2, v3, v4, v5, v6, v7⟩ := h
  have kn0 : ∀ k, k < n → q_kn a' (12 + 56 * c + 4 * k) = q_kn a (12 + 56 * c + 4 * k) := fun k hk => by unfold q_kn; rw [ha _ (by omega) (by omega)]
  refine ⟨?_, ?_, ?_, ?_, ?_, ?_, ?_, fun k hk => ⟨?_, ⟨?_, ?_, ?_⟩, ?_, ?_⟩⟩
  · rw [hS _ _ (by omega) (by omega)]; exact v0
  · rw [hS _ _ (by omega) (by omega), ha _ (by omega) (by omega)]; exact v1
  · rw [hS _ _ (by omega) (by omega), ha _ (by omega) (by omega)]; exact v2
  · rw [hS _ _ (by omega) (by omega), ha _ (by omega) (by omega)]; exact v3
  · rw [hS _ _ (by omega) (by omega), ha _ (by omega) (by omega)]; exact v4
  · rw [hS _ _ (by omega) (by omega)]; exact v5
  · rw [ha _ (by omega) (by omega)]; exact v6
  · rw [hS _ _ (by omega) (by omega), ha _ (by omega) (by omega)]; exact (v7 k hk).1
  · rw [kn0 k hk]; exact (v7 k hk).2.1.1
  · rw [kn0 k hk, ha _ (by omega) (by omega)]; exact (v7 k hk).2.1.2.1
  · rw [kn0 k hk, hR]; exact (v7 k hk).2.1.2.2
  · rw [hS _ _ (by omega) (by omega), ha _ (by omega) (by omega)]; exact (v7 k hk).2.2.1
  · rw [hS _ _ (by omega) (by omega), ha _ (by omega) (by omega)]; exact (v7 k hk).2.2.2
theorem q_wv_fr {n c : Nat} {p a a' : Nat → Int32} (h : q_wv p a n c) (ha : ∀ k, 4 + 56 * c ≤ k → k < 36 + 56 * c → a' k = a k) : q_wv p a' n c := by
  obtain ⟨w0, w1, w2, n6, w3⟩ := h
  have kn0 : ∀ k, k < n → q_kn a' (12 + 56 * c + 4 * k) = q_kn a (12 + 56 * c + 4 * k) := fun k hk => by unfold q_kn; rw [ha _ (by omega) (by omega)]
  refine ⟨w0, ?_, ?_, n6, fun k hk => ⟨?_, ?_, ?_⟩⟩
  · rw [ha _ (by omega) (by omega)]; exact w1
  · rw [ha _ (by omega) (by omega)]; exact w2
  · rw [ha _ (by omega) (by omega)]; exact (w3 k hk).1
  · rw [ha _ (by omega) (by omega)]; exact (w3 k hk).2.1
  · rw [kn0 k hk, ha _ (by omega) (by omega), ha _ (by omega) (by omega)]; exact (w3 k hk).2.2
theorem q_cs_fr {kb nk n v c t : Nat} {S S' : m_S} {p a a' : Nat → Int32} {b b' : Nat → Int64} (h : q_cs kb nk n S v p a b c t) (hS : ∀ x k, v ≤ x → x < v + 10 → S'.1 x k = S.1 x k ∧ S'.2.1 x k = S.2.1 x k) (hR : S'.2.2 = S.2.2) (ha : ∀ k, 4 + 56 * c ≤ k → k < 60 + 56 * c → a' k = a k) (hb : ∀ k, 5 * c ≤ k → k < 5 * c + 5 → b' k = b k) : q_cs kb nk n S' v p a' b' c t := by
  obtain ⟨h1, h2, ⟨l0, l1, l2, l3, l7⟩, l4, l5, l6, lr⟩ := h
  refine ⟨q_vit_fr h1 h2.2.2.2.1 (fun x k x1 x2 => (hS x k x1 (by omega)).1) hR (fun k k1 k2 => ha k k1 (by omega)), q_wv_fr h2 (fun k k1 k2 => ha k k1 (by omega)), ⟨?_, ?_, ?_, ?_, ?_⟩, ?_, ?_, ?_, fun j j1 j2 => ?_⟩
  · rw [(hS _ _ (by omega) (by omega)).2, hb _ (by omega) (by omega)]; exact l0
  · rw [(hS _ _ (by omega) (by omega)).2, hb _ (by omega) (by omega)]; exact l1
  · rw [(hS _ _ (by omega) (by omega)).2, hb _ (by omega) (by omega)]; exact l2
  · rw [(hS _ _ (by omega) (by omega)).2, hb _ (by omega) (by omega)]; exact l3
  · rw [(hS _ _ (by omega) (by omega)).2, hb _ (by omega) (by omega)]; exact l7
  · rw [(hS _ _ (by omega) (by omega)).1, ha _ (by omega) (by omega)]; exact l4
  · rw [(hS _ _ (by omega) (by omega)).1, ha _ (by omega) (by omega)]; exact l5
  · rw [(hS _ _ (by omega) (by omega)).1, ha _ (by omega) (by omega)]; exact l6
  · rw [(hS _ _ (by omega) (by omega)).1, ha _ (by omega) (by omega)]; exact lr j j1 j2
