/-! putting in, taking out, exchanging: what becomes of the cells -/
theorem q_kn_of {a : Nat → Int32} {o kk : Nat} (h : a (o + 1) = Int32.ofNat kk) (hk : kk < 4) : q_kn a o = kk := by unfold q_kn; rw [h, io_tn (by omega)]
theorem q_cs_app {kb nk n v c kk : Nat} {S S' : m_S} {p a a' : Nat → Int32} (h1 : q_vit kb nk n S v p a c) (h2 : q_wv p a n c) (n5 : n < 6) (hk : kk < nk) (hk4 : nk ≤ 4) (hS : q_ag (fun y k => v ≤ y ∧ y < v + 8 ∧ ¬ (y = v + 2 + n) ∧ ¬ (y = v ∧ k = 5)) S S') (h5 : S'.1 v 5 = Int32.ofNat (n + 1)) (ha : ∀ k, 4 + 56 * c ≤ k → k < 36 + 56 * c → k ≠ 8 + 56 * c → ¬ (12 + 56 * c + 4 * n ≤ k ∧ k < 16 + 56 * c + 4 * n) → a' k = a k) (a8 : a' (8 + 56 * c) = Int32.ofNat (n + 1)) (c0 : S'.1 (v + 2 + n) 0 = a' (12 + 56 * c + 4 * n)) (c1 : a' (12 + 56 * c + 4 * n + 1) = Int32.ofNat kk) (c1' : S'.2.2 (v + 2 + n) 1 = some (kb + 3 * kk)) (c2 : S'.1 (v + 2 + n) 2 = a' (12 + 56 * c + 4 * n + 2)) (c3 : S'.1 (v + 2 + n) 3 = a' (12 + 56 * c + 4 * n + 3)) (w2 : 1 ≤ (a' (12 + 56 * c + 4 * n + 2)).toInt ∧ (a' (12 + 56 * c + 4 * n + 2)).toInt ≤ 999) (w3 : 0 ≤ (a' (12 + 56 * c + 4 * n + 3)).toInt ∧ (a' (12 + 56 * c + 4 * n + 3)).toInt ≤ (q_mp p kk (a' (12 + 56 * c + 4 * n + 2)) 1000).toInt) : q_vit kb nk (n + 1) S' v p a' c ∧ q_wv p a' (n + 1) c := by
  obtain ⟨v0, v1, v2, v3, v4, v5, v6, v7⟩ := h1
  obtain ⟨u0, u1, u2, n6, u3⟩ := h2
  have kn0 : ∀ k, k < n → q_kn a' (12 + 56 * c + 4 * k) = q_kn a (12 + 56 * c + 4 * k) := fun k hk => by unfold q_kn; rw [ha _ (by omega) (by omega) (by omega) (by omega)]
  have kn1 : q_kn a' (12 + 56 * c + 4 * n) = kk := q_kn_of c1 (by omega)
  refine ⟨⟨?_, ?_, ?_, ?_, ?_, h5, a8, fun k hkn => ?_⟩, u0, ?_, ?_, by omega, fun k hkn => ?_⟩
  · rw [(hS _ _ (by omega)).1]; exact v0
  · rw [(hS _ _ (by omega)).1, ha _ (by omega) (by omega) (by omega) (by omega)]; exact v1
  · rw [(hS _ _ (by omega)).1, ha _ (by omega) (by omega) (by omega) (by omega)]; exact v2
  · rw [(hS _ _ (by omega)).1, ha _ (by omega) (by omega) (by omega) (by omega)]; exact v3
  · rw [(hS _ _ (by omega)).1, ha _ (by omega) (by omega) (by omega) (by omega)]; exact v4
  · by_cases e : k = n
    · subst e
      exact ⟨c0, ⟨by rw [kn1]; exact hk, by rw [kn1]; exact c1, by rw [kn1]; exact c1'⟩, c2, c3⟩
    · have := v7 k (by omega)
      refine ⟨?_, ⟨?_, ?_, ?_⟩, ?_, ?_⟩
      · rw [(hS _ _ (by omega)).1, ha _ (by omega) (by omega) (by omega) (by omega)]; exact this.1
      · rw [kn0 k (by omega)]; exact this.2.1.1
      · rw [kn0 k (by omega), ha _ (by omega) (by omega) (by omega) (by omega)]; exact this.2.1.2.1
      · rw [kn0 k (by omega), (hS _ _ (by omega)).2.2]; exact this.2.1.2.2
      · rw [(hS _ _ (by omega)).1, ha _ (by omega) (by omega) (by omega) (by omega)]; exact this.2.2.1
      · rw [(hS _ _ (by omega)).1, ha _ (by omega) (by omega) (by omega) (by omega)]; exact this.2.2.2
  · rw [ha _ (by omega) (by omega) (by omega) (by omega)]; exact u1
  · rw [ha _ (by omega) (by omega) (by omega) (by omega)]; exact u2
  · by_cases e : k = n
    · subst e
      rw [kn1, show 14 + 56 * c + 4 * k = 12 + 56 * c + 4 * k + 2 by omega, show 15 + 56 * c + 4 * k = 12 + 56 * c + 4 * k + 3 by omega]
      exact ⟨w2, w3⟩
    · rw [kn0 k (by omega), ha (14 + 56 * c + 4 * k) (by omega) (by omega) (by omega) (by omega), ha (15 + 56 * c + 4 * k) (by omega) (by omega) (by omega) (by omega)]
      exact u3 k (by omega)
/-- cell k is new -/
theorem q_cs_upd {kb nk n v c k0 : Nat} {S S' : m_S} {p a a' : Nat → Int32} (h1 : q_vit kb nk n S v p a c) (h2 : q_wv p a n c) (hk0 : k0 < n) (hS : q_ag (fun y k => v ≤ y ∧ y < v + 8 ∧ ¬ (y = v + 2 + k0 ∧ (k = 0 ∨ k = 3))) S S') (ha : ∀ k, 4 + 56 * c ≤ k → k < 36 + 56 * c → k ≠ 12 + 56 * c + 4 * k0 → k ≠ 15 + 56 * c + 4 * k0 → a' k = a k) (c0 : S'.1 (v + 2 + k0) 0 = a' (12 + 56 * c + 4 * k0)) (c3 : S'.1 (v + 2 + k0) 3 = a' (15 + 56 * c + 4 * k0)) (w3 : 0 ≤ (a' (15 + 56 * c + 4 * k0)).toInt ∧ (a' (15 + 56 * c + 4 * k0)).toInt ≤ (q_mp p (q_kn a (12 + 56 * c + 4 * k0)) (a (14 + 56 * c + 4 * k0)) 1000).toInt) : q_vit kb nk n S' v p a' c ∧ q_wv p a' n c := by
  obtain ⟨v0, v1, v2, v3, v4, v5, v6, v7⟩ := h1
  obtain ⟨u0, u1, u2, n6, u3⟩ := h2
  have kn0 : ∀ k, k < n → q_kn a' (12 + 56 * c + 4 * k) = q_kn a (12 + 56 * c + 4 * k) := fun k hk => by unfold q_kn; rw [ha _ (by omega) (by omega) (by omega) (by omega)]
  refine ⟨⟨?_, ?_, ?_, ?_, ?_, ?_, ?_, fun k hkn => ?_⟩, u0, ?_, ?_, n6, fun k hkn => ?_⟩
  · rw [(hS _ _ (by omega)).1]; exact v0
  · rw [(hS _ _ (by omega)).1, ha _ (by omega) (by omega) (by omega) (by omega)]; exact v1
  · rw [(hS _ _ (by omega)).1, ha _ (by omega) (by omega) (by omega) (by omega)]; exact v2
  · rw [(hS _ _ (by omega)).1, ha _ (by omega) (by omega) (by omega) (by omega)]; exact v3
  · rw [(hS _ _ (by omega)).1, ha _ (by omega) (by omega) (by omega) (by omega)]; exact v4
  · rw [(hS _ _ (by omega)).1]; exact v5
  · rw [ha _ (by omega) (by omega) (by omega) (by omega)]; exact v6
  · have := v7 k hkn
    refine ⟨?_, ⟨?_, ?_, ?_⟩, ?_, ?_⟩
    · by_cases e : k = k0
      · subst e; exact c0
      · rw [(hS _ _ (by omega)).1, ha _ (by omega) (by omega) (by omega) (by omega)]; exact this.1
    · rw [kn0 k hkn]; exact this.2.1.1
    · rw [kn0 k hkn, ha _ (by omega) (by omega) (by omega) (by omega)]; exact this.2.1.2.1
    · rw [kn0 k hkn, (hS _ _ (by omega)).2.2]; exact this.2.1.2.2
    · rw [(hS _ _ (by omega)).1, ha _ (by omega) (by omega) (by omega) (by omega)]; exact this.2.2.1
    · by_cases e : k = k0
      · subst e; rw [show 12 + 56 * c + 4 * k + 3 = 15 + 56 * c + 4 * k by omega]; exact c3
      · rw [(hS _ _ (by omega)).1, ha _ (by omega) (by omega) (by omega) (by omega)]; exact this.2.2.2
  · rw [ha _ (by omega) (by omega) (by omega) (by omega)]; exact u1
  · rw [ha _ (by omega) (by omega) (by omega) (by omega)]; exact u2
  · rw [kn0 k hkn, ha (14 + 56 * c + 4 * k) (by omega) (by omega) (by omega) (by omega)]
    refine ⟨(u3 k hkn).1, ?_⟩
    by_cases e : k = k0
    · subst e; exact w3
    · rw [ha (15 + 56 * c + 4 * k) (by omega) (by omega) (by omega) (by omega)]; exact (u3 k hkn).2
/-- cell k0 is gone, those behind it have moved up -/
theorem q_cs_del {kb nk n v c k0 : Nat} {S S' : m_S} {p a a' : Nat → Int32} (h1 : q_vit kb nk n S v p a c) (h2 : q_wv p a n c) (hk0 : k0 < n) (hS : q_ag (fun y k => y = v ∧ k ≠ 5) S S') (h5 : S'.1 v 5 = Int32.ofNat (n - 1)) (hcell : ∀ i, i < n - 1 → (∀ k, k < 4 → k ≠ 1 → S'.1 (v + 2 + i) k = S.1 (v + 2 + (if i < k0 then i else i + 1)) k) ∧ S'.2.2 (v + 2 + i) 1 = S.2.2 (v + 2 + (if i < k0 then i else i + 1)) 1) (ha : ∀ k, 4 + 56 * c ≤ k → k < 8 + 56 * c → a' k = a k) (a8 : a' (8 + 56 * c) = Int32.ofNat (n - 1)) (hac : ∀ i w, i < n - 1 → w < 4 → a' (12 + 56 * c + 4 * i + w) = a (12 + 56 * c + 4 * (if i < k0 then i else i + 1) + w)) : q_vit kb nk (n - 1) S' v p a' c ∧ q_wv p a' (n - 1) c := by
  obtain ⟨v0, v1, v2, v3, v4, v5, v6, v7⟩ := h1
  obtain ⟨u0, u1, u2, n6, u3⟩ := h2
  have idx : ∀ i, i < n - 1 → (if i < k0 then i else i + 1) < n := fun i hi => by split <;> omega
  have kn0 : ∀ i, i < n - 1 → q_kn a' (12 + 56 * c + 4 * i) = q_kn a (12 + 56 * c + 4 * (if i < k0 then i else i + 1)) := fun i hi => by unfold q_kn; rw [hac i 1 hi (by omega)]
  refine ⟨⟨?_, ?_, ?_, ?_, ?_, h5, a8, fun i hi => ?_⟩, u0, ?_, ?_, by omega, fun i hi => ?_⟩
  · rw [(hS _ _ ⟨rfl, by omega⟩).1]; exact v0
  · rw [(hS _ _ ⟨rfl, by omega⟩).1, ha _ (by omega) (by omega)]; exact v1
  · rw [(hS _ _ ⟨rfl, by omega⟩).1, ha _ (by omega) (by omega)]; exact v2
  · rw [(hS _ _ ⟨rfl, by omega⟩).1, ha _ (by omega) (by omega)]; exact v3
  · rw [(hS _ _ ⟨rfl, by omega⟩).1, ha _ (by omega) (by omega)]; exact v4
  · have := v7 _ (idx i hi)
    obtain ⟨x1, x2⟩ := hcell i hi
    have a0 := hac i 0 hi (by omega)
    rw [Nat.add_zero, Nat.add_zero] at a0
    refine ⟨?_, ⟨?_, ?_, ?_⟩, ?_, ?_⟩
    · rw [x1 0 (by omega) (by omega), a0]; exact this.1
    · rw [kn0 i hi]; exact this.2.1.1
    · rw [kn0 i hi, hac i 1 hi (by omega)]; exact this.2.1.2.1
    · rw [kn0 i hi, x2]; exact this.2.1.2.2
    · rw [x1 2 (by omega) (by omega), hac i 2 hi (by omega)]; exact this.2.2.1
    · rw [x1 3 (by omega) (by omega), hac i 3 hi (by omega)]; exact this.2.2.2
  · rw [ha _ (by omega) (by omega)]; exact u1
  · rw [ha _ (by omega) (by omega)]; exact u2
  · have := u3 _ (idx i hi)
    rw [kn0 i hi, show 14 + 56 * c + 4 * i = 12 + 56 * c + 4 * i + 2 by omega, show 15 + 56 * c + 4 * i = 12 + 56 * c + 4 * i + 3 by omega, hac i 2 hi (by omega), hac i 3 hi (by omega)]
    rw [show 14 + 56 * c + 4 * (if i < k0 then i else i + 1) = 12 + 56 * c + 4 * (if i < k0 then i else i + 1) + 2 by omega, show 15 + 56 * c + 4 * (if i < k0 then i else i + 1) = 12 + 56 * c + 4 * (if i < k0 then i else i + 1) + 3 by omega] at this
    exact this
/-- serial numbers -/
theorem q_ser_map {a a' : Nat → Int32} {nc N N' : Nat} {cnt cnt' : Nat → Nat} (h : q_ser a nc cnt N) (hN : N ≤ N') (h3 : a' 3 = a 3) (f g : Nat → Nat → Nat) (hf : ∀ c k, c < nc → k < cnt' c → f c k < nc ∧ g c k < cnt (f c k) ∧ a' (12 + 56 * c + 4 * k) = a (12 + 56 * f c k + 4 * g c k)) (inj : ∀ c k c' k', c < nc → k < cnt' c → c' < nc → k' < cnt' c' → f c k = f c' k' → g c k = g c' k' → c = c' ∧ k = k') : q_ser a' nc cnt' N' := by
  obtain ⟨q, q1, q2, q3, q4⟩ := h
  refine ⟨q, by omega, by rw [h3]; exact q2, fun c k hc hk => ?_, fun c k c' k' hc hk hc' hk' e => ?_⟩
  · obtain ⟨f1, f2, f3⟩ := hf c k hc hk
    rw [f3]; exact q3 _ _ f1 f2
  · obtain ⟨f1, f2, f3⟩ := hf c k hc hk
    obtain ⟨f1', f2', f3'⟩ := hf c' k' hc' hk'
    rw [f3, f3'] at e
    obtain ⟨e1, e2⟩ := q4 _ _ _ _ f1 f2 f1' f2' e
    exact inj c k c' k' hc hk hc' hk' e1 e2
theorem q_ser_new {a a' : Nat → Int32} {nc N c0 k0 : Nat} {cnt cnt' : Nat → Nat} (h : q_ser a nc cnt N) (hN : N < 2147483647) (h3 : a' 3 = a 3 + 1) (h0 : a' (12 + 56 * c0 + 4 * k0) = a 3) (hf : ∀ c k, c < nc → k < cnt' c → ¬ (c = c0 ∧ k = k0) → k < cnt c ∧ a' (12 + 56 * c + 4 * k) = a (12 + 56 * c + 4 * k)) : q_ser a' nc cnt' (N + 1) := by
  obtain ⟨q, q1, q2, q3, q4⟩ := h
  have ne : ∀ s, s < q → Int32.ofNat s ≠ Int32.ofNat q := fun s hs e => by
    have := t_eq.mp e
    rw [t_ofNat (by omega), t_ofNat (by omega)] at this; omega
  refine ⟨q + 1, by omega, by rw [h3, q2, io_one], fun c k hc hk => ?_, fun c k c' k' hc hk hc' hk' e => ?_⟩
  · by_cases e : c = c0 ∧ k = k0
    · rw [e.1, e.2, h0, q2]; exact ⟨q, by omega, rfl⟩
    · obtain ⟨f1, f2⟩ := hf c k hc hk e
      obtain ⟨s, s1, s2⟩ := q3 c k hc f1
      exact ⟨s, by omega, by rw [f2]; exact s2⟩
  · by_cases e1 : c = c0 ∧ k = k0
    · by_cases e2 : c' = c0 ∧ k' = k0
      · omega
      · obtain ⟨f1, f2⟩ := hf c' k' hc' hk' e2
        obtain ⟨s, s1, s2⟩ := q3 c' k' hc' f1
        rw [e1.1, e1.2, h0, q2, f2, s2] at e
        exact absurd e.symm (ne s s1)
    · obtain ⟨f1, f2⟩ := hf c k hc hk e1
      by_cases e2 : c' = c0 ∧ k' = k0
      · obtain ⟨s, s1, s2⟩ := q3 c k hc f1
        rw [e2.1, e2.2, h0, q2, f2, s2] at e
        exact absurd e (ne s s1)
      · obtain ⟨f1', f2'⟩ := hf c' k' hc' hk' e2
        rw [f2, f2'] at e
        exact q4 c k c' k' hc f1 hc' f1' e
