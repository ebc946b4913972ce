/-! THE ONE RELATION of class (state S, cells x .. x + 340) and reference (state T, cells m .. m + 13, m = x + 341) -/
def q_ZL (Z : m_Z) (x : Nat) : Prop := ∀ j, j < 355 → m_okn Z (x + j) (q_k j) (q_n j)
theorem q_ZL.g {Z : m_Z} {x j c N : Nat} (h : q_ZL Z x) (e : (decide (j < 355) && decide (q_k j = c) && decide (q_n j = N)) = true) : m_okn Z (x + j) c N := by
  simp only [Bool.and_eq_true, decide_eq_true_eq] at e
  have := h j e.1.1
  rw [e.1.2, e.2] at this
  exact this
def q_RS (R : Nat → Nat → Option Nat) (x lo hi : Nat) : Prop := ∀ q ∈ q_rt, lo ≤ q.1 → q.1 < hi → ¬ (q.1 = 0 ∧ (q.2.1 = 1 ∨ q.2.1 = 2)) → R (x + q.1) q.2.1 = some (x + q.2.2)
theorem q_RS.g {R : Nat → Nat → Option Nat} {x lo hi a k v : Nat} (h : q_RS R x lo hi) (e : ((a, k, v) ∈ q_rt ∧ lo ≤ a ∧ a < hi) ∧ ¬ (a = 0 ∧ (k = 1 ∨ k = 2))) : R (x + a) k = some (x + v) := h (a, k, v) e.1.1 e.1.2.1 e.1.2.2 e.2
theorem q_M_of {Z : m_Z} {R : Nat → Nat → Option Nat} {x m : Nat} (hm : m = x + 341) (hZ : q_ZL Z x) (hR : q_RS R x 341 355) : q_M Z R m := by
  subst hm
  exact ⟨(hZ.g (j := 341) (N := 0) (by decide +kernel)).1, ⟨hR.g (a := 341) (v := 342) (by decide +kernel), hZ.g (j := 342) (by decide +kernel)⟩, ⟨hR.g (a := 341) (v := 343) (by decide +kernel), hZ.g (j := 343) (by decide +kernel)⟩, ⟨hR.g (a := 341) (v := 344) (by decide +kernel), hZ.g (j := 344) (by decide +kernel)⟩, ⟨hR.g (a := 341) (v := 345) (by decide +kernel), hZ.g (j := 345) (by decide +kernel)⟩, ⟨hR.g (a := 341) (v := 346) (by decide +kernel), hZ.g (j := 346) (by decide +kernel)⟩, ⟨hR.g (a := 341) (v := 347) (by decide +kernel), hZ.g (j := 347) (by decide +kernel)⟩, ⟨hR.g (a := 341) (v := 348) (by decide +kernel), hZ.g (j := 348) (by decide +kernel)⟩, ⟨hR.g (a := 341) (v := 349) (by decide +kernel), hZ.g (j := 349) (by decide +kernel)⟩, ⟨hR.g (a := 341) (v := 350) (by decide +kernel), hZ.g (j := 350) (by decide +kernel)⟩, ⟨hR.g (a := 341) (v := 351) (by decide +kernel), hZ.g (j := 351) (by decide +kernel)⟩, ⟨hR.g (a := 341) (v := 352) (by decide +kernel), hZ.g (j := 352) (by decide +kernel)⟩, ⟨hR.g (a := 341) (v := 353) (by decide +kernel), hZ.g (j := 353) (by decide +kernel)⟩, hR.g (a := 341) (v := 354) (by decide +kernel), hZ.g (j := 354) (by decide +kernel)⟩
def q_vb (v : Nat) : Bool := decide (v + 8 ≤ 341) && decide (0 < v) && decide (q_k v = 7) && decide ((v, 6, v + 1) ∈ q_rt) && decide (q_k (v + 1) = 14) && decide (q_n (v + 1) = 6) && (List.range 6).all (fun k => decide ((v + 1, k, v + 2 + k) ∈ q_rt) && decide (q_k (v + 2 + k) = 0))
theorem q_V_of {Z : m_Z} {R : Nat → Nat → Option Nat} {x v : Nat} (hZ : q_ZL Z x) (hR : q_RS R x 0 341) (e : q_vb v = true) : q_V Z R (x + v) := by
  unfold q_vb at e
  simp only [Bool.and_eq_true, decide_eq_true_eq, List.all_eq_true, List.mem_range] at e
  obtain ⟨⟨⟨⟨⟨⟨e1, e0⟩, e2⟩, e3⟩, e4⟩, e5⟩, e6⟩ := e
  refine ⟨?_, ⟨hR.g (a := v) (v := v + 1) ⟨⟨e3, by omega, by omega⟩, by omega⟩, ?_⟩, fun k hk => ⟨?_, ?_⟩⟩
  · have := (hZ v (by omega)).1; rw [e2] at this; exact this
  · have := hZ (v + 1) (by omega); rw [e4, e5] at this; exact this
  · rw [show x + v + 2 + k = x + (v + 2 + k) by omega]
    exact hR.g (a := v + 1) (v := v + 2 + k) ⟨⟨(e6 k hk).1, by omega, by omega⟩, by omega⟩
  · rw [show x + v + 2 + k = x + (v + 2 + k) by omega]
    have := (hZ (v + 2 + k) (by omega)).1; rw [(e6 k hk).2] at this; exact this
def q_sb (s : Nat) : Bool := decide (q_k s = 6) && decide ((s, 0, s + 1) ∈ q_rt) && decide (q_k (s + 1) = 4) && decide ((s, 3, s + 2) ∈ q_rt) && decide (q_k (s + 2) = 18) && decide (q_n (s + 2) = 6) && decide ((s, 4, s + 3) ∈ q_rt) && decide (q_k (s + 3) = 16) && decide (q_n (s + 3) = 6)
def q_sc (s i : Nat) : Bool := decide ((s + 2, i, s + 4 + 10 * i) ∈ q_rt) && decide ((s + 3, i, s + 4 + 10 * i + 8) ∈ q_rt) && q_vb (s + 4 + 10 * i) && decide (q_k (s + 4 + 10 * i + 8) = 2) && decide ((s + 4 + 10 * i + 8, 8, s + 4 + 10 * i + 9) ∈ q_rt) && decide (q_k (s + 4 + 10 * i + 9) = 11) && decide (q_n (s + 4 + 10 * i + 9) = 24)
theorem q_sbc : (q_sb 137 && q_sb 213 && q_sb 277) = true ∧ ((List.range 6).all (fun i => q_sc 137 i && q_sc 213 i && q_sc 277 i)) = true := by
  constructor
  · decide +kernel
  · decide +kernel
theorem q_St_of {Z : m_Z} {R : Nat → Nat → Option Nat} {x s : Nat} (hZ : q_ZL Z x) (hR : q_RS R x 0 341) (hs : s = 137 ∨ s = 213 ∨ s = 277) : q_St Z R (x + s) := by
  have k1 : q_sb s = true := by
    have := q_sbc.1
    simp only [Bool.and_eq_true] at this
    rcases hs with rfl | rfl | rfl
    · exact this.1.1
    · exact this.1.2
    · exact this.2
  have k2 : ∀ i, i < 6 → q_sc s i = true := by
    intro i hi
    have := List.all_eq_true.mp q_sbc.2 i (List.mem_range.mpr hi)
    simp only [Bool.and_eq_true] at this
    rcases hs with rfl | rfl | rfl
    · exact this.1.1
    · exact this.1.2
    · exact this.2
  have k3 : ∀ i, i < 6 → (s + 2, i, s + 4 + 10 * i) ∈ q_rt ∧ (s + 3, i, s + 4 + 10 * i + 8) ∈ q_rt ∧ q_vb (s + 4 + 10 * i) = true ∧ q_k (s + 4 + 10 * i + 8) = 2 ∧ (s + 4 + 10 * i + 8, 8, s + 4 + 10 * i + 9) ∈ q_rt ∧ q_k (s + 4 + 10 * i + 9) = 11 ∧ q_n (s + 4 + 10 * i + 9) = 24 := by
    intro i hi
    have := k2 i hi
    unfold q_sc at this
    simp only [Bool.and_eq_true, decide_eq_true_eq] at this
    obtain ⟨⟨⟨⟨⟨⟨y1, y2⟩, y3⟩, y4⟩, y5⟩, y6⟩, y7⟩ := this
    exact ⟨y1, y2, y3, y4, y5, y6, y7⟩
  unfold q_sb at k1
  simp only [Bool.and_eq_true, decide_eq_true_eq] at k1
  obtain ⟨⟨⟨⟨⟨⟨⟨⟨a1, a2⟩, a3⟩, a4⟩, a5⟩, a6⟩, a7⟩, a8⟩, a9⟩ := k1
  have h := k3
  have hlt : s ≤ 277 ∧ 0 < s := by omega
  refine ⟨?_, ⟨hR.g (a := s) (v := s + 1) ⟨⟨a2, by omega, by omega⟩, by omega⟩, ?_⟩, ⟨hR.g (a := s) (v := s + 2) ⟨⟨a4, by omega, by omega⟩, by omega⟩, ?_⟩, ⟨hR.g (a := s) (v := s + 3) ⟨⟨a7, by omega, by omega⟩, by omega⟩, ?_⟩, fun i hi => ⟨?_, ?_, ?_, ?_, ?_, ?_⟩⟩
  · have := (hZ s (by omega)).1; rw [a1] at this; exact this
  · have := (hZ (s + 1) (by omega)).1; rw [a3] at this; exact this
  · have := hZ (s + 2) (by omega); rw [a5, a6] at this; exact this
  · have := hZ (s + 3) (by omega); rw [a8, a9] at this; exact this
  · have := hR.g (a := s + 2) (k := i) (v := s + 4 + 10 * i) ⟨⟨(h i hi).1, by omega, by omega⟩, by omega⟩
    rw [show x + s + 4 + 10 * i = x + (s + 4 + 10 * i) by omega]; exact this
  · have := hR.g (a := s + 3) (k := i) (v := s + 4 + 10 * i + 8) ⟨⟨(h i hi).2.1, by omega, by omega⟩, by omega⟩
    rw [show x + s + 4 + 10 * i + 8 = x + (s + 4 + 10 * i + 8) by omega]; exact this
  · rw [show x + s + 4 + 10 * i = x + (s + 4 + 10 * i) by omega]
    exact q_V_of hZ hR (h i hi).2.2.1
  · have := (hZ (s + 4 + 10 * i + 8) (by omega)).1; rw [(h i hi).2.2.2.1] at this
    rw [show x + s + 4 + 10 * i + 8 = x + (s + 4 + 10 * i + 8) by omega]; exact this
  · have := hR.g (a := s + 4 + 10 * i + 8) (k := 8) (v := s + 4 + 10 * i + 9) ⟨⟨(h i hi).2.2.2.2.1, by omega, by omega⟩, by omega⟩
    rw [show x + s + 4 + 10 * i + 8 = x + (s + 4 + 10 * i + 8) by omega]; exact this
  · have := hZ (s + 4 + 10 * i + 9) (by omega); rw [(h i hi).2.2.2.2.2.1, (h i hi).2.2.2.2.2.2] at this
    rw [show x + s + 4 + 10 * i + 8 + 1 = x + (s + 4 + 10 * i + 9) by omega]; exact this
/-- a case, elsewhere -/
theorem q_vit_cp {kb nk n v v' c : Nat} {S S' : m_S} {p a a' : Nat → Int32} (h : q_vit kb nk n S v p a c) (hv : ∀ k, k < 6 → S'.1 v' k = S.1 v k) (hk : ∀ i, i < n → (∀ k, k < 4 → k ≠ 1 → S'.1 (v' + 2 + i) k = S.1 (v + 2 + i) k) ∧ S'.2.2 (v' + 2 + i) 1 = S.2.2 (v + 2 + i) 1) (ha : ∀ k, 4 + 56 * c ≤ k → k < 12 + 56 * c + 4 * n → a' k = a k) : q_vit kb nk n S' v' p a' c := by
  obtain ⟨v0, v1, v2, v3, v4, v5, v6, v7⟩ := h
  have kn0 : ∀ k, k < n → q_kn a' (12 + 56 * c + 4 * k) = q_kn a (12 + 56 * c + 4 * k) := fun k hk => by unfold q_kn; rw [ha _ (by omega) (by omega)]
  refine ⟨?_, ?_, ?_, ?_, ?_, ?_, ?_, fun k hkn => ⟨?_, ⟨?_, ?_, ?_⟩, ?_, ?_⟩⟩
  · rw [hv _ (by omega)]; exact v0
  · rw [hv _ (by omega), ha _ (by omega) (by omega)]; exact v1
  · rw [hv _ (by omega), ha _ (by omega) (by omega)]; exact v2
  · rw [hv _ (by omega), ha _ (by omega) (by omega)]; exact v3
  · rw [hv _ (by omega), ha _ (by omega) (by omega)]; exact v4
  · rw [hv _ (by omega)]; exact v5
  · rw [ha _ (by omega) (by omega)]; exact v6
  · rw [(hk k hkn).1 _ (by omega) (by omega), ha _ (by omega) (by omega)]; exact (v7 k hkn).1
  · rw [kn0 k hkn]; exact (v7 k hkn).2.1.1
  · rw [kn0 k hkn, ha _ (by omega) (by omega)]; exact (v7 k hkn).2.1.2.1
  · rw [kn0 k hkn, (hk k hkn).2]; exact (v7 k hkn).2.1.2.2
  · rw [(hk k hkn).1 _ (by omega) (by omega), ha _ (by omega) (by omega)]; exact (v7 k hkn).2.2.1
  · rw [(hk k hkn).1 _ (by omega) (by omega), ha _ (by omega) (by omega)]; exact (v7 k hkn).2.2.2
theorem q_log_cp {l l' c t : Nat} {S S' : m_S} {a a' : Nat → Int32} {b b' : Nat → Int64} (h : q_log S l a b c t) (hJ : ∀ k, k < 8 → S'.2.1 l' k = S.2.1 l k) (hI : ∀ k, k < 7 → S'.1 l' k = S.1 l k) (hr : ∀ j, j < 24 → S'.1 (l' + 1) j = S.1 (l + 1) j) (ha : ∀ k, 9 + 56 * c ≤ k → k < 12 + 56 * c ∨ 36 + 56 * c ≤ k → k < 60 + 56 * c → a' k = a k) (hb : ∀ k, 5 * c ≤ k → k < 5 * c + 5 → b' k = b k) : q_log S' l' a' b' c t := by
  obtain ⟨⟨l0, l1, l2, l3, l7⟩, l4, l5, l6, lr⟩ := h
  refine ⟨⟨?_, ?_, ?_, ?_, ?_⟩, ?_, ?_, ?_, fun j j1 j2 => ?_⟩
  · rw [hJ _ (by omega), hb _ (by omega) (by omega)]; exact l0
  · rw [hJ _ (by omega), hb _ (by omega) (by omega)]; exact l1
  · rw [hJ _ (by omega), hb _ (by omega) (by omega)]; exact l2
  · rw [hJ _ (by omega), hb _ (by omega) (by omega)]; exact l3
  · rw [hJ _ (by omega), hb _ (by omega) (by omega)]; exact l7
  · rw [hI _ (by omega), ha _ (by omega) (by omega) (by omega)]; exact l4
  · rw [hI _ (by omega), ha _ (by omega) (by omega) (by omega)]; exact l5
  · rw [hI _ (by omega), ha _ (by omega) (by omega) (by omega)]; exact l6
  · rw [hr _ (by omega), ha _ (by omega) (by omega) (by omega)]; exact lr j j1 j2
/-- two pictures agree where P says -/
def q_ag (P : Nat → Nat → Prop) (S S' : m_S) : Prop := ∀ b k, P b k → S'.1 b k = S.1 b k ∧ S'.2.1 b k = S.2.1 b k ∧ S'.2.2 b k = S.2.2 b k
theorem q_cs_ag {kb nk n v c t : Nat} {S S' : m_S} {p a a' : Nat → Int32} {b b' : Nat → Int64} (h : q_cs kb nk n S v p a b c t) (hS : q_ag (fun y _ => v ≤ y ∧ y < v + 10) S S') (ha : ∀ k, 4 + 56 * c ≤ k → k < 60 + 56 * c → a' k = a k) (hb : ∀ k, 5 * c ≤ k → k < 5 * c + 5 → b' k = b k) : q_cs kb nk n S' v p a' b' c t :=
  ⟨q_vit_cp h.1 (fun k hk => (hS v k ⟨by omega, by omega⟩).1) (fun i hi => ⟨fun k hk _ => (hS _ _ ⟨by omega, by have := h.2.1.2.2.2.1; omega⟩).1, (hS _ _ ⟨by omega, by have := h.2.1.2.2.2.1; omega⟩).2.2⟩) (fun k k1 k2 => ha k k1 (by have := h.2.1.2.2.2.1; omega)), q_wv_fr h.2.1 (fun k k1 k2 => ha k k1 (by omega)), q_log_cp h.2.2 (fun k _ => (hS _ _ ⟨by omega, by omega⟩).2.1) (fun k _ => (hS _ _ ⟨by omega, by omega⟩).1) (fun k _ => (hS _ _ ⟨by omega, by omega⟩).1) (fun k k1 k2 k3 => ha k (by omega) (by omega)) hb⟩
/-- the serial numbers of row a: below the next one, all different -/
def q_ser (a : Nat → Int32) (nc : Nat) (cnt : Nat → Nat) (N : Nat) : Prop := ∃ q, q ≤ N ∧ a 3 = Int32.ofNat q ∧ (∀ c k, c < nc → k < cnt c → ∃ s, s < q ∧ a (12 + 56 * c + 4 * k) = Int32.ofNat s) ∧ ∀ c k c' k', c < nc → k < cnt c → c' < nc → k' < cnt c' → a (12 + 56 * c + 4 * k) = a (12 + 56 * c' + 4 * k') → c = c' ∧ k = k'
/-- a whole state at sb, as rows a and b tell it -/
def q_sta (kb nk nc N : Nat) (S : m_S) (sb : Nat) (p a : Nat → Int32) (b : Nat → Int64) : Prop := ∃ (cnt : Nat → Nat) (t : Nat), t ≤ 99999 ∧ (∀ c, c < nc → cnt c ≤ 5) ∧ (0 ≤ (a 2).toInt ∧ (a 2).toInt ≤ 5000) ∧ q_ser a nc cnt N ∧ q_state kb nk nc cnt S sb p a b t
theorem q_state_ag {kb nk nc sb t : Nat} {cnt : Nat → Nat} {S S' : m_S} {p a a' : Nat → Int32} {b b' : Nat → Int64} (h : q_state kb nk nc cnt S sb p a b t) (nc6 : nc ≤ 6) (hS : q_ag (fun y _ => sb ≤ y ∧ y < sb + 64) S S') (ha : ∀ k, k < 340 → a' k = a k) (hb : ∀ k, k < 30 → b' k = b k) : q_state kb nk nc cnt S' sb p a' b' t := by
  obtain ⟨⟨y0, y0'⟩, y1, y2, y3, y4, y5⟩ := h
  refine ⟨⟨?_, ?_⟩, ?_, ?_, ?_, ?_, fun c hc => ?_⟩
  · rw [(hS _ _ ⟨by omega, by omega⟩).1]; exact y0
  · rw [ha _ (by omega)]; exact y0'
  · rw [(hS _ _ ⟨by omega, by omega⟩).1, ha _ (by omega)]; exact y1
  · rw [(hS _ _ ⟨by omega, by omega⟩).1, ha _ (by omega)]; exact y2
  · rw [(hS _ _ ⟨by omega, by omega⟩).1, ha _ (by omega)]; exact y3
  · rw [(hS _ _ ⟨by omega, by omega⟩).1]; exact y4
  · exact q_cs_ag (y5 c hc) (fun y k hy => hS y k ⟨by omega, by omega⟩) (fun k k1 k2 => ha k (by omega)) (fun k k1 k2 => hb k (by omega))
theorem q_ser_ag {a a' : Nat → Int32} {nc N N' : Nat} {cnt : Nat → Nat} (h : q_ser a nc cnt N) (nc6 : nc ≤ 6) (h5 : ∀ c, c < nc → cnt c ≤ 5) (ha : ∀ k, k < 340 → a' k = a k) (hN : N ≤ N') : q_ser a' nc cnt N' := by
  obtain ⟨q, q1, q2, q3, q4⟩ := h
  refine ⟨q, by omega, by rw [ha _ (by omega)]; exact q2, fun c k hc hk => ?_, fun c k c' k' hc hk hc' hk' e => ?_⟩
  · have := h5 c hc
    rw [ha _ (by omega)]; exact q3 c k hc hk
  · have := h5 c hc
    have := h5 c' hc'
    rw [ha _ (by omega), ha _ (by omega)] at e
    exact q4 c k c' k' hc hk hc' hk' e
theorem q_sta_ag {kb nk nc N N' sb : Nat} {S S' : m_S} {p a a' : Nat → Int32} {b b' : Nat → Int64} (h : q_sta kb nk nc N S sb p a b) (nc6 : nc ≤ 6) (hS : q_ag (fun y _ => sb ≤ y ∧ y < sb + 64) S S') (ha : ∀ k, k < 340 → a' k = a k) (hb : ∀ k, k < 30 → b' k = b k) (hN : N ≤ N') : q_sta kb nk nc N' S' sb p a' b' := by
  obtain ⟨cnt, t, h1, h2, hg, h3, h4⟩ := h
  exact ⟨cnt, t, h1, h2, by rw [ha _ (by omega)]; exact hg, q_ser_ag h3 nc6 h2 ha hN, q_state_ag h4 nc6 hS ha hb⟩
theorem q_set9_ag {Z : m_Z} {pb ns nk nc : Nat} {S S' : m_S} {p p' : Nat → Int32} (h : q_set9 Z pb ns nk nc S p) (hS : q_ag (fun y _ => pb ≤ y ∧ y < pb + 4) S S') (hp : ∀ k, k < 116 → p' k = p k) : q_set9 Z pb ns nk nc S' p' := by
  obtain ⟨h1, ⟨x0, x1, x2, x3, x4, x5, x6, x7⟩, h3, h4, h5, h6, h7⟩ := h
  have n12 := h5.1
  have hd : ∀ i, i < ns → q_d p' i = q_d p i ∧ q_s p' i = q_s p i := fun i hi => ⟨hp _ (by omega), hp _ (by omega)⟩
  refine ⟨?_, ⟨?_, ?_, ?_, ?_, ?_, ?_, ?_, ?_⟩, fun i hi => ⟨?_, ?_⟩, fun i hi => ?_, q_ws_congr hd h5, h6, h7⟩
  · rw [(hS pb 3 ⟨by omega, by omega⟩).2.2, (hS pb 4 ⟨by omega, by omega⟩).2.2, (hS pb 5 ⟨by omega, by omega⟩).2.2]; exact h1
  · rw [(hS _ _ ⟨by omega, by omega⟩).1, hp _ (by omega)]; exact x0
  · rw [(hS _ _ ⟨by omega, by omega⟩).1, hp _ (by omega)]; exact x1
  · rw [(hS _ _ ⟨by omega, by omega⟩).1]; exact x2
  · rw [hp _ (by omega)]; exact x3
  · rw [(hS _ _ ⟨by omega, by omega⟩).1]; exact x4
  · rw [hp _ (by omega)]; exact x5
  · rw [(hS _ _ ⟨by omega, by omega⟩).1]; exact x6
  · rw [hp _ (by omega)]; exact x7
  · rw [(hS _ _ ⟨by omega, by omega⟩).1, (hd i hi).1]; exact (h3 i hi).1
  · rw [(hS _ _ ⟨by omega, by omega⟩).1, (hd i hi).2]; exact (h3 i hi).2
  · rw [(hS _ _ ⟨by omega, by omega⟩).1, hp _ (by omega)]; exact h4 i hi
theorem q_Ks_ag {Z : m_Z} {kb nk : Nat} {S S' : m_S} {p : Nat → Int32} (h : q_Ks Z kb nk S p) (hS : q_ag (fun y _ => kb ≤ y ∧ y < kb + 12) S S') : q_Ks Z kb nk S' p := by
  refine ⟨h.1, fun k hk => ?_⟩
  obtain ⟨a1, a2, a3⟩ := h.2 k hk
  have nk4 := h.1
  have e : ∀ y j, y < 3 → S'.1 (kb + 3 * k + y) j = S.1 (kb + 3 * k + y) j := fun y j hy => (hS _ _ ⟨by omega, by omega⟩).1
  have eR : ∀ j, S'.2.2 (kb + 3 * k) j = S.2.2 (kb + 3 * k) j := fun j => (hS _ _ ⟨by omega, by omega⟩).2.2
  refine ⟨⟨a1.1, by rw [eR]; exact a1.2.1, by rw [eR]; exact a1.2.2⟩, ⟨?_, ?_, ?_, fun j hj => ⟨?_, ?_⟩⟩, a3⟩
  · exact (e 0 0 (by omega)).trans a2.1
  · exact (e 0 1 (by omega)).trans a2.2.1
  · exact (e 0 2 (by omega)).trans a2.2.2.1
  · rw [e 1 j (by omega)]; exact (a2.2.2.2 j hj).1
  · rw [e 2 j (by omega)]; exact (a2.2.2.2 j hj).2
