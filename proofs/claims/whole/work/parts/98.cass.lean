section CASSA
variable {Z : m_Z} {x m pd n st ns nv nk nc nq i k : Nat} {B : Nat → Int32} {S0 T0 S T : m_S}
theorem m_jp_c2 {α β γ : Type} {k : α → β → γ} {b : (α → β → γ) → γ} {d : α} {e : β} (h : ∀ j : α → β → γ, b j = j d e) : m_jp k b = k d e := h k
def q_cu (cnt : Nat → Nat) : Nat → Nat
  | 0 => 0
  | n + 1 => q_cu cnt n + cnt n
theorem q_cu_le {cnt : Nat → Nat} : ∀ n, (∀ c, c < n → cnt c ≤ 5) → q_cu cnt n ≤ 5 * n := by
  intro n
  induction n with
  | zero => intro _; exact Nat.le_refl _
  | succ n ih =>
    intro h
    have h1 := ih (fun c hc => h c (by omega))
    have h2 := h n (by omega)
    show q_cu cnt n + cnt n ≤ 5 * (n + 1)
    omega
theorem q_cu_0 : ∀ n, q_cu (fun _ => 0) n = 0 := by
  intro n
  induction n with
  | zero => rfl
  | succ n ih => show q_cu (fun _ => 0) n + 0 = 0; rw [ih]
def q_up (cnt : Nat → Nat) (i : Nat) : Nat → Nat := fun c => if c = i then cnt i + 1 else cnt c
theorem q_up_s (cnt : Nat → Nat) (i : Nat) : q_up cnt i i = cnt i + 1 := if_pos rfl
theorem q_up_n {cnt : Nat → Nat} {i c : Nat} (h : ¬ c = i) : q_up cnt i c = cnt c := if_neg h
theorem q_cu_up {cnt : Nat → Nat} {i : Nat} : ∀ n, (n ≤ i → q_cu (q_up cnt i) n = q_cu cnt n) ∧ (i < n → q_cu (q_up cnt i) n = q_cu cnt n + 1) := by
  intro n
  induction n with
  | zero => exact ⟨fun _ => rfl, fun h => absurd h (Nat.not_lt_zero _)⟩
  | succ n ih =>
    refine ⟨fun h => ?_, fun h => ?_⟩
    · show q_cu (q_up cnt i) n + q_up cnt i n = q_cu cnt n + cnt n
      rw [ih.1 (by omega), q_up_n (by omega)]
    · show q_cu (q_up cnt i) n + q_up cnt i n = q_cu cnt n + cnt n + 1
      by_cases q : n = i
      · rw [ih.1 (by omega), q, q_up_s]; omega
      · rw [ih.2 (by omega), q_up_n q]; omega
theorem q_row_cg {p a a' : Nat → Int32} {c : Nat} (h : ∀ j, 4 + 56 * c ≤ j → j < 36 + 56 * c → a' j = a j) : ∀ k, 4 + 56 * c ≤ k → k < 36 + 56 * c → q_row p a' k = q_row p a k := by
  intro k h1 h2
  unfold q_row
  by_cases hk : 15 + 56 * c ≤ k
  · have e : (k - 15) / 56 = c := by omega
    unfold q_kn
    rw [e, h (8 + 56 * c) (by omega) (by omega), h (k - 3 + 1) (by omega) (by omega), h (k - 1) (by omega) (by omega), h k h1 h2]
  · rw [if_neg (by omega), if_neg (by omega)]; exact h k h1 h2
theorem q_row_x {p a : Nat → Int32} {j : Nat} (h : j % 4 ≠ 3) : q_row p a j = a j := if_neg (fun z => by
  have z1 := z.1
  have z2 := z.2.2.1
  omega)
/-- one more cassette in case i of the draft -/
theorem q_D_put {cnt : Nat → Nat} {S' T' : m_S} {mass hum : Int32} (hm : m = x + 341) (hpd : pd = x + 5 ∨ pd = x + 71) (hD : q_D Z x m pd ns nv nk nc cnt nq S T) (hi : i < nc) (hk : k < nk) (hc5 : cnt i < 5) (hnq : nq ≤ 30)
  (aS : q_ag (fun b j => ¬ (b = x + 1 ∧ 4 ≤ j ∧ j ≤ 7) ∧ ¬ (b = pd + 18 + 8 * i + 2 + cnt i) ∧ ¬ (b = pd + 18 + 8 * i ∧ j = 5) ∧ ¬ (b = pd ∧ j = 10)) S S')
  (aT : q_ag (fun b j => ¬ (b = m ∧ ((14 ≤ j ∧ j ≤ 17) ∨ j = 20)) ∧ ¬ (b = m + 6 ∧ (j = 3 ∨ j = 8 + 56 * i ∨ (12 + 56 * i + 4 * cnt i ≤ j ∧ j < 16 + 56 * i + 4 * cnt i)))) T T')
  (s5 : S'.1 (pd + 18 + 8 * i) 5 = Int32.ofNat (cnt i + 1)) (s10 : S'.1 pd 10 = Int32.ofNat (nq + 1)) (c0 : S'.1 (pd + 18 + 8 * i + 2 + cnt i) 0 = Int32.ofNat nq) (c1 : S'.2.2 (pd + 18 + 8 * i + 2 + cnt i) 1 = some (pd + 6 + 3 * k)) (c2 : S'.1 (pd + 18 + 8 * i + 2 + cnt i) 2 = mass) (c3 : S'.1 (pd + 18 + 8 * i + 2 + cnt i) 3 = q_mp (T.1 (m + 2)) k mass hum)
  (t3 : T'.1 (m + 6) 3 = Int32.ofNat (nq + 1)) (t8 : T'.1 (m + 6) (8 + 56 * i) = Int32.ofNat (cnt i + 1)) (u0 : T'.1 (m + 6) (12 + 56 * i + 4 * cnt i) = Int32.ofNat nq) (u1 : T'.1 (m + 6) (12 + 56 * i + 4 * cnt i + 1) = Int32.ofNat k) (u2 : T'.1 (m + 6) (12 + 56 * i + 4 * cnt i + 2) = mass) (u3 : T'.1 (m + 6) (12 + 56 * i + 4 * cnt i + 3) = hum) (m1 : 1 ≤ mass.toInt) (m2 : mass.toInt ≤ 999) : q_D Z x m pd ns nv nk nc (q_up cnt i) (nq + 1) S' T' := by
  obtain ⟨hs9, hnv, hK, ⟨hq1, hq2, hq3⟩, ⟨hn1, hn2⟩, hcs, hz, hser⟩ := hD
  have hc6 : nc ≤ 6 := hs9.2.2.2.2.2.2
  have hk4 : nk ≤ 4 := hK.1
  have hp : T'.1 (m + 2) = T.1 (m + 2) := funext fun j => (aT _ _ (by omega)).1
  have sB : ∀ b j, b ≠ x + 1 → ¬ (b = pd + 18 + 8 * i + 2 + cnt i) → ¬ (b = pd + 18 + 8 * i ∧ j = 5) → ¬ (b = pd ∧ j = 10) → S'.1 b j = S.1 b j := fun b j h1 h2 h3 h4 => (aS _ _ (by omega)).1
  have sR : ∀ b j, b ≠ x + 1 → ¬ (b = pd + 18 + 8 * i + 2 + cnt i) → ¬ (b = pd + 18 + 8 * i ∧ j = 5) → ¬ (b = pd ∧ j = 10) → S'.2.2 b j = S.2.2 b j := fun b j h1 h2 h3 h4 => (aS _ _ (by omega)).2.2
  have tB : ∀ b j, b ≠ m → ¬ (b = m + 6 ∧ (j = 3 ∨ j = 8 + 56 * i ∨ (12 + 56 * i + 4 * cnt i ≤ j ∧ j < 16 + 56 * i + 4 * cnt i))) → T'.1 b j = T.1 b j := fun b j h1 h2 => (aT _ _ (by omega)).1
  have hR10 : S.2.2 pd 10 = S'.2.2 pd 10 ∨ True := Or.inr trivial
  refine ⟨?_, by rw [hp]; exact hnv, ?_, ⟨s10, t3, fun j hj => by rw [tB _ _ (by omega) (by omega)]; exact hq3 j hj⟩, ⟨q_nt_cg hn1 (fun j hj => (aS _ _ (by omega)).2.1) (fun j hj => (aT _ _ (by omega)).2.1), q_nt_cg hn2 (fun j hj => (aS _ _ (by omega)).2.1) (fun j hj => (aT _ _ (by omega)).2.1)⟩, fun c hc => ?_, fun c j h1 h2 h3 h4 => by rw [tB _ _ (by omega) (by omega)]; exact hz c j h1 h2 h3 h4, ?_⟩
  · obtain ⟨⟨o5, ⟨rd1, od1⟩, ⟨rd2, od2⟩, rd3, od3⟩, w, hds, hv, hws, h8, h9⟩ := hs9
    have n12 := hws.1
    rw [hp]
    refine ⟨⟨o5, ⟨by rw [sR _ _ (by omega) (by omega) (by omega) (by omega)]; exact rd1, od1⟩, ⟨by rw [sR _ _ (by omega) (by omega) (by omega) (by omega)]; exact rd2, od2⟩, by rw [sR _ _ (by omega) (by omega) (by omega) (by omega)]; exact rd3, od3⟩, ?_, fun j hj => ?_, fun j hj => ?_, hws, h8, h9⟩
    · rw [sB _ _ (by omega) (by omega) (by omega) (by omega), sB _ _ (by omega) (by omega) (by omega) (by omega), sB _ _ (by omega) (by omega) (by omega) (by omega), sB _ _ (by omega) (by omega) (by omega) (by omega), sB _ _ (by omega) (by omega) (by omega) (by omega)]; exact w
    · rw [sB _ _ (by omega) (by omega) (by omega) (by omega), sB _ _ (by omega) (by omega) (by omega) (by omega)]; exact hds j hj
    · rw [sB _ _ (by omega) (by omega) (by omega) (by omega)]; exact hv j hj
  · exact q_Ks_g hK (fun b j h1 h2 => sB b j (by omega) (by omega) (by omega) (by omega)) (fun b j h1 h2 => sR b j (by omega) (by omega) (by omega) (by omega)) (fun j _ _ => by rw [hp])
  · obtain ⟨d5, dv, dw, d9⟩ := hcs c hc
    rw [hp]
    by_cases q : c = i
    · subst q
      rw [q_up_s]
      refine ⟨by omega, ?_⟩
      have ap := q_cs_app (S' := S') (a' := q_row (T.1 (m + 2)) (T'.1 (m + 6))) (kk := k) dv dw (by omega) hk hk4 (fun b j hb => aS b j (by omega)) s5 (fun j h1 h2 h3 h4 => ?_) ?_ ?_ ?_ c1 ?_ ?_ ?_ ?_
      · exact ⟨ap.1, ap.2, by rw [tB _ _ (by omega) (by omega)]; exact d9⟩
      · unfold q_row
        by_cases hk : 15 + 56 * c ≤ j
        · have e : (j - 15) / 56 = c := by omega
          have e2 : (j - 15) % 56 = j - 15 - 56 * c := by omega
          have t8' : T.1 (m + 6) (8 + 56 * c) = Int32.ofNat (cnt c) := by
            have := dv.2.2.2.2.2.2.1
            rw [show 8 + 56 * c = 8 + 56 * c from rfl, q_row_lo _ _ (by omega) (by omega)] at this
            exact this
          rw [e, t8, t8', io_tn (by omega), io_tn (by omega)]
          by_cases q1 : (j - 15) % 4 = 0
          · have ne : ¬ (j - 15) % 56 / 4 = cnt c := by omega
            by_cases q2 : (j - 15) % 56 / 4 < cnt c
            · rw [if_pos ⟨by omega, by omega, q1, by omega⟩, if_pos ⟨by omega, by omega, q1, q2⟩]
              unfold q_kn
              rw [tB _ _ (by omega) (by omega), tB _ _ (by omega) (by omega), tB _ _ (by omega) (by omega)]
            · rw [if_neg (by omega), if_neg (by omega), tB _ _ (by omega) (by omega)]
          · rw [if_neg (by omega), if_neg (by omega), tB _ _ (by omega) (by omega)]
        · rw [if_neg (by omega), if_neg (by omega), tB _ _ (by omega) (by omega)]
      · rw [q_row_lo _ _ (by omega) (by omega)]; exact t8
      · rw [q_row_x (by omega), u0]; exact c0
      · rw [q_row_x (by omega)]; exact u1
      · rw [q_row_x (by omega), u2]; exact c2
      · have r3 : q_row (T.1 (m + 2)) (T'.1 (m + 6)) (12 + 56 * c + 4 * cnt c + 3) = q_mp (T.1 (m + 2)) k mass hum := by
          unfold q_row
          rw [show (12 + 56 * c + 4 * cnt c + 3 - 15) / 56 = c by omega, t8, io_tn (by omega), if_pos ⟨by omega, by omega, by omega, by omega⟩, u3, show 12 + 56 * c + 4 * cnt c + 3 - 1 = 12 + 56 * c + 4 * cnt c + 2 by omega, u2, show 12 + 56 * c + 4 * cnt c + 3 - 3 = 12 + 56 * c + 4 * cnt c by omega]
          unfold q_kn
          rw [u1, io_tn (by omega)]
        rw [r3]; exact c3
      · rw [q_row_x (by omega), u2]; exact ⟨m1, m2⟩
      · have r3 : q_row (T.1 (m + 2)) (T'.1 (m + 6)) (12 + 56 * c + 4 * cnt c + 3) = q_mp (T.1 (m + 2)) k mass hum := by
          unfold q_row
          rw [show (12 + 56 * c + 4 * cnt c + 3 - 15) / 56 = c by omega, t8, io_tn (by omega), if_pos ⟨by omega, by omega, by omega, by omega⟩, u3, show 12 + 56 * c + 4 * cnt c + 3 - 1 = 12 + 56 * c + 4 * cnt c + 2 by omega, u2, show 12 + 56 * c + 4 * cnt c + 3 - 3 = 12 + 56 * c + 4 * cnt c by omega]
          unfold q_kn
          rw [u1, io_tn (by omega)]
        rw [r3, q_row_x (by omega), u2]
        have := q_mp_t (hK.2 k hk).2.2 m1 m2 hum
        exact ⟨this.1, this.2.2.1⟩
    · rw [q_up_n q]
      have rc := q_row_cg (p := T.1 (m + 2)) (a := T.1 (m + 6)) (a' := T'.1 (m + 6)) (c := c) (fun j h1 h2 => tB _ _ (by omega) (by omega))
      refine ⟨d5, q_vit_cp dv (fun j hj => sB _ _ (by omega) (by omega) (by omega) (by omega)) (fun l hl => ⟨fun j _ _ => sB _ _ (by omega) (by omega) (by omega) (by omega), sR _ _ (by omega) (by omega) (by omega) (by omega)⟩) (fun j h1 h2 => rc j h1 (by omega)), q_wv_fr dw rc, by rw [tB _ _ (by omega) (by omega)]; exact d9⟩
  · refine q_ser_new (c0 := i) (k0 := cnt i) hser (by omega) (by rw [t3, hq2, io_one]) (by rw [u0, hq2]) (fun c j hc hj hne => ?_)
    have := (hcs c hc).1
    have hj' : j < cnt c := by
      by_cases q : c = i
      · rw [q, q_up_s] at hj; rw [q]; have : j ≠ cnt i := fun z => hne ⟨q, z⟩; omega
      · rw [q_up_n q] at hj; exact hj
    exact ⟨hj', tB _ _ (by omega) (by omega)⟩
end CASSA
theorem q_kcas4 {x pd i k j : Nat} (hpd : pd = x + 5 ∨ pd = x + 71) (hi : i < 6) (hk : k < 6) (e : x + j = pd + 18 + 8 * i + 2 + k) : q_k j = 0 := by
  have h1 : (List.range 6).all (fun c => (List.range 6).all (fun k => decide (q_k (25 + 8 * c + k) = 0) && decide (q_k (91 + 8 * c + k) = 0))) = true := by decide +kernel
  have h2 := List.all_eq_true.mp (List.all_eq_true.mp h1 i (List.mem_range.mpr hi)) k (List.mem_range.mpr hk)
  have h3 : q_k (25 + 8 * i + k) = 0 ∧ q_k (91 + 8 * i + k) = 0 := by simpa using h2
  rcases hpd with z | z
  · rw [show j = 25 + 8 * i + k by omega]; exact h3.1
  · rw [show j = 91 + 8 * i + k by omega]; exact h3.2
