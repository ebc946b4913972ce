/-- the text and the error: the class's reader at x + 1, the reference's text -/
def q_rd (x m : Nat) (S T : m_S) : Prop := ∃ n, n ≤ 900 ∧ S.1 (x + 1) 1 = Int32.ofNat n ∧ T.1 m 12 = Int32.ofNat n ∧ S.1 (x + 1) 2 = T.1 m 18 ∧ S.1 (x + 1) 3 = T.1 m 19 ∧ ∀ j, j < n → (0 ≤ (T.1 (m + 11) j).toInt ∧ (T.1 (m + 11) j).toInt ≤ 255) ∧ S.1 (x + 2) j = (T.1 (m + 11) j).toInt8.toInt32
def q_base (Z : m_Z) (x m : Nat) (S T : m_S) : Prop := m = x + 341 ∧ q_ZL Z x ∧ q_RS S.2.2 x 0 341 ∧ q_RS T.2.2 x 341 355
def q_pbs (x pb : Nat) (S : m_S) : Prop := (pb = x + 5 ∧ S.2.2 x 1 = some (x + 5) ∧ S.2.2 x 2 = some (x + 71)) ∨ (pb = x + 71 ∧ S.2.2 x 1 = some (x + 71) ∧ S.2.2 x 2 = some (x + 5))
def q_slot (x m N pb nk nc : Nat) (S T : m_S) (s : Nat) : Prop := (S.1 (x + 202) s = T.1 (m + 10) s ∧ (T.1 (m + 10) s = 0 ∨ T.1 (m + 10) s = 1)) ∧ (¬ T.1 (m + 10) s = 0 → q_sta (pb + 6) nk nc N S (x + 213 + 64 * s) (T.1 (m + 1)) (fun k => T.1 (m + 5) (340 * s + k)) (fun k => T.2.1 (m + 9) (30 * s + k)))
def q_Rel (Z : m_Z) (x m N pb ns nk nc : Nat) (S T : m_S) : Prop := q_base Z x m S T ∧ q_pbs x pb S ∧ q_set9 Z pb ns nk nc S (T.1 (m + 1)) ∧ q_Ks Z (pb + 6) nk S (T.1 (m + 1)) ∧ q_sta (pb + 6) nk nc N S (x + 137) (T.1 (m + 1)) (T.1 (m + 3)) (T.2.1 (m + 7)) ∧ (∀ s, s < 2 → q_slot x m N pb nk nc S T s) ∧ q_rd x m S T
section ACC
variable {Z : m_Z} {x m N pb ns nk nc : Nat} {S T : m_S}
theorem q_Rel.em (h : q_Rel Z x m N pb ns nk nc S T) : m = x + 341 := h.1.1
theorem q_Rel.zl (h : q_Rel Z x m N pb ns nk nc S T) : q_ZL Z x := h.1.2.1
theorem q_Rel.rs (h : q_Rel Z x m N pb ns nk nc S T) : q_RS S.2.2 x 0 341 := h.1.2.2.1
theorem q_Rel.rt (h : q_Rel Z x m N pb ns nk nc S T) : q_RS T.2.2 x 341 355 := h.1.2.2.2
theorem q_Rel.pbs (h : q_Rel Z x m N pb ns nk nc S T) : q_pbs x pb S := h.2.1
theorem q_Rel.s9 (h : q_Rel Z x m N pb ns nk nc S T) : q_set9 Z pb ns nk nc S (T.1 (m + 1)) := h.2.2.1
theorem q_Rel.ks (h : q_Rel Z x m N pb ns nk nc S T) : q_Ks Z (pb + 6) nk S (T.1 (m + 1)) := h.2.2.2.1
theorem q_Rel.sta (h : q_Rel Z x m N pb ns nk nc S T) : q_sta (pb + 6) nk nc N S (x + 137) (T.1 (m + 1)) (T.1 (m + 3)) (T.2.1 (m + 7)) := h.2.2.2.2.1
theorem q_Rel.sl (h : q_Rel Z x m N pb ns nk nc S T) : ∀ s, s < 2 → q_slot x m N pb nk nc S T s := h.2.2.2.2.2.1
theorem q_Rel.rd (h : q_Rel Z x m N pb ns nk nc S T) : q_rd x m S T := h.2.2.2.2.2.2
theorem q_Rel.M (h : q_Rel Z x m N pb ns nk nc S T) : q_M Z T.2.2 m := q_M_of h.em h.zl h.rt
theorem q_Rel.st (h : q_Rel Z x m N pb ns nk nc S T) : q_St Z S.2.2 (x + 137) := q_St_of h.zl h.rs (Or.inl rfl)
theorem q_Rel.st2 (h : q_Rel Z x m N pb ns nk nc S T) {s : Nat} (hs : s < 2) : q_St Z S.2.2 (x + 213 + 64 * s) := by
  have : s = 0 ∨ s = 1 := by omega
  rcases this with rfl | rfl
  · exact q_St_of (s := 213) h.zl h.rs (Or.inr (Or.inl rfl))
  · exact q_St_of (s := 277) h.zl h.rs (Or.inr (Or.inr rfl))
theorem q_Rel.tr (h : q_Rel Z x m N pb ns nk nc S T) : q_V Z S.2.2 (x + 204) := q_V_of h.zl h.rs (by decide +kernel)
theorem q_Rel.nc6 (h : q_Rel Z x m N pb ns nk nc S T) : nc ≤ 6 := h.s9.2.2.2.2.2.2
theorem q_Rel.nk4 (h : q_Rel Z x m N pb ns nk nc S T) : nk ≤ 4 := h.s9.2.2.2.2.2.1
theorem q_Rel.pbr (h : q_Rel Z x m N pb ns nk nc S T) : pb = x + 5 ∨ pb = x + 71 := by rcases h.pbs with ⟨h, -⟩ | ⟨h, -⟩ <;> omega
theorem q_Rel.ox (h : q_Rel Z x m N pb ns nk nc S T) : m_ok Z x 8 := (h.zl.g (j := 0) (N := 0) (by decide +kernel)).1
theorem q_Rel.r0 (h : q_Rel Z x m N pb ns nk nc S T) : S.2.2 x 0 = some (x + 1) := h.rs.g (a := 0) (by decide +kernel)
theorem q_Rel.r1 (h : q_Rel Z x m N pb ns nk nc S T) : S.2.2 x 1 = some pb := by rcases h.pbs with ⟨h, h1, -⟩ | ⟨h, h1, -⟩ <;> rw [h1, h]
theorem q_Rel.r3 (h : q_Rel Z x m N pb ns nk nc S T) : S.2.2 x 3 = some (x + 137) := h.rs.g (a := 0) (by decide +kernel)
theorem q_Rel.r4 (h : q_Rel Z x m N pb ns nk nc S T) : S.2.2 x 4 = some (x + 201) := h.rs.g (a := 0) (by decide +kernel)
theorem q_Rel.r5 (h : q_Rel Z x m N pb ns nk nc S T) : S.2.2 x 5 = some (x + 202) := h.rs.g (a := 0) (by decide +kernel)
theorem q_Rel.r6 (h : q_Rel Z x m N pb ns nk nc S T) : S.2.2 x 6 = some (x + 203) := h.rs.g (a := 0) (by decide +kernel)
theorem q_Rel.r7 (h : q_Rel Z x m N pb ns nk nc S T) : S.2.2 x 7 = some (x + 204) := h.rs.g (a := 0) (by decide +kernel)
theorem q_Rel.r8 (h : q_Rel Z x m N pb ns nk nc S T) : S.2.2 x 8 = some (x + 212) := h.rs.g (a := 0) (by decide +kernel)
theorem q_Rel.o1 (h : q_Rel Z x m N pb ns nk nc S T) : m_ok Z (x + 1) 3 := (h.zl.g (j := 1) (N := 0) (by decide +kernel)).1
theorem q_Rel.r10 (h : q_Rel Z x m N pb ns nk nc S T) : S.2.2 (x + 1) 0 = some (x + 2) := h.rs.g (a := 1) (by decide +kernel)
theorem q_Rel.r18 (h : q_Rel Z x m N pb ns nk nc S T) : S.2.2 (x + 1) 8 = some (x + 3) := h.rs.g (a := 1) (by decide +kernel)
theorem q_Rel.r19 (h : q_Rel Z x m N pb ns nk nc S T) : S.2.2 (x + 1) 9 = some (x + 4) := h.rs.g (a := 1) (by decide +kernel)
theorem q_Rel.o2 (h : q_Rel Z x m N pb ns nk nc S T) : m_okn Z (x + 2) 10 900 := h.zl.g (j := 2) (by decide +kernel)
theorem q_Rel.o201 (h : q_Rel Z x m N pb ns nk nc S T) : m_okn Z (x + 201) 17 2 := h.zl.g (j := 201) (by decide +kernel)
theorem q_Rel.o202 (h : q_Rel Z x m N pb ns nk nc S T) : m_okn Z (x + 202) 13 2 := h.zl.g (j := 202) (by decide +kernel)
theorem q_Rel.o203 (h : q_Rel Z x m N pb ns nk nc S T) : m_ok Z (x + 203) 4 := (h.zl.g (j := 203) (N := 0) (by decide +kernel)).1
theorem q_Rel.o204 (h : q_Rel Z x m N pb ns nk nc S T) : m_ok Z (x + 204) 7 := (h.zl.g (j := 204) (N := 0) (by decide +kernel)).1
theorem q_Rel.o212 (h : q_Rel Z x m N pb ns nk nc S T) : m_okn Z (x + 212) 11 72 := h.zl.g (j := 212) (by decide +kernel)
theorem q_Rel.o137 (h : q_Rel Z x m N pb ns nk nc S T) : m_ok Z (x + 137) 6 := h.st.1
theorem q_Rel.r137 (h : q_Rel Z x m N pb ns nk nc S T) : S.2.2 (x + 137) 0 = some (x + 138) := h.st.2.1.1
theorem q_Rel.o138 (h : q_Rel Z x m N pb ns nk nc S T) : m_ok Z (x + 138) 4 := h.st.2.1.2
theorem q_Rel.opb (h : q_Rel Z x m N pb ns nk nc S T) : m_ok Z pb 5 := h.s9.1.1
theorem q_Rel.kpb (h : q_Rel Z x m N pb ns nk nc S T) : S.2.2 pb 7 = some (pb + 4) ∧ m_okn Z (pb + 4) 15 4 := by
  rcases h.pbr with e | e
  · subst e; exact ⟨h.rs.g (a := 5) (k := 7) (v := 9) (by decide +kernel), h.zl.g (j := 9) (by decide +kernel)⟩
  · subst e; exact ⟨h.rs.g (a := 71) (k := 7) (v := 75) (by decide +kernel), h.zl.g (j := 75) (by decide +kernel)⟩
theorem q_Rel.kref (h : q_Rel Z x m N pb ns nk nc S T) {k : Nat} (hk : k < 4) : S.2.2 (pb + 4) k = some (pb + 6 + 3 * k) := by
  have h4 : k = 0 ∨ k = 1 ∨ k = 2 ∨ k = 3 := by omega
  rcases h.pbr with e | e
  · subst e
    rcases h4 with rfl | rfl | rfl | rfl
    · exact h.rs.g (a := 9) (k := 0) (v := 11) (by decide +kernel)
    · exact h.rs.g (a := 9) (k := 1) (v := 14) (by decide +kernel)
    · exact h.rs.g (a := 9) (k := 2) (v := 17) (by decide +kernel)
    · exact h.rs.g (a := 9) (k := 3) (v := 20) (by decide +kernel)
  · subst e
    rcases h4 with rfl | rfl | rfl | rfl
    · exact h.rs.g (a := 75) (k := 0) (v := 77) (by decide +kernel)
    · exact h.rs.g (a := 75) (k := 1) (v := 80) (by decide +kernel)
    · exact h.rs.g (a := 75) (k := 2) (v := 83) (by decide +kernel)
    · exact h.rs.g (a := 75) (k := 3) (v := 86) (by decide +kernel)
theorem q_Rel.n5 (h : q_Rel Z x m N pb ns nk nc S T) : T.1 (m + 1) 5 = Int32.ofNat nc := h.s9.2.1.2.2.2.2.2.2.2
theorem q_Rel.n4 (h : q_Rel Z x m N pb ns nk nc S T) : T.1 (m + 1) 4 = Int32.ofNat nk := h.s9.2.1.2.2.2.2.2.1
theorem q_Rel.c8 (h : q_Rel Z x m N pb ns nk nc S T) : S.1 pb 8 = Int32.ofNat nc := h.s9.2.1.2.2.2.2.2.2.1
theorem q_Rel.c6 (h : q_Rel Z x m N pb ns nk nc S T) : S.1 pb 6 = Int32.ofNat nk := h.s9.2.1.2.2.2.2.1
end ACC
/-- the main state is new -/
theorem q_Rel_main {Z : m_Z} {x m N N' pb ns nk nc : Nat} {S T S' T' : m_S} (h : q_Rel Z x m N pb ns nk nc S T) (hN : N ≤ N') (hS : q_ag (fun b _ => x ≤ b ∧ b < x + 341 ∧ ¬ (x + 137 ≤ b ∧ b < x + 201) ∧ ¬ (x + 203 ≤ b ∧ b < x + 213)) S S') (hSr : q_RS S'.2.2 x 0 341) (hT : q_ag (fun b k => m ≤ b ∧ b < m + 14 ∧ ¬ b = m + 3 ∧ ¬ b = m + 7 ∧ ¬ b = m + 4 ∧ ¬ b = m + 8 ∧ (b = m → k = 12 ∨ k = 18 ∨ k = 19)) T T') (hTr : q_RS T'.2.2 x 341 355) (hst : q_sta (pb + 6) nk nc N' S' (x + 137) (T.1 (m + 1)) (T'.1 (m + 3)) (T'.2.1 (m + 7))) : q_Rel Z x m N' pb ns nk nc S' T' := by
  have hp : ∀ k, T'.1 (m + 1) k = T.1 (m + 1) k := fun k => (hT _ _ ⟨by omega, by omega, by omega, by omega, by omega, by omega, by omega⟩).1
  have hp' : T'.1 (m + 1) = T.1 (m + 1) := funext hp
  have hpb := h.pbr
  obtain ⟨⟨b1, b2, b3, b4⟩, h2, h3, h4, h5, h6, n, n9, d1, d2, d3, d4, d5⟩ := h
  refine ⟨⟨b1, b2, hSr, hTr⟩, ?_, ?_, ?_, ?_, fun s hs => ?_, n, n9, ?_, ?_, ?_, ?_, fun j hj => ?_⟩
  · unfold q_pbs
    rw [(hS x 1 ⟨by omega, by omega, by omega, by omega⟩).2.2, (hS x 2 ⟨by omega, by omega, by omega, by omega⟩).2.2]; exact h2
  · exact q_set9_ag h3 (fun b k hb => hS b k ⟨by omega, by omega, by omega, by omega⟩) (fun k _ => hp k)
  · rw [hp']; exact q_Ks_ag h4 (fun b k hb => hS b k ⟨by omega, by omega, by omega, by omega⟩)
  · rw [hp']; exact hst
  · obtain ⟨⟨s1, s2⟩, s3⟩ := h6 s hs
    have e1 := hT (m + 10) s ⟨by omega, by omega, by omega, by omega, by omega, by omega, by omega⟩
    refine ⟨⟨?_, ?_⟩, fun q => ?_⟩
    · rw [(hS _ _ ⟨by omega, by omega, by omega, by omega⟩).1, e1.1]; exact s1
    · rw [e1.1]; exact s2
    · rw [e1.1] at q
      rw [hp']
      exact q_sta_ag (s3 q) h3.2.2.2.2.2.2 (fun b k hb => hS b k ⟨by omega, by omega, by omega, by omega⟩) (fun k _ => (hT _ _ ⟨by omega, by omega, by omega, by omega, by omega, by omega, by omega⟩).1) (fun k _ => (hT _ _ ⟨by omega, by omega, by omega, by omega, by omega, by omega, by omega⟩).2.1) hN
  · rw [(hS _ _ ⟨by omega, by omega, by omega, by omega⟩).1]; exact d1
  · rw [(hT _ _ ⟨by omega, by omega, by omega, by omega, by omega, by omega, by omega⟩).1]; exact d2
  · rw [(hS _ _ ⟨by omega, by omega, by omega, by omega⟩).1, (hT m 18 ⟨by omega, by omega, by omega, by omega, by omega, by omega, by omega⟩).1]; exact d3
  · rw [(hS _ _ ⟨by omega, by omega, by omega, by omega⟩).1, (hT m 19 ⟨by omega, by omega, by omega, by omega, by omega, by omega, by omega⟩).1]; exact d4
  · rw [(hS _ _ ⟨by omega, by omega, by omega, by omega⟩).1, (hT (m + 11) j ⟨by omega, by omega, by omega, by omega, by omega, by omega, by omega⟩).1]; exact d5 j hj
/-- nothing that counts is new -/
theorem q_Rel_fr {Z : m_Z} {x m N N' pb ns nk nc : Nat} {S T S' T' : m_S} (h : q_Rel Z x m N pb ns nk nc S T) (hN : N ≤ N') (hS : q_ag (fun b _ => x ≤ b ∧ b < x + 341 ∧ ¬ (x + 203 ≤ b ∧ b < x + 213)) S S') (hSr : q_RS S'.2.2 x 0 341) (hT : q_ag (fun b k => m ≤ b ∧ b < m + 14 ∧ ¬ b = m + 4 ∧ ¬ b = m + 8 ∧ (b = m → k = 12 ∨ k = 18 ∨ k = 19)) T T') (hTr : q_RS T'.2.2 x 341 355) : q_Rel Z x m N' pb ns nk nc S' T' := by
  have hm := h.em
  exact q_Rel_main h hN (fun b k hb => hS b k ⟨hb.1, hb.2.1, hb.2.2.2⟩) hSr (fun b k hb => hT b k ⟨hb.1, hb.2.1, hb.2.2.2.2.1, hb.2.2.2.2.2⟩) hTr
    (q_sta_ag h.sta h.nc6 (fun b k hb => hS b k ⟨by omega, by omega, by omega⟩) (fun k _ => (hT _ _ ⟨by omega, by omega, by omega, by omega, by omega⟩).1) (fun k _ => (hT _ _ ⟨by omega, by omega, by omega, by omega, by omega⟩).2.1) hN)
theorem q_Rel_cl {Z : m_Z} {x m N pb ns nk nc : Nat} {S T S' T' : m_S} (h : q_Rel Z x m N pb ns nk nc S T) (hS : q_ag (fun b _ => x ≤ b ∧ b < x + 341) S S') (hT : q_ag (fun b _ => x + 341 ≤ b ∧ b < x + 355) T T') : q_Rel Z x m N pb ns nk nc S' T' := by
  have hm := h.em
  refine q_Rel_fr h (Nat.le_refl _) (fun b k hb => hS b k ⟨hb.1, hb.2.1⟩) (fun q hq h1 h2 h3 => ?_) (fun b k hb => hT b k ⟨by omega, by omega⟩) (fun q hq h1 h2 h3 => ?_)
  · rw [(hS _ _ ⟨by omega, by omega⟩).2.2]; exact h.rs q hq h1 h2 h3
  · rw [(hT _ _ ⟨by omega, by omega⟩).2.2]; exact h.rt q hq h1 h2 h3
theorem q_Rel_N {Z : m_Z} {x m N N' pb ns nk nc : Nat} {S T : m_S} (h : q_Rel Z x m N pb ns nk nc S T) (hN : N ≤ N') : q_Rel Z x m N' pb ns nk nc S T :=
  q_Rel_fr h hN (fun _ _ _ => ⟨rfl, rfl, rfl⟩) h.rs (fun _ _ _ => ⟨rfl, rfl, rfl⟩) h.rt
/-- the reference's own cells, but for what counts -/
theorem q_Rel_t {Z : m_Z} {x m N pb ns nk nc k : Nat} {S T : m_S} {v : Int32} (h : q_Rel Z x m N pb ns nk nc S T) (hk : ¬ k = 12) (h18 : ¬ k = 18) (h19 : ¬ k = 19) : q_Rel Z x m N pb ns nk nc S (m_pI T m k v) :=
  q_Rel_fr h (Nat.le_refl _) (fun _ _ _ => ⟨rfl, rfl, rfl⟩) h.rs (fun b j hb => ⟨pI_ne (by omega), rfl, rfl⟩) h.rt
/-- which cells a call may change -/
def q_fX (x : Nat) (S S' : m_S) : Prop := q_ag (fun b _ => ¬ (x ≤ b ∧ b < x + 341)) S S'
def q_fY (m : Nat) (T T' : m_S) : Prop := q_ag (fun b _ => ¬ (m ≤ b ∧ b < m + 14)) T T'
def q_Re (Z : m_Z) (x m N : Nat) (S T : m_S) : Prop := ∃ pb ns nk nc, q_Rel Z x m N pb ns nk nc S T
/-- a call of both: of a method of the class that writes .. -/
def q_JW {α β : Type} (Z : m_Z) (x m N : Nat) (cs : List (String × Int32)) (eq : α → β → Prop) (S T : m_S) (rc : Option (Except String α × m_S)) (rm : Option (β × m_S)) : Prop :=
  ∃ S' T', q_fX x S S' ∧ q_fY m T T' ∧ q_Re Z x m N S' T' ∧ ((∃ a b, rc = some (.ok a, S') ∧ rm = some (b, T') ∧ T'.1 m 0 = 0 ∧ eq a b) ∨ ∃ e b, rc = some (.error e, S') ∧ rm = some (b, T') ∧ (e, T'.1 m 0) ∈ cs)
/-- .. of one that doesn't -/
def q_JR {α β : Type} (Z : m_Z) (x m N : Nat) (cs : List (String × Int32)) (eq : α → β → Prop) (S T : m_S) (rc : Option (Except String α)) (rm : Option (β × m_S)) : Prop :=
  ∃ T', q_fY m T T' ∧ q_Re Z x m N S T' ∧ ((∃ a b, rc = some (.ok a) ∧ rm = some (b, T') ∧ T'.1 m 0 = 0 ∧ eq a b) ∨ ∃ e b, rc = some (.error e) ∧ rm = some (b, T') ∧ (e, T'.1 m 0) ∈ cs)
theorem q_ag_refl (P : Nat → Nat → Prop) (S : m_S) : q_ag P S S := fun _ _ _ => ⟨rfl, rfl, rfl⟩
theorem q_ag_trans {P : Nat → Nat → Prop} {S S' S'' : m_S} (h : q_ag P S S') (h' : q_ag P S' S'') : q_ag P S S'' := fun b k hb => ⟨(h' b k hb).1.trans (h b k hb).1, (h' b k hb).2.1.trans (h b k hb).2.1, (h' b k hb).2.2.trans (h b k hb).2.2⟩
theorem q_ag_I {P : Nat → Nat → Prop} {S S' : m_S} {a k : Nat} {v : Int32} (h : q_ag P S S') (hn : ¬ P a k) : q_ag P S (m_pI S' a k v) := fun b j hb => ⟨(pI_ne (fun q => hn (by rw [← q.1, ← q.2]; exact hb))).trans (h b j hb).1, (h b j hb).2.1, (h b j hb).2.2⟩
theorem q_ag_J {P : Nat → Nat → Prop} {S S' : m_S} {a k : Nat} {v : Int64} (h : q_ag P S S') (hn : ¬ P a k) : q_ag P S (m_pJ S' a k v) := fun b j hb => ⟨(h b j hb).1, (pJ_ne (fun q => hn (by rw [← q.1, ← q.2]; exact hb))).trans (h b j hb).2.1, (h b j hb).2.2⟩
theorem pR_same (S : m_S) (a k : Nat) (v : Option Nat) : (m_pR S a k v).2.2 a k = v := if_pos ⟨rfl, rfl⟩
theorem pR_ne {S : m_S} {a k b j : Nat} {v : Option Nat} (h : ¬ (b = a ∧ j = k)) : (m_pR S a k v).2.2 b j = S.2.2 b j := if_neg h
theorem q_ag_R {P : Nat → Nat → Prop} {S S' : m_S} {a k : Nat} {v : Option Nat} (h : q_ag P S S') (hn : ¬ P a k) : q_ag P S (m_pR S' a k v) := fun b j hb => ⟨(h b j hb).1, (h b j hb).2.1, (pR_ne (fun q => hn (by rw [← q.1, ← q.2]; exact hb))).trans (h b j hb).2.2⟩
