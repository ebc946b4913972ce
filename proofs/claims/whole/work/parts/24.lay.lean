/-! THE START'S LAYOUT: which cell lies where, which it refers to -/
def m_nl : List m_O → List (Nat × Nat)
  | [] => []
  | .inl q :: os => q :: m_nl os
  | .inr _ :: os => m_nl os
theorem m_nl_app : ∀ a b : List m_O, m_nl (a ++ b) = m_nl a ++ m_nl b
  | [], _ => rfl
  | .inl q :: a, b => congrArg (List.cons q) (m_nl_app a b)
  | .inr _ :: a, b => m_nl_app a b
theorem m_rn_Z : ∀ (os : List m_O) (y : m_Y), (∀ b, b ∈ (m_rn y os).1.1 ↔ (b ∈ y.1.1 ∨ (y.2.2 ≤ b ∧ b < y.2.2 + (m_nl os).length))) ∧ (∀ j q, (m_nl os)[j]? = some q → (m_rn y os).1.2.1 (y.2.2 + j) = q.1 ∧ (m_rn y os).1.2.2 (y.2.2 + j) = q.2) ∧ ∀ b, b < y.2.2 → (m_rn y os).1.2.1 b = y.1.2.1 b ∧ (m_rn y os).1.2.2 b = y.1.2.2 b
  | [], y => ⟨fun b => ⟨fun h => Or.inl h, fun h => h.elim id (fun h => absurd h.2 (by show ¬ b < y.2.2 + 0; omega))⟩, (fun j q h => by cases h), fun b _ => ⟨rfl, rfl⟩⟩
  | .inr o :: os, y => by
    have h := m_rn_Z os (m_do y (.inr o))
    have e : (m_do y (.inr o)).1 = y.1 ∧ (m_do y (.inr o)).2.2 = y.2.2 := by
      match o with
      | .inl _ => exact ⟨rfl, rfl⟩
      | .inr (.inl _) => exact ⟨rfl, rfl⟩
      | .inr (.inr _) => exact ⟨rfl, rfl⟩
    rw [e.1, e.2] at h
    exact h
  | .inl q :: os, y => by
    obtain ⟨h1, h2, h3⟩ := m_rn_Z os (m_do y (.inl q))
    have e2 : (m_do y (.inl q)).2.2 = y.2.2 + 1 := rfl
    have e1 : (m_do y (.inl q)).1 = m_ad y.1 y.2.2 q.1 q.2 := rfl
    rw [e2] at h1 h2 h3
    rw [e1] at h1 h3
    refine ⟨fun b => (h1 b).trans ?_, fun j r hj => ?_, fun b hb => ?_⟩
    · show (b ∈ y.1.1 ++ [y.2.2] ∨ _) ↔ _
      show (b ∈ y.1.1 ++ [y.2.2] ∨ _) ↔ (b ∈ y.1.1 ∨ (y.2.2 ≤ b ∧ b < y.2.2 + ((m_nl os).length + 1)))
      rw [List.mem_append, List.mem_singleton]
      constructor
      · rintro ((h | h) | h)
        · exact Or.inl h
        · exact Or.inr (by omega)
        · exact Or.inr (by omega)
      · rintro (h | h)
        · exact Or.inl (Or.inl h)
        · by_cases e : b = y.2.2
          · exact Or.inl (Or.inr e)
          · exact Or.inr (by omega)
    · cases j with
      | zero =>
        cases hj
        have := h3 y.2.2 (Nat.lt_succ_self _)
        refine ⟨this.1.trans ?_, this.2.trans ?_⟩
        · show (if y.2.2 = y.2.2 then q.1 else _) = q.1
          rw [if_pos rfl]
        · show (if y.2.2 = y.2.2 then q.2 else _) = q.2
          rw [if_pos rfl]
      | succ j =>
        have := h2 j r hj
        rw [show y.2.2 + (j + 1) = y.2.2 + 1 + j by omega]
        exact this
    · have := h3 b (by omega)
      refine ⟨this.1.trans ?_, this.2.trans ?_⟩
      · show (if b = y.2.2 then q.1 else _) = _
        rw [if_neg (by omega)]
      · show (if b = y.2.2 then q.2 else _) = _
        rw [if_neg (by omega)]
/-- the same making, elsewhere -/
def m_sh (s : Nat) : m_O → m_O
  | .inl q => .inl q
  | .inr (.inl (a, k, v)) => o_I (a + s) k v
  | .inr (.inr (.inl (a, k, v))) => o_J (a + s) k v
  | .inr (.inr (.inr (a, k, v))) => o_R (a + s) k (v.map (· + s))
def m_Sh (s : Nat) (y z : m_Y) : Prop := z.2.2 = y.2.2 + s ∧ (∀ a k, z.2.1.1 (a + s) k = y.2.1.1 a k) ∧ (∀ a k, z.2.1.2.1 (a + s) k = y.2.1.2.1 a k) ∧ ∀ a k, z.2.1.2.2 (a + s) k = (y.2.1.2.2 a k).map (· + s)
theorem m_sh_do {s : Nat} {y z : m_Y} (h : m_Sh s y z) (o : m_O) : m_Sh s (m_do y o) (m_do z (m_sh s o)) := by
  obtain ⟨h1, h2, h3, h4⟩ := h
  match o with
  | .inl (c, n) =>
    refine ⟨by show z.2.2 + 1 = y.2.2 + 1 + s; omega, fun a k => ?_, fun a k => ?_, fun a k => ?_⟩
    · show (if a + s = z.2.2 then 0 else z.2.1.1 (a + s) k) = if a = y.2.2 then 0 else y.2.1.1 a k
      rw [h1, h2]; simp only [Nat.add_right_cancel_iff]
    · show (if a + s = z.2.2 then 0 else z.2.1.2.1 (a + s) k) = if a = y.2.2 then 0 else y.2.1.2.1 a k
      rw [h1, h3]; simp only [Nat.add_right_cancel_iff]
    · show (if a + s = z.2.2 then none else z.2.1.2.2 (a + s) k) = (if a = y.2.2 then none else y.2.1.2.2 a k).map (· + s)
      rw [h1, h4]; simp only [Nat.add_right_cancel_iff]; split <;> rfl
  | .inr (.inl (b, j, v)) =>
    refine ⟨h1, fun a k => ?_, h3, h4⟩
    show (if a + s = b + s ∧ k = j then v else z.2.1.1 (a + s) k) = if a = b ∧ k = j then v else y.2.1.1 a k
    rw [h2]; simp only [Nat.add_right_cancel_iff]
  | .inr (.inr (.inl (b, j, v))) =>
    refine ⟨h1, h2, fun a k => ?_, h4⟩
    show (if a + s = b + s ∧ k = j then v else z.2.1.2.1 (a + s) k) = if a = b ∧ k = j then v else y.2.1.2.1 a k
    rw [h3]; simp only [Nat.add_right_cancel_iff]
  | .inr (.inr (.inr (b, j, v))) =>
    refine ⟨h1, h2, h3, fun a k => ?_⟩
    show (if a + s = b + s ∧ k = j then v.map (· + s) else z.2.1.2.2 (a + s) k) = (if a = b ∧ k = j then v else y.2.1.2.2 a k).map (· + s)
    rw [h4]; simp only [Nat.add_right_cancel_iff]; split <;> rfl
theorem m_sh_rn {s : Nat} : ∀ (os : List m_O) {y z : m_Y}, m_Sh s y z → m_Sh s (m_rn y os) (m_rn z (os.map (m_sh s)))
  | [], _, _, h => h
  | o :: os, _, _, h => m_sh_rn os (m_sh_do h o)

set_option maxRecDepth 100000 in
theorem nl_X0 (a0 h : Nat) : m_nl (ops_X0 a0 h) = [] := by simp only [ops_X0, m_nl_app, m_nl, List.cons_append, List.nil_append, List.append_nil]
theorem sh_X0 (a0 h s : Nat) : ops_X0 (a0 + s) (h + s) = (ops_X0 a0 h).map (m_sh s) := by
  have e : ∀ k, h + s + k = h + k + s := fun k => Nat.add_right_comm h s k
  simp only [ops_X0, e, List.map_append, List.map_cons, List.map_nil, m_sh, Option.map_some, Option.map_none]
set_option maxRecDepth 100000 in
theorem nl_X1 (a0 h : Nat) : m_nl (ops_X1 a0 h) = [(11, 6), (11, 6)] := by simp only [ops_X1, m_nl_app, m_nl, List.cons_append, List.nil_append, List.append_nil]
theorem sh_X1 (a0 h s : Nat) : ops_X1 (a0 + s) (h + s) = (ops_X1 a0 h).map (m_sh s) := by
  have e : ∀ k, h + s + k = h + k + s := fun k => Nat.add_right_comm h s k
  simp only [ops_X1, e, List.map_append, List.map_cons, List.map_nil, m_sh, Option.map_some, Option.map_none]
set_option maxRecDepth 100000 in
theorem nl_X2 (a0 h : Nat) : m_nl (ops_X2 a0 h) = [(11, 24)] := by simp only [ops_X2, m_nl_app, m_nl, List.cons_append, List.nil_append, List.append_nil]
theorem sh_X2 (a0 h s : Nat) : ops_X2 (a0 + s) (h + s) = (ops_X2 a0 h).map (m_sh s) := by
  have e : ∀ k, h + s + k = h + k + s := fun k => Nat.add_right_comm h s k
  simp only [ops_X2, e, List.map_append, List.map_cons, List.map_nil, m_sh, Option.map_some, Option.map_none]
set_option maxRecDepth 100000 in
theorem nl_X3 (a0 h : Nat) : m_nl (ops_X3 a0 h) = [(10, 900), (12, 4), (12, 6)] := by simp only [ops_X3, m_nl_app, m_nl, List.cons_append, List.nil_append, List.append_nil]
theorem sh_X3 (a0 h s : Nat) : ops_X3 (a0 + s) (h + s) = (ops_X3 a0 h).map (m_sh s) := by
  have e : ∀ k, h + s + k = h + k + s := fun k => Nat.add_right_comm h s k
  simp only [ops_X3, e, List.map_append, List.map_cons, List.map_nil, m_sh, Option.map_some, Option.map_none]
set_option maxRecDepth 100000 in
theorem nl_X4 (a0 h : Nat) : m_nl (ops_X4 a0 h) = [] := by simp only [ops_X4, m_nl_app, m_nl, List.cons_append, List.nil_append, List.append_nil]
theorem sh_X4 (a0 h s : Nat) : ops_X4 (a0 + s) (h + s) = (ops_X4 a0 h).map (m_sh s) := by
  have e : ∀ k, h + s + k = h + k + s := fun k => Nat.add_right_comm h s k
  simp only [ops_X4, e, List.map_append, List.map_cons, List.map_nil, m_sh, Option.map_some, Option.map_none]
set_option maxRecDepth 100000 in
theorem nl_X7 (a0 h : Nat) : m_nl (ops_X7 a0 h) = [(14, 6), (0, 0), (0, 0), (0, 0), (0, 0), (0, 0), (0, 0)] := by simp only [ops_X7, m_nl_app, m_nl, nl_X0, List.cons_append, List.nil_append, List.append_nil]
theorem sh_X7 (a0 h s : Nat) : ops_X7 (a0 + s) (h + s) = (ops_X7 a0 h).map (m_sh s) := by
  have e : ∀ k, h + s + k = h + k + s := fun k => Nat.add_right_comm h s k
  simp only [ops_X7, e, sh_X0, List.map_append, List.map_cons, List.map_nil, m_sh, Option.map_some, Option.map_none]
set_option maxRecDepth 100000 in
theorem nl_X5 (a0 h : Nat) : m_nl (ops_X5 a0 h) = [(11, 12), (11, 12), (11, 24), (15, 4), (18, 6), (1, 0), (11, 6), (11, 6), (1, 0), (11, 6), (11, 6), (1, 0), (11, 6), (11, 6), (1, 0), (11, 6), (11, 6), (7, 0), (14, 6), (0, 0), (0, 0), (0, 0), (0, 0), (0, 0), (0, 0), (7, 0), (14, 6), (0, 0), (0, 0), (0, 0), (0, 0), (0, 0), (0, 0), (7, 0), (14, 6), (0, 0), (0, 0), (0, 0), (0, 0), (0, 0), (0, 0), (7, 0), (14, 6), (0, 0), (0, 0), (0, 0), (0, 0), (0, 0), (0, 0), (7, 0), (14, 6), (0, 0), (0, 0), (0, 0), (0, 0), (0, 0), (0, 0), (7, 0), (14, 6), (0, 0), (0, 0), (0, 0), (0, 0), (0, 0), (0, 0)] := by simp only [ops_X5, m_nl_app, m_nl, nl_X1, nl_X7, List.cons_append, List.nil_append, List.append_nil]
theorem sh_X5 (a0 h s : Nat) : ops_X5 (a0 + s) (h + s) = (ops_X5 a0 h).map (m_sh s) := by
  have e : ∀ k, h + s + k = h + k + s := fun k => Nat.add_right_comm h s k
  simp only [ops_X5, e, sh_X1, sh_X7, List.map_append, List.map_cons, List.map_nil, m_sh, Option.map_some, Option.map_none]
set_option maxRecDepth 100000 in
theorem nl_X6 (a0 h : Nat) : m_nl (ops_X6 a0 h) = [(4, 0), (18, 6), (16, 6), (7, 0), (14, 6), (0, 0), (0, 0), (0, 0), (0, 0), (0, 0), (0, 0), (2, 0), (11, 24), (7, 0), (14, 6), (0, 0), (0, 0), (0, 0), (0, 0), (0, 0), (0, 0), (2, 0), (11, 24), (7, 0), (14, 6), (0, 0), (0, 0), (0, 0), (0, 0), (0, 0), (0, 0), (2, 0), (11, 24), (7, 0), (14, 6), (0, 0), (0, 0), (0, 0), (0, 0), (0, 0), (0, 0), (2, 0), (11, 24), (7, 0), (14, 6), (0, 0), (0, 0), (0, 0), (0, 0), (0, 0), (0, 0), (2, 0), (11, 24), (7, 0), (14, 6), (0, 0), (0, 0), (0, 0), (0, 0), (0, 0), (0, 0), (2, 0), (11, 24)] := by simp only [ops_X6, m_nl_app, m_nl, nl_X4, nl_X7, nl_X2, List.cons_append, List.nil_append, List.append_nil]
theorem sh_X6 (a0 h s : Nat) : ops_X6 (a0 + s) (h + s) = (ops_X6 a0 h).map (m_sh s) := by
  have e : ∀ k, h + s + k = h + k + s := fun k => Nat.add_right_comm h s k
  simp only [ops_X6, e, sh_X4, sh_X7, sh_X2, List.map_append, List.map_cons, List.map_nil, m_sh, Option.map_some, Option.map_none]
set_option maxRecDepth 100000 in
theorem nl_X8 (a0 h : Nat) : m_nl (ops_X8 a0 h) = [(3, 0), (10, 900), (12, 4), (12, 6), (5, 0), (11, 12), (11, 12), (11, 24), (15, 4), (18, 6), (1, 0), (11, 6), (11, 6), (1, 0), (11, 6), (11, 6), (1, 0), (11, 6), (11, 6), (1, 0), (11, 6), (11, 6), (7, 0), (14, 6), (0, 0), (0, 0), (0, 0), (0, 0), (0, 0), (0, 0), (7, 0), (14, 6), (0, 0), (0, 0), (0, 0), (0, 0), (0, 0), (0, 0), (7, 0), (14, 6), (0, 0), (0, 0), (0, 0), (0, 0), (0, 0), (0, 0), (7, 0), (14, 6), (0, 0), (0, 0), (0, 0), (0, 0), (0, 0), (0, 0), (7, 0), (14, 6), (0, 0), (0, 0), (0, 0), (0, 0), (0, 0), (0, 0), (7, 0), (14, 6), (0, 0), (0, 0), (0, 0), (0, 0), (0, 0), (0, 0), (5, 0), (11, 12), (11, 12), (11, 24), (15, 4), (18, 6), (1, 0), (11, 6), (11, 6), (1, 0), (11, 6), (11, 6), (1, 0), (11, 6), (11, 6), (1, 0), (11, 6), (11, 6), (7, 0), (14, 6), (0, 0), (0, 0), (0, 0), (0, 0), (0, 0), (0, 0), (7, 0), (14, 6), (0, 0), (0, 0), (0, 0), (0, 0), (0, 0), (0, 0), (7, 0), (14, 6), (0, 0), (0, 0), (0, 0), (0, 0), (0, 0), (0, 0), (7, 0), (14, 6), (0, 0), (0, 0), (0, 0), (0, 0), (0, 0), (0, 0), (7, 0), (14, 6), (0, 0), (0, 0), (0, 0), (0, 0), (0, 0), (0, 0), (7, 0), (14, 6), (0, 0), (0, 0), (0, 0), (0, 0), (0, 0), (0, 0), (6, 0), (4, 0), (18, 6), (16, 6), (7, 0), (14, 6), (0, 0), (0, 0), (0, 0), (0, 0), (0, 0), (0, 0), (2, 0), (11, 24), (7, 0), (14, 6), (0, 0), (0, 0), (0, 0), (0, 0), (0, 0), (0, 0), (2, 0), (11, 24), (7, 0), (14, 6), (0, 0), (0, 0), (0, 0), (0, 0), (0, 0), (0, 0), (2, 0), (11, 24), (7, 0), (14, 6), (0, 0), (0, 0), (0, 0), (0, 0), (0, 0), (0, 0), (2, 0), (11, 24), (7, 0), (14, 6), (0, 0), (0, 0), (0, 0), (0, 0), (0, 0), (0, 0), (2, 0), (11, 24), (7, 0), (14, 6), (0, 0), (0, 0), (0, 0), (0, 0), (0, 0), (0, 0), (2, 0), (11, 24), (17, 2), (13, 2), (4, 0), (7, 0), (14, 6), (0, 0), (0, 0), (0, 0), (0, 0), (0, 0), (0, 0), (11, 72), (6, 0), (4, 0), (18, 6), (16, 6), (7, 0), (14, 6), (0, 0), (0, 0), (0, 0), (0, 0), (0, 0), (0, 0), (2, 0), (11, 24), (7, 0), (14, 6), (0, 0), (0, 0), (0, 0), (0, 0), (0, 0), (0, 0), (2, 0), (11, 24), (7, 0), (14, 6), (0, 0), (0, 0), (0, 0), (0, 0), (0, 0), (0, 0), (2, 0), (11, 24), (7, 0), (14, 6), (0, 0), (0, 0), (0, 0), (0, 0), (0, 0), (0, 0), (2, 0), (11, 24), (7, 0), (14, 6), (0, 0), (0, 0), (0, 0), (0, 0), (0, 0), (0, 0), (2, 0), (11, 24), (7, 0), (14, 6), (0, 0), (0, 0), (0, 0), (0, 0), (0, 0), (0, 0), (2, 0), (11, 24), (6, 0), (4, 0), (18, 6), (16, 6), (7, 0), (14, 6), (0, 0), (0, 0), (0, 0), (0, 0), (0, 0), (0, 0), (2, 0), (11, 24), (7, 0), (14, 6), (0, 0), (0, 0), (0, 0), (0, 0), (0, 0), (0, 0), (2, 0), (11, 24), (7, 0), (14, 6), (0, 0), (0, 0), (0, 0), (0, 0), (0, 0), (0, 0), (2, 0), (11, 24), (7, 0), (14, 6), (0, 0), (0, 0), (0, 0), (0, 0), (0, 0), (0, 0), (2, 0), (11, 24), (7, 0), (14, 6), (0, 0), (0, 0), (0, 0), (0, 0), (0, 0), (0, 0), (2, 0), (11, 24), (7, 0), (14, 6), (0, 0), (0, 0), (0, 0), (0, 0), (0, 0), (0, 0), (2, 0), (11, 24)] := by simp only [ops_X8, m_nl_app, m_nl, nl_X3, nl_X5, nl_X6, nl_X4, nl_X7, List.cons_append, List.nil_append, List.append_nil]
theorem sh_X8 (a0 h s : Nat) : ops_X8 (a0 + s) (h + s) = (ops_X8 a0 h).map (m_sh s) := by
  have e : ∀ k, h + s + k = h + k + s := fun k => Nat.add_right_comm h s k
  simp only [ops_X8, e, sh_X3, sh_X5, sh_X6, sh_X4, sh_X7, List.map_append, List.map_cons, List.map_nil, m_sh, Option.map_some, Option.map_none]
set_option maxRecDepth 100000 in
theorem nl_X9 (a0 h : Nat) : m_nl (ops_X9 a0 h) = [(11, 116), (11, 116), (11, 340), (11, 340), (11, 680), (11, 340), (12, 30), (12, 30), (12, 60), (13, 2), (11, 900), (12, 4), (12, 6)] := by simp only [ops_X9, m_nl_app, m_nl, List.cons_append, List.nil_append, List.append_nil]
theorem sh_X9 (a0 h s : Nat) : ops_X9 (a0 + s) (h + s) = (ops_X9 a0 h).map (m_sh s) := by
  have e : ∀ k, h + s + k = h + k + s := fun k => Nat.add_right_comm h s k
  simp only [ops_X9, e, List.map_append, List.map_cons, List.map_nil, m_sh, Option.map_some, Option.map_none]
theorem m_rn_one (y : m_Y) (o : m_O) : m_rn y [o] = m_do y o := rfl
def ops_all (h : Nat) : List m_O := [o_n 8 0] ++ (ops_X8 h (h + 1) ++ ([o_n 9 0] ++ ops_X9 (h + 341) (h + 342)))
theorem m_y2_all (h : Nat) : m_y2 h = m_rn (m_y0 h) (ops_all h) := by
  unfold m_y2 m_y1 ops_all
  rw [m_rn_app, m_rn_app, m_rn_app, m_rn_one, m_rn_one]
theorem sh_all (h : Nat) : ops_all h = (ops_all 0).map (m_sh h) := by
  have e1 := sh_X8 0 1 h
  have e2 := sh_X9 341 342 h
  rw [Nat.zero_add, Nat.add_comm 1 h] at e1
  rw [Nat.add_comm 341 h, Nat.add_comm 342 h] at e2
  unfold ops_all
  rw [e1, e2]
  simp only [List.map_append, List.map_cons, List.map_nil, m_sh, Nat.zero_add]
def m_y00 : m_Y := m_rn (m_y0 0) (ops_all 0)
theorem m_start_sh (h : Nat) : m_Sh h m_y00 (m_y2 h) := by
  rw [m_y2_all, sh_all]
  exact m_sh_rn _ ⟨(Nat.zero_add h).symm, fun _ _ => rfl, fun _ _ => rfl, fun _ _ => rfl⟩
def q_nl : List (Nat × Nat) := [(8, 0), (3, 0), (10, 900), (12, 4), (12, 6), (5, 0), (11, 12), (11, 12), (11, 24), (15, 4), (18, 6), (1, 0), (11, 6), (11, 6), (1, 0), (11, 6), (11, 6), (1, 0), (11, 6), (11, 6), (1, 0), (11, 6), (11, 6), (7, 0), (14, 6), (0, 0), (0, 0), (0, 0), (0, 0), (0, 0), (0, 0), (7, 0), (14, 6), (0, 0), (0, 0), (0, 0), (0, 0), (0, 0), (0, 0), (7, 0), (14, 6), (0, 0), (0, 0), (0, 0), (0, 0), (0, 0), (0, 0), (7, 0), (14, 6), (0, 0), (0, 0), (0, 0), (0, 0), (0, 0), (0, 0), (7, 0), (14, 6), (0, 0), (0, 0), (0, 0), (0, 0), (0, 0), (0, 0), (7, 0), (14, 6), (0, 0), (0, 0), (0, 0), (0, 0), (0, 0), (0, 0), (5, 0), (11, 12), (11, 12), (11, 24), (15, 4), (18, 6), (1, 0), (11, 6), (11, 6), (1, 0), (11, 6), (11, 6), (1, 0), (11, 6), (11, 6), (1, 0), (11, 6), (11, 6), (7, 0), (14, 6), (0, 0), (0, 0), (0, 0), (0, 0), (0, 0), (0, 0), (7, 0), (14, 6), (0, 0), (0, 0), (0, 0), (0, 0), (0, 0), (0, 0), (7, 0), (14, 6), (0, 0), (0, 0), (0, 0), (0, 0), (0, 0), (0, 0), (7, 0), (14, 6), (0, 0), (0, 0), (0, 0), (0, 0), (0, 0), (0, 0), (7, 0), (14, 6), (0, 0), (0, 0), (0, 0), (0, 0), (0, 0), (0, 0), (7, 0), (14, 6), (0, 0), (0, 0), (0, 0), (0, 0), (0, 0), (0, 0), (6, 0), (4, 0), (18, 6), (16, 6), (7, 0), (14, 6), (0, 0), (0, 0), (0, 0), (0, 0), (0, 0), (0, 0), (2, 0), (11, 24), (7, 0), (14, 6), (0, 0), (0, 0), (0, 0), (0, 0), (0, 0), (0, 0), (2, 0), (11, 24), (7, 0), (14, 6), (0, 0), (0, 0), (0, 0), (0, 0), (0, 0), (0, 0), (2, 0), (11, 24), (7, 0), (14, 6), (0, 0), (0, 0), (0, 0), (0, 0), (0, 0), (0, 0), (2, 0), (11, 24), (7, 0), (14, 6), (0, 0), (0, 0), (0, 0), (0, 0), (0, 0), (0, 0), (2, 0), (11, 24), (7, 0), (14, 6), (0, 0), (0, 0), (0, 0), (0, 0), (0, 0), (0, 0), (2, 0), (11, 24), (17, 2), (13, 2), (4, 0), (7, 0), (14, 6), (0, 0), (0, 0), (0, 0), (0, 0), (0, 0), (0, 0), (11, 72), (6, 0), (4, 0), (18, 6), (16, 6), (7, 0), (14, 6), (0, 0), (0, 0), (0, 0), (0, 0), (0, 0), (0, 0), (2, 0), (11, 24), (7, 0), (14, 6), (0, 0), (0, 0), (0, 0), (0, 0), (0, 0), (0, 0), (2, 0), (11, 24), (7, 0), (14, 6), (0, 0), (0, 0), (0, 0), (0, 0), (0, 0), (0, 0), (2, 0), (11, 24), (7, 0), (14, 6), (0, 0), (0, 0), (0, 0), (0, 0), (0, 0), (0, 0), (2, 0), (11, 24), (7, 0), (14, 6), (0, 0), (0, 0), (0, 0), (0, 0), (0, 0), (0, 0), (2, 0), (11, 24), (7, 0), (14, 6), (0, 0), (0, 0), (0, 0), (0, 0), (0, 0), (0, 0), (2, 0), (11, 24), (6, 0), (4, 0), (18, 6), (16, 6), (7, 0), (14, 6), (0, 0), (0, 0), (0, 0), (0, 0), (0, 0), (0, 0), (2, 0), (11, 24), (7, 0), (14, 6), (0, 0), (0, 0), (0, 0), (0, 0), (0, 0), (0, 0), (2, 0), (11, 24), (7, 0), (14, 6), (0, 0), (0, 0), (0, 0), (0, 0), (0, 0), (0, 0), (2, 0), (11, 24), (7, 0), (14, 6), (0, 0), (0, 0), (0, 0), (0, 0), (0, 0), (0, 0), (2, 0), (11, 24), (7, 0), (14, 6), (0, 0), (0, 0), (0, 0), (0, 0), (0, 0), (0, 0), (2, 0), (11, 24), (7, 0), (14, 6), (0, 0), (0, 0), (0, 0), (0, 0), (0, 0), (0, 0), (2, 0), (11, 24), (9, 0), (11, 116), (11, 116), (11, 340), (11, 340), (11, 680), (11, 340), (12, 30), (12, 30), (12, 60), (13, 2), (11, 900), (12, 4), (12, 6)]
theorem nl_all (h : Nat) : m_nl (ops_all h) = q_nl := by
  unfold ops_all
  rw [m_nl_app, m_nl_app, m_nl_app, nl_X8, nl_X9]
  have : ∀ a b : List (Nat × Nat), a = b → a = b := fun _ _ h => h
  exact this _ _ (by decide +kernel)
def q_k (j : Nat) : Nat := (q_nl.getD j (0, 0)).1
def q_n (j : Nat) : Nat := (q_nl.getD j (0, 0)).2
theorem m_start_Z (h : Nat) : (∀ b, b ∈ (m_y2 h).1.1 ↔ (h ≤ b ∧ b < h + 355)) ∧ ∀ j, j < 355 → (m_y2 h).1.2.1 (h + j) = q_k j ∧ (m_y2 h).1.2.2 (h + j) = q_n j := by
  rw [m_y2_all]
  obtain ⟨h1, h2, -⟩ := m_rn_Z (ops_all h) (m_y0 h)
  rw [nl_all] at h1 h2
  have hlen : q_nl.length = 355 := by decide +kernel
  have hy : (m_y0 h).2.2 = h := rfl
  have hy1 : (m_y0 h).1.1 = [] := rfl
  rw [hlen, hy, hy1] at h1
  rw [hy] at h2
  refine ⟨fun b => (h1 b).trans ⟨fun q => q.elim (fun q => absurd q List.not_mem_nil) (fun q => q), fun q => Or.inr q⟩, fun j hj => ?_⟩
  have hl : q_nl[j]? = some (q_nl.getD j (0, 0)) := by
    have : j < q_nl.length := by rw [hlen]; exact hj
    rw [List.getD_eq_getElem?_getD, List.getElem?_eq_getElem this]; rfl
  exact h2 j _ hl
def q_rt : List (Nat × Nat × Nat) := [(0, 0, 1), (0, 1, 5), (0, 2, 71), (0, 3, 137), (0, 4, 201), (0, 5, 202), (0, 6, 203), (0, 7, 204), (0, 8, 212), (1, 0, 2), (1, 8, 3), (1, 9, 4), (5, 3, 6), (5, 4, 7), (5, 5, 8), (5, 7, 9), (5, 9, 10), (9, 0, 11), (9, 1, 14), (9, 2, 17), (9, 3, 20), (10, 0, 23), (10, 1, 31), (10, 2, 39), (10, 3, 47), (10, 4, 55), (10, 5, 63), (11, 3, 12), (11, 4, 13), (14, 3, 15), (14, 4, 16), (17, 3, 18), (17, 4, 19), (20, 3, 21), (20, 4, 22), (23, 6, 24), (24, 0, 25), (24, 1, 26), (24, 2, 27), (24, 3, 28), (24, 4, 29), (24, 5, 30), (31, 6, 32), (32, 0, 33), (32, 1, 34), (32, 2, 35), (32, 3, 36), (32, 4, 37), (32, 5, 38), (39, 6, 40), (40, 0, 41), (40, 1, 42), (40, 2, 43), (40, 3, 44), (40, 4, 45), (40, 5, 46), (47, 6, 48), (48, 0, 49), (48, 1, 50), (48, 2, 51), (48, 3, 52), (48, 4, 53), (48, 5, 54), (55, 6, 56), (56, 0, 57), (56, 1, 58), (56, 2, 59), (56, 3, 60), (56, 4, 61), (56, 5, 62), (63, 6, 64), (64, 0, 65), (64, 1, 66), (64, 2, 67), (64, 3, 68), (64, 4, 69), (64, 5, 70), (71, 3, 72), (71, 4, 73), (71, 5, 74), (71, 7, 75), (71, 9, 76), (75, 0, 77), (75, 1, 80), (75, 2, 83), (75, 3, 86), (76, 0, 89), (76, 1, 97), (76, 2, 105), (76, 3, 113), (76, 4, 121), (76, 5, 129), (77, 3, 78), (77, 4, 79), (80, 3, 81), (80, 4, 82), (83, 3, 84), (83, 4, 85), (86, 3, 87), (86, 4, 88), (89, 6, 90), (90, 0, 91), (90, 1, 92), (90, 2, 93), (90, 3, 94), (90, 4, 95), (90, 5, 96), (97, 6, 98), (98, 0, 99), (98, 1, 100), (98, 2, 101), (98, 3, 102), (98, 4, 103), (98, 5, 104), (105, 6, 106), (106, 0, 107), (106, 1, 108), (106, 2, 109), (106, 3, 110), (106, 4, 111), (106, 5, 112), (113, 6, 114), (114, 0, 115), (114, 1, 116), (114, 2, 117), (114, 3, 118), (114, 4, 119), (114, 5, 120), (121, 6, 122), (122, 0, 123), (122, 1, 124), (122, 2, 125), (122, 3, 126), (122, 4, 127), (122, 5, 128), (129, 6, 130), (130, 0, 131), (130, 1, 132), (130, 2, 133), (130, 3, 134), (130, 4, 135), (130, 5, 136), (137, 0, 138), (137, 3, 139), (137, 4, 140), (139, 0, 141), (139, 1, 151), (139, 2, 161), (139, 3, 171), (139, 4, 181), (139, 5, 191), (140, 0, 149), (140, 1, 159), (140, 2, 169), (140, 3, 179), (140, 4, 189), (140, 5, 199), (141, 6, 142), (142, 0, 143), (142, 1, 144), (142, 2, 145), (142, 3, 146), (142, 4, 147), (142, 5, 148), (149, 8, 150), (151, 6, 152), (152, 0, 153), (152, 1, 154), (152, 2, 155), (152, 3, 156), (152, 4, 157), (152, 5, 158), (159, 8, 160), (161, 6, 162), (162, 0, 163), (162, 1, 164), (162, 2, 165), (162, 3, 166), (162, 4, 167), (162, 5, 168), (169, 8, 170), (171, 6, 172), (172, 0, 173), (172, 1, 174), (172, 2, 175), (172, 3, 176), (172, 4, 177), (172, 5, 178), (179, 8, 180), (181, 6, 182), (182, 0, 183), (182, 1, 184), (182, 2, 185), (182, 3, 186), (182, 4, 187), (182, 5, 188), (189, 8, 190), (191, 6, 192), (192, 0, 193), (192, 1, 194), (192, 2, 195), (192, 3, 196), (192, 4, 197), (192, 5, 198), (199, 8, 200), (201, 0, 213), (201, 1, 277), (204, 6, 205), (205, 0, 206), (205, 1, 207), (205, 2, 208), (205, 3, 209), (205, 4, 210), (205, 5, 211), (213, 0, 214), (213, 3, 215), (213, 4, 216), (215, 0, 217), (215, 1, 227), (215, 2, 237), (215, 3, 247), (215, 4, 257), (215, 5, 267), (216, 0, 225), (216, 1, 235), (216, 2, 245), (216, 3, 255), (216, 4, 265), (216, 5, 275), (217, 6, 218), (218, 0, 219), (218, 1, 220), (218, 2, 221), (218, 3, 222), (218, 4, 223), (218, 5, 224), (225, 8, 226), (227, 6, 228), (228, 0, 229), (228, 1, 230), (228, 2, 231), (228, 3, 232), (228, 4, 233), (228, 5, 234), (235, 8, 236), (237, 6, 238), (238, 0, 239), (238, 1, 240), (238, 2, 241), (238, 3, 242), (238, 4, 243), (238, 5, 244), (245, 8, 246), (247, 6, 248), (248, 0, 249), (248, 1, 250), (248, 2, 251), (248, 3, 252), (248, 4, 253), (248, 5, 254), (255, 8, 256), (257, 6, 258), (258, 0, 259), (258, 1, 260), (258, 2, 261), (258, 3, 262), (258, 4, 263), (258, 5, 264), (265, 8, 266), (267, 6, 268), (268, 0, 269), (268, 1, 270), (268, 2, 271), (268, 3, 272), (268, 4, 273), (268, 5, 274), (275, 8, 276), (277, 0, 278), (277, 3, 279), (277, 4, 280), (279, 0, 281), (279, 1, 291), (279, 2, 301), (279, 3, 311), (279, 4, 321), (279, 5, 331), (280, 0, 289), (280, 1, 299), (280, 2, 309), (280, 3, 319), (280, 4, 329), (280, 5, 339), (281, 6, 282), (282, 0, 283), (282, 1, 284), (282, 2, 285), (282, 3, 286), (282, 4, 287), (282, 5, 288), (289, 8, 290), (291, 6, 292), (292, 0, 293), (292, 1, 294), (292, 2, 295), (292, 3, 296), (292, 4, 297), (292, 5, 298), (299, 8, 300), (301, 6, 302), (302, 0, 303), (302, 1, 304), (302, 2, 305), (302, 3, 306), (302, 4, 307), (302, 5, 308), (309, 8, 310), (311, 6, 312), (312, 0, 313), (312, 1, 314), (312, 2, 315), (312, 3, 316), (312, 4, 317), (312, 5, 318), (319, 8, 320), (321, 6, 322), (322, 0, 323), (322, 1, 324), (322, 2, 325), (322, 3, 326), (322, 4, 327), (322, 5, 328), (329, 8, 330), (331, 6, 332), (332, 0, 333), (332, 1, 334), (332, 2, 335), (332, 3, 336), (332, 4, 337), (332, 5, 338), (339, 8, 340), (341, 1, 342), (341, 2, 343), (341, 3, 344), (341, 4, 345), (341, 5, 346), (341, 6, 347), (341, 7, 348), (341, 8, 349), (341, 9, 350), (341, 10, 351), (341, 11, 352), (341, 21, 353), (341, 22, 354)]
theorem q_rt_ok : ∀ q ∈ q_rt, m_y00.2.1.2.2 q.1 q.2.1 = some q.2.2 := by decide +kernel
theorem q_rt_of {f : Nat → Nat → Option Nat} {a k v : Nat} (h : ∀ q ∈ q_rt, f q.1 q.2.1 = some q.2.2) (m : (a, k, v) ∈ q_rt) : f a k = some v := h (a, k, v) m
/-- a static reference at the start -/
theorem m_start_R (h : Nat) {a k v : Nat} (m : (a, k, v) ∈ q_rt) : (m_y2 h).2.1.2.2 (h + a) k = some (h + v) := by
  have e : (m_y2 h).2.1.2.2 (a + h) k = (m_y00.2.1.2.2 a k).map (· + h) := (m_start_sh h).2.2.2 a k
  have e9 := q_rt_of (f := m_y00.2.1.2.2) q_rt_ok m
  rw [e9] at e
  rw [Nat.add_comm h a, Nat.add_comm h v]
  exact e
