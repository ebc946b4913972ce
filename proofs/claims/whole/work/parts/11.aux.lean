theorem m_so1 {α : Type} {a r : α} (h : some a = some r) : r = a := (Option.some.inj h).symm
theorem m_so2 {α : Type} {a r : α} {S T : m_S} (h : some (a, S) = some (r, T)) : r = a ∧ T = S := by
  have h := Option.some.inj h
  exact ⟨(Prod.mk.inj h).1.symm, (Prod.mk.inj h).2.symm⟩
theorem m_zn {v : Int32} (h : v = 0 ∨ v = 1) : narrow .boolean (.int v) = .int v := by
  rcases h with rfl | rfl <;> decide
theorem r_dconst0 {x : m_X} {l9 : Launch} {own : String} {cc : ByteArray} {nL : Nat} {rm9 : Room} {Z : m_Z} {S : m_S} {k n pc q : Nat} {L : List (Nat × Value)} {st : List Value} (C : m_H x l9 own cc nL rm9) (d : decode cc pc = .ok (.dconst 0, 1)) (hq : pc + 1 = q) (h : m_G x Z S nL k n q L (.double FP.dconst0 :: st)) : m_G x Z S nL k n pc L st := by
  subst hq; obtain ⟨p, l, e, R, s, m, args9, below, meth, c, E, A, Q⟩ := x; obtain ⟨hx, hb, hml, hown, hts, hK, hA, hE, hlk, hR, hst, hl9⟩ := C; subst hb
  intro H locs ls hP hD hS hl
  exact lv_dconst0 hx rfl d (h H locs ls hP hD hS hl)
theorem m_n32 {r : UInt32} (h : isNaN32 r = false) : vf_n32 r := by
  unfold isNaN32 at h; unfold vf_n32
  exact UInt32.not_lt.mp (of_decide_eq_false h)
theorem m_n64 {r : UInt64} (h : isNaN64 r = false) : vf_n64 r := by
  unfold isNaN64 at h; unfold vf_n64
  exact UInt64.not_lt.mp (of_decide_eq_false h)
