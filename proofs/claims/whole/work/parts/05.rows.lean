theorem r_iconst {x : m_X} {l9 : Launch} {own : String} {cc : ByteArray} {nL : Nat} {rm : Room} {Z : m_Z} {S : m_S} {k n pc q : Nat} {L : List (Nat × Value)} {st : List Value} (C : m_H x l9 own cc nL rm) {i : Int} {v : Int32} (d : decode cc pc = .ok (.iconst i, 1)) (hv : Int32.ofInt i = v) (hq : pc + 1 = q) (h : m_G x Z S nL k n q L (.int v :: st)) : m_G x Z S nL k n pc L st := by
  subst hq; obtain ⟨p, l, e, R, s, m, args, below, meth, c, E, A, Q⟩ := x; obtain ⟨hx, hb, hml, hown, hts, hK, hA, hE, hlk, hR, hst, hl9⟩ := C; subst hb
  intro H locs ls hP hD hS hl
  exact lv_iconst hx rfl d hv (h H locs ls hP hD hS hl)
theorem r_bipush {x : m_X} {l9 : Launch} {own : String} {cc : ByteArray} {nL : Nat} {rm : Room} {Z : m_Z} {S : m_S} {k n pc q : Nat} {L : List (Nat × Value)} {st : List Value} (C : m_H x l9 own cc nL rm) {i : Int} {v : Int32} (d : decode cc pc = .ok (.bipush i, 2)) (hv : (Int8.ofInt i).toInt32 = v) (hq : pc + 2 = q) (h : m_G x Z S nL k n q L (.int v :: st)) : m_G x Z S nL k n pc L st := by
  subst hq; obtain ⟨p, l, e, R, s, m, args, below, meth, c, E, A, Q⟩ := x; obtain ⟨hx, hb, hml, hown, hts, hK, hA, hE, hlk, hR, hst, hl9⟩ := C; subst hb
  intro H locs ls hP hD hS hl
  exact lv_bipush hx rfl d hv (h H locs ls hP hD hS hl)
theorem r_sipush {x : m_X} {l9 : Launch} {own : String} {cc : ByteArray} {nL : Nat} {rm : Room} {Z : m_Z} {S : m_S} {k n pc q : Nat} {L : List (Nat × Value)} {st : List Value} (C : m_H x l9 own cc nL rm) {i : Int} {v : Int32} (d : decode cc pc = .ok (.sipush i, 3)) (hv : (Int16.ofInt i).toInt32 = v) (hq : pc + 3 = q) (h : m_G x Z S nL k n q L (.int v :: st)) : m_G x Z S nL k n pc L st := by
  subst hq; obtain ⟨p, l, e, R, s, m, args, below, meth, c, E, A, Q⟩ := x; obtain ⟨hx, hb, hml, hown, hts, hK, hA, hE, hlk, hR, hst, hl9⟩ := C; subst hb
  intro H locs ls hP hD hS hl
  exact lv_sipush hx rfl d hv (h H locs ls hP hD hS hl)
theorem r_lconst {x : m_X} {l9 : Launch} {own : String} {cc : ByteArray} {nL : Nat} {rm : Room} {Z : m_Z} {S : m_S} {k n pc q : Nat} {L : List (Nat × Value)} {st : List Value} (C : m_H x l9 own cc nL rm) {i : Fin 2} {v : Int64} (d : decode cc pc = .ok (.lconst i, 1)) (hv : Int64.ofNat (i : Nat) = v) (hq : pc + 1 = q) (h : m_G x Z S nL k n q L (.long v :: st)) : m_G x Z S nL k n pc L st := by
  subst hq; obtain ⟨p, l, e, R, s, m, args, below, meth, c, E, A, Q⟩ := x; obtain ⟨hx, hb, hml, hown, hts, hK, hA, hE, hlk, hR, hst, hl9⟩ := C; subst hb
  intro H locs ls hP hD hS hl
  exact lv_lconst hx rfl d hv (h H locs ls hP hD hS hl)
theorem r_ldc {x : m_X} {l9 : Launch} {own : String} {cc : ByteArray} {nL : Nat} {rm : Room} {Z : m_Z} {S : m_S} {k n pc q : Nat} {L : List (Nat × Value)} {st : List Value} (C : m_H x l9 own cc nL rm) {i : Nat} {v : Int32} (d : decode cc pc = .ok (.ldc i, 2)) (hw : Cond.constant own i v ∈ m_ws) (hq : pc + 2 = q) (h : m_G x Z S nL k n q L (.int v :: st)) : m_G x Z S nL k n pc L st := by
  subst hq; obtain ⟨p, l, e, R, s, m, args, below, meth, c, E, A, Q⟩ := x; obtain ⟨hx, hb, hml, hown, hts, hK, hA, hE, hlk, hR, hst, hl9⟩ := C; subst hb
  intro H locs ls hP hD hS hl
  exact lv_ldc hx rfl hown (hts _ hw) d (h H locs ls hP hD hS hl)
theorem r_ldc_w {x : m_X} {l9 : Launch} {own : String} {cc : ByteArray} {nL : Nat} {rm : Room} {Z : m_Z} {S : m_S} {k n pc q : Nat} {L : List (Nat × Value)} {st : List Value} (C : m_H x l9 own cc nL rm) {i : Nat} {v : Int32} (d : decode cc pc = .ok (.ldc_w i, 3)) (hw : Cond.constant own i v ∈ m_ws) (hq : pc + 3 = q) (h : m_G x Z S nL k n q L (.int v :: st)) : m_G x Z S nL k n pc L st := by
  subst hq; obtain ⟨p, l, e, R, s, m, args, below, meth, c, E, A, Q⟩ := x; obtain ⟨hx, hb, hml, hown, hts, hK, hA, hE, hlk, hR, hst, hl9⟩ := C; subst hb
  intro H locs ls hP hD hS hl
  exact lv_ldcw hx rfl hown (hts _ hw) d (h H locs ls hP hD hS hl)
theorem r_ldc2 {x : m_X} {l9 : Launch} {own : String} {cc : ByteArray} {nL : Nat} {rm : Room} {Z : m_Z} {S : m_S} {k n pc q : Nat} {L : List (Nat × Value)} {st : List Value} (C : m_H x l9 own cc nL rm) {i : Nat} {v : Int64} (d : decode cc pc = .ok (.ldc2_w i, 3)) (hw : Cond.constantLong own i v ∈ m_ws) (hq : pc + 3 = q) (h : m_G x Z S nL k n q L (.long v :: st)) : m_G x Z S nL k n pc L st := by
  subst hq; obtain ⟨p, l, e, R, s, m, args, below, meth, c, E, A, Q⟩ := x; obtain ⟨hx, hb, hml, hown, hts, hK, hA, hE, hlk, hR, hst, hl9⟩ := C; subst hb
  intro H locs ls hP hD hS hl
  exact lv_ldc2 hx rfl hown (hts _ hw) d (h H locs ls hP hD hS hl)
theorem r_iload_n {x : m_X} {l9 : Launch} {own : String} {cc : ByteArray} {nL : Nat} {rm : Room} {Z : m_Z} {S : m_S} {k n pc q : Nat} {L : List (Nat × Value)} {st : List Value} (C : m_H x l9 own cc nL rm) {i : Fin 4} {v : Int32} (j : Nat) (d : decode cc pc = .ok (.iload_n i, 1)) (hj : L[j]? = some ((i : Nat), .int v)) (hq : pc + 1 = q) (h : m_G x Z S nL k n q L (.int v :: st)) : m_G x Z S nL k n pc L st := by
  subst hq; obtain ⟨p, l, e, R, s, m, args, below, meth, c, E, A, Q⟩ := x; obtain ⟨hx, hb, hml, hown, hts, hK, hA, hE, hlk, hR, hst, hl9⟩ := C; subst hb
  intro H locs ls hP hD hS hl
  exact lv_iload_n hx rfl d rfl (lv_at hl j hj) (h H locs ls hP hD hS hl)
theorem r_iload {x : m_X} {l9 : Launch} {own : String} {cc : ByteArray} {nL : Nat} {rm : Room} {Z : m_Z} {S : m_S} {k n pc q : Nat} {L : List (Nat × Value)} {st : List Value} (C : m_H x l9 own cc nL rm) {i : Nat} {v : Int32} (j : Nat) (d : decode cc pc = .ok (.iload i, 2)) (hj : L[j]? = some (i, .int v)) (hq : pc + 2 = q) (h : m_G x Z S nL k n q L (.int v :: st)) : m_G x Z S nL k n pc L st := by
  subst hq; obtain ⟨p, l, e, R, s, m, args, below, meth, c, E, A, Q⟩ := x; obtain ⟨hx, hb, hml, hown, hts, hK, hA, hE, hlk, hR, hst, hl9⟩ := C; subst hb
  intro H locs ls hP hD hS hl
  exact lv_iload hx rfl d (lv_at hl j hj) (h H locs ls hP hD hS hl)
theorem r_istore_n {x : m_X} {l9 : Launch} {own : String} {cc : ByteArray} {nL : Nat} {rm : Room} {Z : m_Z} {S : m_S} {k n pc q : Nat} {L : List (Nat × Value)} {st : List Value} (C : m_H x l9 own cc nL rm) {i : Fin 4} {v : Int32} {L' : List (Nat × Value)} {i' : Nat} (d : decode cc pc = .ok (.istore_n i, 1)) (hi : (i : Nat) = i') (hL : (i' , Value.int v) :: L.filter (fun q => !(q.1 == i') && !(q.1 + 1 == i' && q.2.category == 2)) = L') (hn : i' < nL) (hq : pc + 1 = q) (h : m_G x Z S nL k n q L' st) : m_G x Z S nL k n pc L (.int v :: st) := by
  subst hq; obtain ⟨p, l, e, R, s, m, args, below, meth, c, E, A, Q⟩ := x; obtain ⟨hx, hb, hml, hown, hts, hK, hA, hE, hlk, hR, hst, hl9⟩ := C; subst hb
  intro H locs ls hP hD hS hl
  exact lv_istore_n hx rfl d hi hl hn hL (fun ls hl => h H locs ls hP hD hS hl)
theorem r_istore {x : m_X} {l9 : Launch} {own : String} {cc : ByteArray} {nL : Nat} {rm : Room} {Z : m_Z} {S : m_S} {k n pc q : Nat} {L : List (Nat × Value)} {st : List Value} (C : m_H x l9 own cc nL rm) {i' : Nat} {v : Int32} {L' : List (Nat × Value)} (d : decode cc pc = .ok (.istore i', 2)) (hL : (i' , Value.int v) :: L.filter (fun q => !(q.1 == i') && !(q.1 + 1 == i' && q.2.category == 2)) = L') (hn : i' < nL) (hq : pc + 2 = q) (h : m_G x Z S nL k n q L' st) : m_G x Z S nL k n pc L (.int v :: st) := by
  subst hq; obtain ⟨p, l, e, R, s, m, args, below, meth, c, E, A, Q⟩ := x; obtain ⟨hx, hb, hml, hown, hts, hK, hA, hE, hlk, hR, hst, hl9⟩ := C; subst hb
  intro H locs ls hP hD hS hl
  exact lv_istore hx rfl d hl hn hL (fun ls hl => h H locs ls hP hD hS hl)
theorem r_lload_n {x : m_X} {l9 : Launch} {own : String} {cc : ByteArray} {nL : Nat} {rm : Room} {Z : m_Z} {S : m_S} {k n pc q : Nat} {L : List (Nat × Value)} {st : List Value} (C : m_H x l9 own cc nL rm) {i : Fin 4} {v : Int64} (j : Nat) (d : decode cc pc = .ok (.lload_n i, 1)) (hj : L[j]? = some ((i : Nat), .long v)) (hq : pc + 1 = q) (h : m_G x Z S nL k n q L (.long v :: st)) : m_G x Z S nL k n pc L st := by
  subst hq; obtain ⟨p, l, e, R, s, m, args, below, meth, c, E, A, Q⟩ := x; obtain ⟨hx, hb, hml, hown, hts, hK, hA, hE, hlk, hR, hst, hl9⟩ := C; subst hb
  intro H locs ls hP hD hS hl
  exact lv_lload_n hx rfl d rfl (lv_at hl j hj) (h H locs ls hP hD hS hl)
theorem r_lload {x : m_X} {l9 : Launch} {own : String} {cc : ByteArray} {nL : Nat} {rm : Room} {Z : m_Z} {S : m_S} {k n pc q : Nat} {L : List (Nat × Value)} {st : List Value} (C : m_H x l9 own cc nL rm) {i : Nat} {v : Int64} (j : Nat) (d : decode cc pc = .ok (.lload i, 2)) (hj : L[j]? = some (i, .long v)) (hq : pc + 2 = q) (h : m_G x Z S nL k n q L (.long v :: st)) : m_G x Z S nL k n pc L st := by
  subst hq; obtain ⟨p, l, e, R, s, m, args, below, meth, c, E, A, Q⟩ := x; obtain ⟨hx, hb, hml, hown, hts, hK, hA, hE, hlk, hR, hst, hl9⟩ := C; subst hb
  intro H locs ls hP hD hS hl
  exact lv_lload hx rfl d (lv_at hl j hj) (h H locs ls hP hD hS hl)
theorem r_lstore_n {x : m_X} {l9 : Launch} {own : String} {cc : ByteArray} {nL : Nat} {rm : Room} {Z : m_Z} {S : m_S} {k n pc q : Nat} {L : List (Nat × Value)} {st : List Value} (C : m_H x l9 own cc nL rm) {i : Fin 4} {v : Int64} {L' : List (Nat × Value)} {i' : Nat} (d : decode cc pc = .ok (.lstore_n i, 1)) (hi : (i : Nat) = i') (hL : (i', Value.long v) :: L.filter (fun q => !(q.1 == i') && (!(q.1 == i' + 1) && !(q.1 + 1 == i' && q.2.category == 2))) = L') (hn : i' + 1 < nL) (hq : pc + 1 = q) (h : m_G x Z S nL k n q L' st) : m_G x Z S nL k n pc L (.long v :: st) := by
  subst hq; obtain ⟨p, l, e, R, s, m, args, below, meth, c, E, A, Q⟩ := x; obtain ⟨hx, hb, hml, hown, hts, hK, hA, hE, hlk, hR, hst, hl9⟩ := C; subst hb
  intro H locs ls hP hD hS hl
  exact lv_lstore_n hx rfl d hi hl hn hL (fun ls hl => h H locs ls hP hD hS hl)
theorem r_lstore {x : m_X} {l9 : Launch} {own : String} {cc : ByteArray} {nL : Nat} {rm : Room} {Z : m_Z} {S : m_S} {k n pc q : Nat} {L : List (Nat × Value)} {st : List Value} (C : m_H x l9 own cc nL rm) {i' : Nat} {v : Int64} {L' : List (Nat × Value)} (d : decode cc pc = .ok (.lstore i', 2)) (hL : (i', Value.long v) :: L.filter (fun q => !(q.1 == i') && (!(q.1 == i' + 1) && !(q.1 + 1 == i' && q.2.category == 2))) = L') (hn : i' + 1 < nL) (hq : pc + 2 = q) (h : m_G x Z S nL k n q L' st) : m_G x Z S nL k n pc L (.long v :: st) := by
  subst hq; obtain ⟨p, l, e, R, s, m, args, below, meth, c, E, A, Q⟩ := x; obtain ⟨hx, hb, hml, hown, hts, hK, hA, hE, hlk, hR, hst, hl9⟩ := C; subst hb
  intro H locs ls hP hD hS hl
  exact lv_lstore hx rfl d hl hn hL (fun ls hl => h H locs ls hP hD hS hl)
theorem r_aload_n {x : m_X} {l9 : Launch} {own : String} {cc : ByteArray} {nL : Nat} {rm : Room} {Z : m_Z} {S : m_S} {k n pc q : Nat} {L : List (Nat × Value)} {st : List Value} (C : m_H x l9 own cc nL rm) {i : Fin 4} {v : Nat} (j : Nat) (d : decode cc pc = .ok (.aload_n i, 1)) (hj : L[j]? = some ((i : Nat), .ref v)) (hq : pc + 1 = q) (h : m_G x Z S nL k n q L (.ref v :: st)) : m_G x Z S nL k n pc L st := by
  subst hq; obtain ⟨p, l, e, R, s, m, args, below, meth, c, E, A, Q⟩ := x; obtain ⟨hx, hb, hml, hown, hts, hK, hA, hE, hlk, hR, hst, hl9⟩ := C; subst hb
  intro H locs ls hP hD hS hl
  exact lv_aload_n hx rfl d rfl (lv_at hl j hj) (h H locs ls hP hD hS hl)
theorem r_aload {x : m_X} {l9 : Launch} {own : String} {cc : ByteArray} {nL : Nat} {rm : Room} {Z : m_Z} {S : m_S} {k n pc q : Nat} {L : List (Nat × Value)} {st : List Value} (C : m_H x l9 own cc nL rm) {i : Nat} {v : Nat} (j : Nat) (d : decode cc pc = .ok (.aload i, 2)) (hj : L[j]? = some (i, .ref v)) (hq : pc + 2 = q) (h : m_G x Z S nL k n q L (.ref v :: st)) : m_G x Z S nL k n pc L st := by
  subst hq; obtain ⟨p, l, e, R, s, m, args, below, meth, c, E, A, Q⟩ := x; obtain ⟨hx, hb, hml, hown, hts, hK, hA, hE, hlk, hR, hst, hl9⟩ := C; subst hb
  intro H locs ls hP hD hS hl
  exact lv_aload hx rfl d (lv_at hl j hj) (h H locs ls hP hD hS hl)
theorem r_astore_n {x : m_X} {l9 : Launch} {own : String} {cc : ByteArray} {nL : Nat} {rm : Room} {Z : m_Z} {S : m_S} {k n pc q : Nat} {L : List (Nat × Value)} {st : List Value} (C : m_H x l9 own cc nL rm) {i : Fin 4} {v : Nat} {L' : List (Nat × Value)} {i' : Nat} (d : decode cc pc = .ok (.astore_n i, 1)) (hi : (i : Nat) = i') (hL : (i' , Value.ref v) :: L.filter (fun q => !(q.1 == i') && !(q.1 + 1 == i' && q.2.category == 2)) = L') (hn : i' < nL) (hq : pc + 1 = q) (h : m_G x Z S nL k n q L' st) : m_G x Z S nL k n pc L (.ref v :: st) := by
  subst hq; obtain ⟨p, l, e, R, s, m, args, below, meth, c, E, A, Q⟩ := x; obtain ⟨hx, hb, hml, hown, hts, hK, hA, hE, hlk, hR, hst, hl9⟩ := C; subst hb
  intro H locs ls hP hD hS hl
  exact lv_astore_n hx rfl d hi hl hn hL (fun ls hl => h H locs ls hP hD hS hl)
theorem r_astore {x : m_X} {l9 : Launch} {own : String} {cc : ByteArray} {nL : Nat} {rm : Room} {Z : m_Z} {S : m_S} {k n pc q : Nat} {L : List (Nat × Value)} {st : List Value} (C : m_H x l9 own cc nL rm) {i' : Nat} {v : Nat} {L' : List (Nat × Value)} (d : decode cc pc = .ok (.astore i', 2)) (hL : (i' , Value.ref v) :: L.filter (fun q => !(q.1 == i') && !(q.1 + 1 == i' && q.2.category == 2)) = L') (hn : i' < nL) (hq : pc + 2 = q) (h : m_G x Z S nL k n q L' st) : m_G x Z S nL k n pc L (.ref v :: st) := by
  subst hq; obtain ⟨p, l, e, R, s, m, args, below, meth, c, E, A, Q⟩ := x; obtain ⟨hx, hb, hml, hown, hts, hK, hA, hE, hlk, hR, hst, hl9⟩ := C; subst hb
  intro H locs ls hP hD hS hl
  exact lv_astore hx rfl d hl hn hL (fun ls hl => h H locs ls hP hD hS hl)
theorem r_dload_n {x : m_X} {l9 : Launch} {own : String} {cc : ByteArray} {nL : Nat} {rm : Room} {Z : m_Z} {S : m_S} {k n pc q : Nat} {L : List (Nat × Value)} {st : List Value} (C : m_H x l9 own cc nL rm) {i : Fin 4} {v : UInt64} (j : Nat) (d : decode cc pc = .ok (.dload_n i, 1)) (hj : L[j]? = some ((i : Nat), .double v)) (hq : pc + 1 = q) (h : m_G x Z S nL k n q L (.double v :: st)) : m_G x Z S nL k n pc L st := by
  subst hq; obtain ⟨p, l, e, R, s, m, args, below, meth, c, E, A, Q⟩ := x; obtain ⟨hx, hb, hml, hown, hts, hK, hA, hE, hlk, hR, hst, hl9⟩ := C; subst hb
  intro H locs ls hP hD hS hl
  exact lv_dload_n hx rfl d rfl (lv_at hl j hj) (h H locs ls hP hD hS hl)
theorem r_dload {x : m_X} {l9 : Launch} {own : String} {cc : ByteArray} {nL : Nat} {rm : Room} {Z : m_Z} {S : m_S} {k n pc q : Nat} {L : List (Nat × Value)} {st : List Value} (C : m_H x l9 own cc nL rm) {i : Nat} {v : UInt64} (j : Nat) (d : decode cc pc = .ok (.dload i, 2)) (hj : L[j]? = some (i, .double v)) (hq : pc + 2 = q) (h : m_G x Z S nL k n q L (.double v :: st)) : m_G x Z S nL k n pc L st := by
  subst hq; obtain ⟨p, l, e, R, s, m, args, below, meth, c, E, A, Q⟩ := x; obtain ⟨hx, hb, hml, hown, hts, hK, hA, hE, hlk, hR, hst, hl9⟩ := C; subst hb
  intro H locs ls hP hD hS hl
  exact lv_dload hx rfl d (lv_at hl j hj) (h H locs ls hP hD hS hl)
theorem r_dstore_n {x : m_X} {l9 : Launch} {own : String} {cc : ByteArray} {nL : Nat} {rm : Room} {Z : m_Z} {S : m_S} {k n pc q : Nat} {L : List (Nat × Value)} {st : List Value} (C : m_H x l9 own cc nL rm) {i : Fin 4} {v : UInt64} {L' : List (Nat × Value)} {i' : Nat} (d : decode cc pc = .ok (.dstore_n i, 1)) (hi : (i : Nat) = i') (hL : (i', Value.double v) :: L.filter (fun q => !(q.1 == i') && (!(q.1 == i' + 1) && !(q.1 + 1 == i' && q.2.category == 2))) = L') (hn : i' + 1 < nL) (hq : pc + 1 = q) (h : m_G x Z S nL k n q L' st) : m_G x Z S nL k n pc L (.double v :: st) := by
  subst hq; obtain ⟨p, l, e, R, s, m, args, below, meth, c, E, A, Q⟩ := x; obtain ⟨hx, hb, hml, hown, hts, hK, hA, hE, hlk, hR, hst, hl9⟩ := C; subst hb
  intro H locs ls hP hD hS hl
  exact lv_dstore_n hx rfl d hi hl hn hL (fun ls hl => h H locs ls hP hD hS hl)
theorem r_dstore {x : m_X} {l9 : Launch} {own : String} {cc : ByteArray} {nL : Nat} {rm : Room} {Z : m_Z} {S : m_S} {k n pc q : Nat} {L : List (Nat × Value)} {st : List Value} (C : m_H x l9 own cc nL rm) {i' : Nat} {v : UInt64} {L' : List (Nat × Value)} (d : decode cc pc = .ok (.dstore i', 2)) (hL : (i', Value.double v) :: L.filter (fun q => !(q.1 == i') && (!(q.1 == i' + 1) && !(q.1 + 1 == i' && q.2.category == 2))) = L') (hn : i' + 1 < nL) (hq : pc + 2 = q) (h : m_G x Z S nL k n q L' st) : m_G x Z S nL k n pc L (.double v :: st) := by
  subst hq; obtain ⟨p, l, e, R, s, m, args, below, meth, c, E, A, Q⟩ := x; obtain ⟨hx, hb, hml, hown, hts, hK, hA, hE, hlk, hR, hst, hl9⟩ := C; subst hb
  intro H locs ls hP hD hS hl
  exact lv_dstore hx rfl d hl hn hL (fun ls hl => h H locs ls hP hD hS hl)
theorem r_iinc {x : m_X} {l9 : Launch} {own : String} {cc : ByteArray} {nL : Nat} {rm : Room} {Z : m_Z} {S : m_S} {k n pc q : Nat} {L : List (Nat × Value)} {st : List Value} (C : m_H x l9 own cc nL rm) {i' : Nat} {z : Int} {u v : Int32} {L' : List (Nat × Value)} (j : Nat) (d : decode cc pc = .ok (.iinc i' z, 3)) (hj : L[j]? = some (i', .int u)) (hv : u + Int32.ofInt z = v) (hL : (i', Value.int v) :: L.filter (fun q => !(q.1 == i') && !(q.1 + 1 == i' && q.2.category == 2)) = L') (hn : i' < nL) (hq : pc + 3 = q) (h : m_G x Z S nL k n q L' st) : m_G x Z S nL k n pc L st := by
  subst hq; obtain ⟨p, l, e, R, s, m, args, below, meth, c, E, A, Q⟩ := x; obtain ⟨hx, hb, hml, hown, hts, hK, hA, hE, hlk, hR, hst, hl9⟩ := C; subst hb
  intro H locs ls hP hD hS hl
  exact lv_iinc hx rfl d hl hj hv hn hL (fun ls hl => h H locs ls hP hD hS hl)
theorem r_iadd {x : m_X} {l9 : Launch} {own : String} {cc : ByteArray} {nL : Nat} {rm : Room} {Z : m_Z} {S : m_S} {k n pc q : Nat} {L : List (Nat × Value)} {st : List Value} (C : m_H x l9 own cc nL rm) {a b : Int32} (d : decode cc pc = .ok (.iadd, 1)) (hq : pc + 1 = q) (h : m_G x Z S nL k n q L (.int (a + b) :: st)) : m_G x Z S nL k n pc L (.int b :: .int a :: st) := by
  subst hq; obtain ⟨p, l, e, R, s, m, args, below, meth, c, E, A, Q⟩ := x; obtain ⟨hx, hb, hml, hown, hts, hK, hA, hE, hlk, hR, hst, hl9⟩ := C; subst hb
  intro H locs ls hP hD hS hl
  exact lv_iadd hx rfl d (h H locs ls hP hD hS hl)
theorem r_isub {x : m_X} {l9 : Launch} {own : String} {cc : ByteArray} {nL : Nat} {rm : Room} {Z : m_Z} {S : m_S} {k n pc q : Nat} {L : List (Nat × Value)} {st : List Value} (C : m_H x l9 own cc nL rm) {a b : Int32} (d : decode cc pc = .ok (.isub, 1)) (hq : pc + 1 = q) (h : m_G x Z S nL k n q L (.int (a - b) :: st)) : m_G x Z S nL k n pc L (.int b :: .int a :: st) := by
  subst hq; obtain ⟨p, l, e, R, s, m, args, below, meth, c, E, A, Q⟩ := x; obtain ⟨hx, hb, hml, hown, hts, hK, hA, hE, hlk, hR, hst, hl9⟩ := C; subst hb
  intro H locs ls hP hD hS hl
  exact lv_isub hx rfl d (h H locs ls hP hD hS hl)
theorem r_imul {x : m_X} {l9 : Launch} {own : String} {cc : ByteArray} {nL : Nat} {rm : Room} {Z : m_Z} {S : m_S} {k n pc q : Nat} {L : List (Nat × Value)} {st : List Value} (C : m_H x l9 own cc nL rm) {a b : Int32} (d : decode cc pc = .ok (.imul, 1)) (hq : pc + 1 = q) (h : m_G x Z S nL k n q L (.int (a * b) :: st)) : m_G x Z S nL k n pc L (.int b :: .int a :: st) := by
  subst hq; obtain ⟨p, l, e, R, s, m, args, below, meth, c, E, A, Q⟩ := x; obtain ⟨hx, hb, hml, hown, hts, hK, hA, hE, hlk, hR, hst, hl9⟩ := C; subst hb
  intro H locs ls hP hD hS hl
  exact lv_imul hx rfl d (h H locs ls hP hD hS hl)
theorem r_iand {x : m_X} {l9 : Launch} {own : String} {cc : ByteArray} {nL : Nat} {rm : Room} {Z : m_Z} {S : m_S} {k n pc q : Nat} {L : List (Nat × Value)} {st : List Value} (C : m_H x l9 own cc nL rm) {a b : Int32} (d : decode cc pc = .ok (.iand, 1)) (hq : pc + 1 = q) (h : m_G x Z S nL k n q L (.int (a &&& b) :: st)) : m_G x Z S nL k n pc L (.int b :: .int a :: st) := by
  subst hq; obtain ⟨p, l, e, R, s, m, args, below, meth, c, E, A, Q⟩ := x; obtain ⟨hx, hb, hml, hown, hts, hK, hA, hE, hlk, hR, hst, hl9⟩ := C; subst hb
  intro H locs ls hP hD hS hl
  exact lv_iand hx rfl d (h H locs ls hP hD hS hl)
theorem r_ior {x : m_X} {l9 : Launch} {own : String} {cc : ByteArray} {nL : Nat} {rm : Room} {Z : m_Z} {S : m_S} {k n pc q : Nat} {L : List (Nat × Value)} {st : List Value} (C : m_H x l9 own cc nL rm) {a b : Int32} (d : decode cc pc = .ok (.ior, 1)) (hq : pc + 1 = q) (h : m_G x Z S nL k n q L (.int (a ||| b) :: st)) : m_G x Z S nL k n pc L (.int b :: .int a :: st) := by
  subst hq; obtain ⟨p, l, e, R, s, m, args, below, meth, c, E, A, Q⟩ := x; obtain ⟨hx, hb, hml, hown, hts, hK, hA, hE, hlk, hR, hst, hl9⟩ := C; subst hb
  intro H locs ls hP hD hS hl
  exact lv_ior hx rfl d (h H locs ls hP hD hS hl)
theorem r_idiv {x : m_X} {l9 : Launch} {own : String} {cc : ByteArray} {nL : Nat} {rm : Room} {Z : m_Z} {S : m_S} {k n pc q : Nat} {L : List (Nat × Value)} {st : List Value} (C : m_H x l9 own cc nL rm) {a b : Int32} (d : decode cc pc = .ok (.idiv, 1)) (hne : ¬ b = 0) (hq : pc + 1 = q) (h : m_G x Z S nL k n q L (.int (a / b) :: st)) : m_G x Z S nL k n pc L (.int b :: .int a :: st) := by
  subst hq; obtain ⟨p, l, e, R, s, m, args, below, meth, c, E, A, Q⟩ := x; obtain ⟨hx, hb, hml, hown, hts, hK, hA, hE, hlk, hR, hst, hl9⟩ := C; subst hb
  intro H locs ls hP hD hS hl
  exact lv_idiv hx rfl d hne (h H locs ls hP hD hS hl)
theorem r_irem {x : m_X} {l9 : Launch} {own : String} {cc : ByteArray} {nL : Nat} {rm : Room} {Z : m_Z} {S : m_S} {k n pc q : Nat} {L : List (Nat × Value)} {st : List Value} (C : m_H x l9 own cc nL rm) {a b : Int32} (d : decode cc pc = .ok (.irem, 1)) (hne : ¬ b = 0) (hq : pc + 1 = q) (h : m_G x Z S nL k n q L (.int (a - a / b * b) :: st)) : m_G x Z S nL k n pc L (.int b :: .int a :: st) := by
  subst hq; obtain ⟨p, l, e, R, s, m, args, below, meth, c, E, A, Q⟩ := x; obtain ⟨hx, hb, hml, hown, hts, hK, hA, hE, hlk, hR, hst, hl9⟩ := C; subst hb
  intro H locs ls hP hD hS hl
  exact lv_irem hx rfl d hne (h H locs ls hP hD hS hl)
theorem r_ladd {x : m_X} {l9 : Launch} {own : String} {cc : ByteArray} {nL : Nat} {rm : Room} {Z : m_Z} {S : m_S} {k n pc q : Nat} {L : List (Nat × Value)} {st : List Value} (C : m_H x l9 own cc nL rm) {a b : Int64} (d : decode cc pc = .ok (.ladd, 1)) (hq : pc + 1 = q) (h : m_G x Z S nL k n q L (.long (a + b) :: st)) : m_G x Z S nL k n pc L (.long b :: .long a :: st) := by
  subst hq; obtain ⟨p, l, e, R, s, m, args, below, meth, c, E, A, Q⟩ := x; obtain ⟨hx, hb, hml, hown, hts, hK, hA, hE, hlk, hR, hst, hl9⟩ := C; subst hb
  intro H locs ls hP hD hS hl
  exact lv_ladd hx rfl d (h H locs ls hP hD hS hl)
theorem r_lsub {x : m_X} {l9 : Launch} {own : String} {cc : ByteArray} {nL : Nat} {rm : Room} {Z : m_Z} {S : m_S} {k n pc q : Nat} {L : List (Nat × Value)} {st : List Value} (C : m_H x l9 own cc nL rm) {a b : Int64} (d : decode cc pc = .ok (.lsub, 1)) (hq : pc + 1 = q) (h : m_G x Z S nL k n q L (.long (a - b) :: st)) : m_G x Z S nL k n pc L (.long b :: .long a :: st) := by
  subst hq; obtain ⟨p, l, e, R, s, m, args, below, meth, c, E, A, Q⟩ := x; obtain ⟨hx, hb, hml, hown, hts, hK, hA, hE, hlk, hR, hst, hl9⟩ := C; subst hb
  intro H locs ls hP hD hS hl
  exact lv_lsub hx rfl d (h H locs ls hP hD hS hl)
theorem r_lmul {x : m_X} {l9 : Launch} {own : String} {cc : ByteArray} {nL : Nat} {rm : Room} {Z : m_Z} {S : m_S} {k n pc q : Nat} {L : List (Nat × Value)} {st : List Value} (C : m_H x l9 own cc nL rm) {a b : Int64} (d : decode cc pc = .ok (.lmul, 1)) (hq : pc + 1 = q) (h : m_G x Z S nL k n q L (.long (a * b) :: st)) : m_G x Z S nL k n pc L (.long b :: .long a :: st) := by
  subst hq; obtain ⟨p, l, e, R, s, m, args, below, meth, c, E, A, Q⟩ := x; obtain ⟨hx, hb, hml, hown, hts, hK, hA, hE, hlk, hR, hst, hl9⟩ := C; subst hb
  intro H locs ls hP hD hS hl
  exact lv_lmul hx rfl d (h H locs ls hP hD hS hl)
theorem r_ldiv {x : m_X} {l9 : Launch} {own : String} {cc : ByteArray} {nL : Nat} {rm : Room} {Z : m_Z} {S : m_S} {k n pc q : Nat} {L : List (Nat × Value)} {st : List Value} (C : m_H x l9 own cc nL rm) {a b : Int64} (d : decode cc pc = .ok (.ldiv, 1)) (hne : ¬ b = 0) (hq : pc + 1 = q) (h : m_G x Z S nL k n q L (.long (a / b) :: st)) : m_G x Z S nL k n pc L (.long b :: .long a :: st) := by
  subst hq; obtain ⟨p, l, e, R, s, m, args, below, meth, c, E, A, Q⟩ := x; obtain ⟨hx, hb, hml, hown, hts, hK, hA, hE, hlk, hR, hst, hl9⟩ := C; subst hb
  intro H locs ls hP hD hS hl
  exact lv_ldiv hx rfl d hne (h H locs ls hP hD hS hl)
theorem r_ishr {x : m_X} {l9 : Launch} {own : String} {cc : ByteArray} {nL : Nat} {rm : Room} {Z : m_Z} {S : m_S} {k n pc q : Nat} {L : List (Nat × Value)} {st : List Value} (C : m_H x l9 own cc nL rm) {a b : Int32} (d : decode cc pc = .ok (.ishr, 1)) (hq : pc + 1 = q) (h : m_G x Z S nL k n q L (.int (a >>> (b &&& 31)) :: st)) : m_G x Z S nL k n pc L (.int b :: .int a :: st) := by
  subst hq; obtain ⟨p, l, e, R, s, m, args, below, meth, c, E, A, Q⟩ := x; obtain ⟨hx, hb, hml, hown, hts, hK, hA, hE, hlk, hR, hst, hl9⟩ := C; subst hb
  intro H locs ls hP hD hS hl
  exact lv_ishr hx rfl d (h H locs ls hP hD hS hl)
theorem r_iushr {x : m_X} {l9 : Launch} {own : String} {cc : ByteArray} {nL : Nat} {rm : Room} {Z : m_Z} {S : m_S} {k n pc q : Nat} {L : List (Nat × Value)} {st : List Value} (C : m_H x l9 own cc nL rm) {a b : Int32} (d : decode cc pc = .ok (.iushr, 1)) (hq : pc + 1 = q) (h : m_G x Z S nL k n q L (.int (a.toUInt32 >>> (b.toUInt32 &&& Int32.toUInt32 31)).toInt32 :: st)) : m_G x Z S nL k n pc L (.int b :: .int a :: st) := by
  subst hq; obtain ⟨p, l, e, R, s, m, args, below, meth, c, E, A, Q⟩ := x; obtain ⟨hx, hb, hml, hown, hts, hK, hA, hE, hlk, hR, hst, hl9⟩ := C; subst hb
  intro H locs ls hP hD hS hl
  exact lv_iushr hx rfl d rfl (h H locs ls hP hD hS hl)
theorem r_i2l {x : m_X} {l9 : Launch} {own : String} {cc : ByteArray} {nL : Nat} {rm : Room} {Z : m_Z} {S : m_S} {k n pc q : Nat} {L : List (Nat × Value)} {st : List Value} (C : m_H x l9 own cc nL rm) {a : Int32} (d : decode cc pc = .ok (.i2l, 1)) (hq : pc + 1 = q) (h : m_G x Z S nL k n q L (.long a.toInt64 :: st)) : m_G x Z S nL k n pc L (.int a :: st) := by
  subst hq; obtain ⟨p, l, e, R, s, m, args, below, meth, c, E, A, Q⟩ := x; obtain ⟨hx, hb, hml, hown, hts, hK, hA, hE, hlk, hR, hst, hl9⟩ := C; subst hb
  intro H locs ls hP hD hS hl
  exact lv_i2l hx rfl d rfl (h H locs ls hP hD hS hl)
theorem r_l2i {x : m_X} {l9 : Launch} {own : String} {cc : ByteArray} {nL : Nat} {rm : Room} {Z : m_Z} {S : m_S} {k n pc q : Nat} {L : List (Nat × Value)} {st : List Value} (C : m_H x l9 own cc nL rm) {a : Int64} (d : decode cc pc = .ok (.l2i, 1)) (hq : pc + 1 = q) (h : m_G x Z S nL k n q L (.int a.toInt32 :: st)) : m_G x Z S nL k n pc L (.long a :: st) := by
  subst hq; obtain ⟨p, l, e, R, s, m, args, below, meth, c, E, A, Q⟩ := x; obtain ⟨hx, hb, hml, hown, hts, hK, hA, hE, hlk, hR, hst, hl9⟩ := C; subst hb
  intro H locs ls hP hD hS hl
  exact lv_l2i hx rfl d rfl (h H locs ls hP hD hS hl)
theorem r_i2b {x : m_X} {l9 : Launch} {own : String} {cc : ByteArray} {nL : Nat} {rm : Room} {Z : m_Z} {S : m_S} {k n pc q : Nat} {L : List (Nat × Value)} {st : List Value} (C : m_H x l9 own cc nL rm) {a : Int32} (d : decode cc pc = .ok (.i2b, 1)) (hq : pc + 1 = q) (h : m_G x Z S nL k n q L (.int a.toInt8.toInt32 :: st)) : m_G x Z S nL k n pc L (.int a :: st) := by
  subst hq; obtain ⟨p, l, e, R, s, m, args, below, meth, c, E, A, Q⟩ := x; obtain ⟨hx, hb, hml, hown, hts, hK, hA, hE, hlk, hR, hst, hl9⟩ := C; subst hb
  intro H locs ls hP hD hS hl
  exact lv_i2b hx rfl d rfl (h H locs ls hP hD hS hl)
theorem r_i2f {x : m_X} {l9 : Launch} {own : String} {cc : ByteArray} {nL : Nat} {rm : Room} {Z : m_Z} {S : m_S} {k n pc q : Nat} {L : List (Nat × Value)} {st : List Value} (C : m_H x l9 own cc nL rm) {a : Int32} (d : decode cc pc = .ok (.i2f, 1)) (hq : pc + 1 = q) (h : m_G x Z S nL k n q L (.float (FP.i2f a) :: st)) : m_G x Z S nL k n pc L (.int a :: st) := by
  subst hq; obtain ⟨p, l, e, R, s, m, args, below, meth, c, E, A, Q⟩ := x; obtain ⟨hx, hb, hml, hown, hts, hK, hA, hE, hlk, hR, hst, hl9⟩ := C; subst hb
  intro H locs ls hP hD hS hl
  exact lv_i2f hx rfl d (h H locs ls hP hD hS hl)
theorem r_l2f {x : m_X} {l9 : Launch} {own : String} {cc : ByteArray} {nL : Nat} {rm : Room} {Z : m_Z} {S : m_S} {k n pc q : Nat} {L : List (Nat × Value)} {st : List Value} (C : m_H x l9 own cc nL rm) {a : Int64} (d : decode cc pc = .ok (.l2f, 1)) (hq : pc + 1 = q) (h : m_G x Z S nL k n q L (.float (FP.l2f a) :: st)) : m_G x Z S nL k n pc L (.long a :: st) := by
  subst hq; obtain ⟨p, l, e, R, s, m, args, below, meth, c, E, A, Q⟩ := x; obtain ⟨hx, hb, hml, hown, hts, hK, hA, hE, hlk, hR, hst, hl9⟩ := C; subst hb
  intro H locs ls hP hD hS hl
  exact lv_l2f hx rfl d (h H locs ls hP hD hS hl)
theorem r_i2d {x : m_X} {l9 : Launch} {own : String} {cc : ByteArray} {nL : Nat} {rm : Room} {Z : m_Z} {S : m_S} {k n pc q : Nat} {L : List (Nat × Value)} {st : List Value} (C : m_H x l9 own cc nL rm) {a : Int32} (d : decode cc pc = .ok (.i2d, 1)) (hq : pc + 1 = q) (h : m_G x Z S nL k n q L (.double (FP.i2d a) :: st)) : m_G x Z S nL k n pc L (.int a :: st) := by
  subst hq; obtain ⟨p, l, e, R, s, m, args, below, meth, c, E, A, Q⟩ := x; obtain ⟨hx, hb, hml, hown, hts, hK, hA, hE, hlk, hR, hst, hl9⟩ := C; subst hb
  intro H locs ls hP hD hS hl
  exact lv_i2d hx rfl d (h H locs ls hP hD hS hl)
theorem r_l2d {x : m_X} {l9 : Launch} {own : String} {cc : ByteArray} {nL : Nat} {rm : Room} {Z : m_Z} {S : m_S} {k n pc q : Nat} {L : List (Nat × Value)} {st : List Value} (C : m_H x l9 own cc nL rm) {a : Int64} (d : decode cc pc = .ok (.l2d, 1)) (hq : pc + 1 = q) (h : m_G x Z S nL k n q L (.double (FP.l2d a) :: st)) : m_G x Z S nL k n pc L (.long a :: st) := by
  subst hq; obtain ⟨p, l, e, R, s, m, args, below, meth, c, E, A, Q⟩ := x; obtain ⟨hx, hb, hml, hown, hts, hK, hA, hE, hlk, hR, hst, hl9⟩ := C; subst hb
  intro H locs ls hP hD hS hl
  exact lv_l2d hx rfl d (h H locs ls hP hD hS hl)
theorem r_fdiv {x : m_X} {l9 : Launch} {own : String} {cc : ByteArray} {nL : Nat} {rm : Room} {Z : m_Z} {S : m_S} {k n pc q : Nat} {L : List (Nat × Value)} {st : List Value} (C : m_H x l9 own cc nL rm) {a b : UInt32} (d : decode cc pc = .ok (.fdiv, 1)) (hne : vf_n32 (FP.fdiv a b)) (hq : pc + 1 = q) (h : m_G x Z S nL k n q L (.float (FP.fdiv a b) :: st)) : m_G x Z S nL k n pc L (.float b :: .float a :: st) := by
  subst hq; obtain ⟨p, l, e, R, s, m, args, below, meth, c, E, A, Q⟩ := x; obtain ⟨hx, hb, hml, hown, hts, hK, hA, hE, hlk, hR, hst, hl9⟩ := C; subst hb
  intro H locs ls hP hD hS hl
  exact lv_fdiv hx rfl d hne (h H locs ls hP hD hS hl)
theorem r_ddiv {x : m_X} {l9 : Launch} {own : String} {cc : ByteArray} {nL : Nat} {rm : Room} {Z : m_Z} {S : m_S} {k n pc q : Nat} {L : List (Nat × Value)} {st : List Value} (C : m_H x l9 own cc nL rm) {a b : UInt64} (d : decode cc pc = .ok (.ddiv, 1)) (hne : vf_n64 (FP.ddiv a b)) (hq : pc + 1 = q) (h : m_G x Z S nL k n q L (.double (FP.ddiv a b) :: st)) : m_G x Z S nL k n pc L (.double b :: .double a :: st) := by
  subst hq; obtain ⟨p, l, e, R, s, m, args, below, meth, c, E, A, Q⟩ := x; obtain ⟨hx, hb, hml, hown, hts, hK, hA, hE, hlk, hR, hst, hl9⟩ := C; subst hb
  intro H locs ls hP hD hS hl
  exact lv_ddiv hx rfl d hne (h H locs ls hP hD hS hl)
theorem r_f2d {x : m_X} {l9 : Launch} {own : String} {cc : ByteArray} {nL : Nat} {rm : Room} {Z : m_Z} {S : m_S} {k n pc q : Nat} {L : List (Nat × Value)} {st : List Value} (C : m_H x l9 own cc nL rm) {a : UInt32} (d : decode cc pc = .ok (.f2d, 1)) (hne : vf_n64 (FP.f2d a)) (hq : pc + 1 = q) (h : m_G x Z S nL k n q L (.double (FP.f2d a) :: st)) : m_G x Z S nL k n pc L (.float a :: st) := by
  subst hq; obtain ⟨p, l, e, R, s, m, args, below, meth, c, E, A, Q⟩ := x; obtain ⟨hx, hb, hml, hown, hts, hK, hA, hE, hlk, hR, hst, hl9⟩ := C; subst hb
  intro H locs ls hP hD hS hl
  exact lv_f2d hx rfl d hne (h H locs ls hP hD hS hl)
theorem r_lcmp {x : m_X} {l9 : Launch} {own : String} {cc : ByteArray} {nL : Nat} {rm : Room} {Z : m_Z} {S : m_S} {k n pc q : Nat} {L : List (Nat × Value)} {st : List Value} (C : m_H x l9 own cc nL rm) {a b : Int64} (d : decode cc pc = .ok (.lcmp, 1)) (hq : pc + 1 = q) (h : m_G x Z S nL k n q L (.int (lg_cmp a b) :: st)) : m_G x Z S nL k n pc L (.long b :: .long a :: st) := by
  subst hq; obtain ⟨p, l, e, R, s, m, args, below, meth, c, E, A, Q⟩ := x; obtain ⟨hx, hb, hml, hown, hts, hK, hA, hE, hlk, hR, hst, hl9⟩ := C; subst hb
  intro H locs ls hP hD hS hl
  exact W.lcmp hx rfl d (h H locs ls hP hD hS hl)
theorem r_dcmp {x : m_X} {l9 : Launch} {own : String} {cc : ByteArray} {nL : Nat} {rm : Room} {Z : m_Z} {S : m_S} {k n pc q : Nat} {L : List (Nat × Value)} {st : List Value} (C : m_H x l9 own cc nL rm) {a b : UInt64} {o : CmpOp} (d : decode cc pc = .ok (.dcmp o, 1)) (hq : pc + 1 = q) (h : m_G x Z S nL k n q L (.int (Op.cmpValue (FP.dcmp a b) o) :: st)) : m_G x Z S nL k n pc L (.double b :: .double a :: st) := by
  subst hq; obtain ⟨p, l, e, R, s, m, args, below, meth, c, E, A, Q⟩ := x; obtain ⟨hx, hb, hml, hown, hts, hK, hA, hE, hlk, hR, hst, hl9⟩ := C; subst hb
  intro H locs ls hP hD hS hl
  exact lv_dcmp hx rfl d (h H locs ls hP hD hS hl)
theorem r_dup {x : m_X} {l9 : Launch} {own : String} {cc : ByteArray} {nL : Nat} {rm : Room} {Z : m_Z} {S : m_S} {k n pc q : Nat} {L : List (Nat × Value)} {st : List Value} (C : m_H x l9 own cc nL rm) {v : Value} (d : decode cc pc = .ok (.dup, 1)) (hc : v.category = 1) (hq : pc + 1 = q) (h : m_G x Z S nL k n q L (v :: v :: st)) : m_G x Z S nL k n pc L (v :: st) := by
  subst hq; obtain ⟨p, l, e, R, s, m, args, below, meth, c, E, A, Q⟩ := x; obtain ⟨hx, hb, hml, hown, hts, hK, hA, hE, hlk, hR, hst, hl9⟩ := C; subst hb
  intro H locs ls hP hD hS hl
  exact lv_dup hx rfl d hc (h H locs ls hP hD hS hl)
theorem r_pop {x : m_X} {l9 : Launch} {own : String} {cc : ByteArray} {nL : Nat} {rm : Room} {Z : m_Z} {S : m_S} {k n pc q : Nat} {L : List (Nat × Value)} {st : List Value} (C : m_H x l9 own cc nL rm) {v : Value} (d : decode cc pc = .ok (.pop, 1)) (hc : v.category = 1) (hq : pc + 1 = q) (h : m_G x Z S nL k n q L st) : m_G x Z S nL k n pc L (v :: st) := by
  subst hq; obtain ⟨p, l, e, R, s, m, args, below, meth, c, E, A, Q⟩ := x; obtain ⟨hx, hb, hml, hown, hts, hK, hA, hE, hlk, hR, hst, hl9⟩ := C; subst hb
  intro H locs ls hP hD hS hl
  exact lv_pop hx rfl d hc (h H locs ls hP hD hS hl)
theorem r_dup2 {x : m_X} {l9 : Launch} {own : String} {cc : ByteArray} {nL : Nat} {rm : Room} {Z : m_Z} {S : m_S} {k n pc q : Nat} {L : List (Nat × Value)} {st : List Value} (C : m_H x l9 own cc nL rm) {u v : Value} (d : decode cc pc = .ok (.dup2, 1)) (hu : u.category = 1) (hv : v.category = 1) (hq : pc + 1 = q) (h : m_G x Z S nL k n q L (u :: v :: u :: v :: st)) : m_G x Z S nL k n pc L (u :: v :: st) := by
  subst hq; obtain ⟨p, l, e, R, s, m, args, below, meth, c, E, A, Q⟩ := x; obtain ⟨hx, hb, hml, hown, hts, hK, hA, hE, hlk, hR, hst, hl9⟩ := C; subst hb
  intro H locs ls hP hD hS hl
  exact lv_dup2_11 hx rfl d hu hv (h H locs ls hP hD hS hl)
theorem r_dup2l {x : m_X} {l9 : Launch} {own : String} {cc : ByteArray} {nL : Nat} {rm : Room} {Z : m_Z} {S : m_S} {k n pc q : Nat} {L : List (Nat × Value)} {st : List Value} (C : m_H x l9 own cc nL rm) {u : Value} (d : decode cc pc = .ok (.dup2, 1)) (hu : u.category = 2) (hq : pc + 1 = q) (h : m_G x Z S nL k n q L (u :: u :: st)) : m_G x Z S nL k n pc L (u :: st) := by
  subst hq; obtain ⟨p, l, e, R, s, m, args, below, meth, c, E, A, Q⟩ := x; obtain ⟨hx, hb, hml, hown, hts, hK, hA, hE, hlk, hR, hst, hl9⟩ := C; subst hb
  intro H locs ls hP hD hS hl
  exact lv_dup2_2 hx rfl d hu (h H locs ls hP hD hS hl)
theorem r_dup_x1 {x : m_X} {l9 : Launch} {own : String} {cc : ByteArray} {nL : Nat} {rm : Room} {Z : m_Z} {S : m_S} {k n pc q : Nat} {L : List (Nat × Value)} {st : List Value} (C : m_H x l9 own cc nL rm) {u v : Value} (d : decode cc pc = .ok (.dup_x1, 1)) (hu : u.category = 1) (hv : v.category = 1) (hq : pc + 1 = q) (h : m_G x Z S nL k n q L (u :: v :: u :: st)) : m_G x Z S nL k n pc L (u :: v :: st) := by
  subst hq; obtain ⟨p, l, e, R, s, m, args, below, meth, c, E, A, Q⟩ := x; obtain ⟨hx, hb, hml, hown, hts, hK, hA, hE, hlk, hR, hst, hl9⟩ := C; subst hb
  intro H locs ls hP hD hS hl
  exact lv_dup_x1 hx rfl d hu hv (h H locs ls hP hD hS hl)
theorem r_null {x : m_X} {l9 : Launch} {own : String} {cc : ByteArray} {nL : Nat} {rm : Room} {Z : m_Z} {S : m_S} {k n pc q : Nat} {L : List (Nat × Value)} {st : List Value} (C : m_H x l9 own cc nL rm)  (d : decode cc pc = .ok (.aconst_null, 1)) (hq : pc + 1 = q) (h : m_G x Z S nL k n q L (.null :: st)) : m_G x Z S nL k n pc L st := by
  subst hq; obtain ⟨p, l, e, R, s, m, args, below, meth, c, E, A, Q⟩ := x; obtain ⟨hx, hb, hml, hown, hts, hK, hA, hE, hlk, hR, hst, hl9⟩ := C; subst hb
  intro H locs ls hP hD hS hl
  exact lv_null hx rfl d (h H locs ls hP hD hS hl)
theorem r_icmp_eq {x : m_X} {l9 : Launch} {own : String} {cc : ByteArray} {nL : Nat} {rm : Room} {Z : m_Z} {S : m_S} {k n pc q : Nat} {L : List (Nat × Value)} {st : List Value} {t : Nat} {a b : Int32} {off : Int} (C : m_H x l9 own cc nL rm) (d : decode cc pc = .ok (.if_icmp .eq off, 3)) (ht : (pc : Int) + off = (t : Int)) (hq : pc + 3 = q) (h1 : a = b → m_G x Z S nL k n t L st) (h0 : ¬ a = b → m_G x Z S nL k n q L st) : m_G x Z S nL k n pc L (.int b :: .int a :: st) := by
  subst hq; obtain ⟨p, l, e, R, s, m, args, below, meth, c, E, A, Q⟩ := x; obtain ⟨hx, hb, hml, hown, hts, hK, hA, hE, hlk, hR, hst, hl9⟩ := C; subst hb
  intro H locs ls hP hD hS hl
  exact lv_icmp_eq hx rfl d ht (fun hc => h1 hc H locs ls hP hD hS hl) (fun hc => h0 hc H locs ls hP hD hS hl)
theorem r_if_eq {x : m_X} {l9 : Launch} {own : String} {cc : ByteArray} {nL : Nat} {rm : Room} {Z : m_Z} {S : m_S} {k n pc q : Nat} {L : List (Nat × Value)} {st : List Value} {t : Nat} {a : Int32} {off : Int} (C : m_H x l9 own cc nL rm) (d : decode cc pc = .ok (.ifCond .eq off, 3)) (ht : (pc : Int) + off = (t : Int)) (hq : pc + 3 = q) (h1 : a = 0 → m_G x Z S nL k n t L st) (h0 : ¬ a = 0 → m_G x Z S nL k n q L st) : m_G x Z S nL k n pc L (.int a :: st) := by
  subst hq; obtain ⟨p, l, e, R, s, m, args, below, meth, c, E, A, Q⟩ := x; obtain ⟨hx, hb, hml, hown, hts, hK, hA, hE, hlk, hR, hst, hl9⟩ := C; subst hb
  intro H locs ls hP hD hS hl
  exact lv_if_eq hx rfl d ht (fun hc => h1 hc H locs ls hP hD hS hl) (fun hc => h0 hc H locs ls hP hD hS hl)
theorem r_icmp_ne {x : m_X} {l9 : Launch} {own : String} {cc : ByteArray} {nL : Nat} {rm : Room} {Z : m_Z} {S : m_S} {k n pc q : Nat} {L : List (Nat × Value)} {st : List Value} {t : Nat} {a b : Int32} {off : Int} (C : m_H x l9 own cc nL rm) (d : decode cc pc = .ok (.if_icmp .ne off, 3)) (ht : (pc : Int) + off = (t : Int)) (hq : pc + 3 = q) (h1 : ¬ a = b → m_G x Z S nL k n t L st) (h0 : a = b → m_G x Z S nL k n q L st) : m_G x Z S nL k n pc L (.int b :: .int a :: st) := by
  subst hq; obtain ⟨p, l, e, R, s, m, args, below, meth, c, E, A, Q⟩ := x; obtain ⟨hx, hb, hml, hown, hts, hK, hA, hE, hlk, hR, hst, hl9⟩ := C; subst hb
  intro H locs ls hP hD hS hl
  exact lv_icmp_ne hx rfl d ht (fun hc => h1 hc H locs ls hP hD hS hl) (fun hc => h0 hc H locs ls hP hD hS hl)
theorem r_if_ne {x : m_X} {l9 : Launch} {own : String} {cc : ByteArray} {nL : Nat} {rm : Room} {Z : m_Z} {S : m_S} {k n pc q : Nat} {L : List (Nat × Value)} {st : List Value} {t : Nat} {a : Int32} {off : Int} (C : m_H x l9 own cc nL rm) (d : decode cc pc = .ok (.ifCond .ne off, 3)) (ht : (pc : Int) + off = (t : Int)) (hq : pc + 3 = q) (h1 : ¬ a = 0 → m_G x Z S nL k n t L st) (h0 : a = 0 → m_G x Z S nL k n q L st) : m_G x Z S nL k n pc L (.int a :: st) := by
  subst hq; obtain ⟨p, l, e, R, s, m, args, below, meth, c, E, A, Q⟩ := x; obtain ⟨hx, hb, hml, hown, hts, hK, hA, hE, hlk, hR, hst, hl9⟩ := C; subst hb
  intro H locs ls hP hD hS hl
  exact lv_if_ne hx rfl d ht (fun hc => h1 hc H locs ls hP hD hS hl) (fun hc => h0 hc H locs ls hP hD hS hl)
theorem r_icmp_lt {x : m_X} {l9 : Launch} {own : String} {cc : ByteArray} {nL : Nat} {rm : Room} {Z : m_Z} {S : m_S} {k n pc q : Nat} {L : List (Nat × Value)} {st : List Value} {t : Nat} {a b : Int32} {off : Int} (C : m_H x l9 own cc nL rm) (d : decode cc pc = .ok (.if_icmp .lt off, 3)) (ht : (pc : Int) + off = (t : Int)) (hq : pc + 3 = q) (h1 : a < b → m_G x Z S nL k n t L st) (h0 : ¬ a < b → m_G x Z S nL k n q L st) : m_G x Z S nL k n pc L (.int b :: .int a :: st) := by
  subst hq; obtain ⟨p, l, e, R, s, m, args, below, meth, c, E, A, Q⟩ := x; obtain ⟨hx, hb, hml, hown, hts, hK, hA, hE, hlk, hR, hst, hl9⟩ := C; subst hb
  intro H locs ls hP hD hS hl
  exact lv_icmp_lt hx rfl d ht (fun hc => h1 hc H locs ls hP hD hS hl) (fun hc => h0 hc H locs ls hP hD hS hl)
theorem r_if_lt {x : m_X} {l9 : Launch} {own : String} {cc : ByteArray} {nL : Nat} {rm : Room} {Z : m_Z} {S : m_S} {k n pc q : Nat} {L : List (Nat × Value)} {st : List Value} {t : Nat} {a : Int32} {off : Int} (C : m_H x l9 own cc nL rm) (d : decode cc pc = .ok (.ifCond .lt off, 3)) (ht : (pc : Int) + off = (t : Int)) (hq : pc + 3 = q) (h1 : a < 0 → m_G x Z S nL k n t L st) (h0 : ¬ a < 0 → m_G x Z S nL k n q L st) : m_G x Z S nL k n pc L (.int a :: st) := by
  subst hq; obtain ⟨p, l, e, R, s, m, args, below, meth, c, E, A, Q⟩ := x; obtain ⟨hx, hb, hml, hown, hts, hK, hA, hE, hlk, hR, hst, hl9⟩ := C; subst hb
  intro H locs ls hP hD hS hl
  exact lv_if_lt hx rfl d ht (fun hc => h1 hc H locs ls hP hD hS hl) (fun hc => h0 hc H locs ls hP hD hS hl)
theorem r_icmp_ge {x : m_X} {l9 : Launch} {own : String} {cc : ByteArray} {nL : Nat} {rm : Room} {Z : m_Z} {S : m_S} {k n pc q : Nat} {L : List (Nat × Value)} {st : List Value} {t : Nat} {a b : Int32} {off : Int} (C : m_H x l9 own cc nL rm) (d : decode cc pc = .ok (.if_icmp .ge off, 3)) (ht : (pc : Int) + off = (t : Int)) (hq : pc + 3 = q) (h1 : b ≤ a → m_G x Z S nL k n t L st) (h0 : ¬ b ≤ a → m_G x Z S nL k n q L st) : m_G x Z S nL k n pc L (.int b :: .int a :: st) := by
  subst hq; obtain ⟨p, l, e, R, s, m, args, below, meth, c, E, A, Q⟩ := x; obtain ⟨hx, hb, hml, hown, hts, hK, hA, hE, hlk, hR, hst, hl9⟩ := C; subst hb
  intro H locs ls hP hD hS hl
  exact lv_icmp_ge hx rfl d ht (fun hc => h1 hc H locs ls hP hD hS hl) (fun hc => h0 hc H locs ls hP hD hS hl)
theorem r_if_ge {x : m_X} {l9 : Launch} {own : String} {cc : ByteArray} {nL : Nat} {rm : Room} {Z : m_Z} {S : m_S} {k n pc q : Nat} {L : List (Nat × Value)} {st : List Value} {t : Nat} {a : Int32} {off : Int} (C : m_H x l9 own cc nL rm) (d : decode cc pc = .ok (.ifCond .ge off, 3)) (ht : (pc : Int) + off = (t : Int)) (hq : pc + 3 = q) (h1 : 0 ≤ a → m_G x Z S nL k n t L st) (h0 : ¬ 0 ≤ a → m_G x Z S nL k n q L st) : m_G x Z S nL k n pc L (.int a :: st) := by
  subst hq; obtain ⟨p, l, e, R, s, m, args, below, meth, c, E, A, Q⟩ := x; obtain ⟨hx, hb, hml, hown, hts, hK, hA, hE, hlk, hR, hst, hl9⟩ := C; subst hb
  intro H locs ls hP hD hS hl
  exact lv_if_ge hx rfl d ht (fun hc => h1 hc H locs ls hP hD hS hl) (fun hc => h0 hc H locs ls hP hD hS hl)
theorem r_icmp_gt {x : m_X} {l9 : Launch} {own : String} {cc : ByteArray} {nL : Nat} {rm : Room} {Z : m_Z} {S : m_S} {k n pc q : Nat} {L : List (Nat × Value)} {st : List Value} {t : Nat} {a b : Int32} {off : Int} (C : m_H x l9 own cc nL rm) (d : decode cc pc = .ok (.if_icmp .gt off, 3)) (ht : (pc : Int) + off = (t : Int)) (hq : pc + 3 = q) (h1 : b < a → m_G x Z S nL k n t L st) (h0 : ¬ b < a → m_G x Z S nL k n q L st) : m_G x Z S nL k n pc L (.int b :: .int a :: st) := by
  subst hq; obtain ⟨p, l, e, R, s, m, args, below, meth, c, E, A, Q⟩ := x; obtain ⟨hx, hb, hml, hown, hts, hK, hA, hE, hlk, hR, hst, hl9⟩ := C; subst hb
  intro H locs ls hP hD hS hl
  exact lv_icmp_gt hx rfl d ht (fun hc => h1 hc H locs ls hP hD hS hl) (fun hc => h0 hc H locs ls hP hD hS hl)
theorem r_if_gt {x : m_X} {l9 : Launch} {own : String} {cc : ByteArray} {nL : Nat} {rm : Room} {Z : m_Z} {S : m_S} {k n pc q : Nat} {L : List (Nat × Value)} {st : List Value} {t : Nat} {a : Int32} {off : Int} (C : m_H x l9 own cc nL rm) (d : decode cc pc = .ok (.ifCond .gt off, 3)) (ht : (pc : Int) + off = (t : Int)) (hq : pc + 3 = q) (h1 : 0 < a → m_G x Z S nL k n t L st) (h0 : ¬ 0 < a → m_G x Z S nL k n q L st) : m_G x Z S nL k n pc L (.int a :: st) := by
  subst hq; obtain ⟨p, l, e, R, s, m, args, below, meth, c, E, A, Q⟩ := x; obtain ⟨hx, hb, hml, hown, hts, hK, hA, hE, hlk, hR, hst, hl9⟩ := C; subst hb
  intro H locs ls hP hD hS hl
  exact lv_if_gt hx rfl d ht (fun hc => h1 hc H locs ls hP hD hS hl) (fun hc => h0 hc H locs ls hP hD hS hl)
theorem r_icmp_le {x : m_X} {l9 : Launch} {own : String} {cc : ByteArray} {nL : Nat} {rm : Room} {Z : m_Z} {S : m_S} {k n pc q : Nat} {L : List (Nat × Value)} {st : List Value} {t : Nat} {a b : Int32} {off : Int} (C : m_H x l9 own cc nL rm) (d : decode cc pc = .ok (.if_icmp .le off, 3)) (ht : (pc : Int) + off = (t : Int)) (hq : pc + 3 = q) (h1 : a ≤ b → m_G x Z S nL k n t L st) (h0 : ¬ a ≤ b → m_G x Z S nL k n q L st) : m_G x Z S nL k n pc L (.int b :: .int a :: st) := by
  subst hq; obtain ⟨p, l, e, R, s, m, args, below, meth, c, E, A, Q⟩ := x; obtain ⟨hx, hb, hml, hown, hts, hK, hA, hE, hlk, hR, hst, hl9⟩ := C; subst hb
  intro H locs ls hP hD hS hl
  exact lv_icmp_le hx rfl d ht (fun hc => h1 hc H locs ls hP hD hS hl) (fun hc => h0 hc H locs ls hP hD hS hl)
theorem r_if_le {x : m_X} {l9 : Launch} {own : String} {cc : ByteArray} {nL : Nat} {rm : Room} {Z : m_Z} {S : m_S} {k n pc q : Nat} {L : List (Nat × Value)} {st : List Value} {t : Nat} {a : Int32} {off : Int} (C : m_H x l9 own cc nL rm) (d : decode cc pc = .ok (.ifCond .le off, 3)) (ht : (pc : Int) + off = (t : Int)) (hq : pc + 3 = q) (h1 : a ≤ 0 → m_G x Z S nL k n t L st) (h0 : ¬ a ≤ 0 → m_G x Z S nL k n q L st) : m_G x Z S nL k n pc L (.int a :: st) := by
  subst hq; obtain ⟨p, l, e, R, s, m, args, below, meth, c, E, A, Q⟩ := x; obtain ⟨hx, hb, hml, hown, hts, hK, hA, hE, hlk, hR, hst, hl9⟩ := C; subst hb
  intro H locs ls hP hD hS hl
  exact lv_if_le hx rfl d ht (fun hc => h1 hc H locs ls hP hD hS hl) (fun hc => h0 hc H locs ls hP hD hS hl)
theorem r_goto {x : m_X} {l9 : Launch} {own : String} {cc : ByteArray} {nL : Nat} {rm : Room} {Z : m_Z} {S : m_S} {k n pc : Nat} {L : List (Nat × Value)} {st : List Value} {t : Nat} {off : Int} (C : m_H x l9 own cc nL rm) (d : decode cc pc = .ok (.goto off, 3)) (ht : (pc : Int) + off = (t : Int)) (h : m_G x Z S nL k n t L st) : m_G x Z S nL k n pc L st := by
  obtain ⟨p, l, e, R, s, m, args, below, meth, c, E, A, Q⟩ := x; obtain ⟨hx, hb, hml, hown, hts, hK, hA, hE, hlk, hR, hst, hl9⟩ := C; subst hb
  intro H locs ls hP hD hS hl
  exact lv_goto hx rfl d ht (h H locs ls hP hD hS hl)
theorem r_nonnull {x : m_X} {l9 : Launch} {own : String} {cc : ByteArray} {nL : Nat} {rm : Room} {Z : m_Z} {S : m_S} {k n pc : Nat} {L : List (Nat × Value)} {st : List Value} {t a : Nat} {off : Int} (C : m_H x l9 own cc nL rm) (d : decode cc pc = .ok (.ifnonnull off, 3)) (ht : (pc : Int) + off = (t : Int)) (h : m_G x Z S nL k n t L st) : m_G x Z S nL k n pc L (.ref a :: st) := by
  obtain ⟨p, l, e, R, s, m, args, below, meth, c, E, A, Q⟩ := x; obtain ⟨hx, hb, hml, hown, hts, hK, hA, hE, hlk, hR, hst, hl9⟩ := C; subst hb
  intro H locs ls hP hD hS hl
  exact lv_ifnonnull hx rfl d ht (h H locs ls hP hD hS hl)
theorem r_sub {x : m_X} {nL : Nat} {Z : m_Z} {S : m_S} {k n pc : Nat} {L L' : List (Nat × Value)} {st : List Value} (ks : List Nat) (hL : lv_pick L ks = L') (h : m_G x Z S nL k n pc L' st) : m_G x Z S nL k n pc L st := by
  obtain ⟨p, l, e, R, s, m, args, below, meth, c, E, A, Q⟩ := x
  intro H locs ls hP hD hS hl
  exact h H locs ls hP hD hS (lv_sub hl ks hL)
theorem r_wid {x : m_X} {nL : Nat} {Z : m_Z} {S : m_S} {k n k' n' pc : Nat} {L : List (Nat × Value)} {st : List Value} (hk : k ≤ k') (hn : n ≤ n') (h : m_G x Z S nL k' n' pc L st) : m_G x Z S nL k n pc L st := by
  obtain ⟨p, l, e, R, s, m, args, below, meth, c, E, A, Q⟩ := x
  intro H locs ls hP hD hS hl
  exact W.widen hk hn (h H locs ls hP hD hS hl)
/-- a field is read -/
theorem r_get {x : m_X} {l9 : Launch} {own : String} {cc : ByteArray} {nL : Nat} {rm : Room} {Z : m_Z} {S : m_S} {k n pc q : Nat} {L : List (Nat × Value)} {st : List Value} {a ci f idx N : Nat} {CN : String} {T : u_T} {v : Value} (C : m_H x l9 own cc nL rm) (hc : vwCl[ci]? = some (CN, T, N)) (h10 : ci < 10) (hin : ∀ w ∈ u_ws CN T N, w ∈ m_ws) (hf : f < N) (hlk : Cond.fieldLink own idx CN (T f).2.1 (T f).2.2.1 ∈ m_ws) (hT : (T f).1 = CN) (hv : (m_fs ci S a)[f]? = some v) (d : decode cc pc = .ok (.getfield idx, 3)) (g : m_ok Z a ci) (hq : pc + 3 = q) (h : m_G x Z S nL k n q L (v :: st)) : m_G x Z S nL k n pc L (.ref a :: st) := by
  subst hq; obtain ⟨p, l, e, R, s, m, args, below, meth, c, E, A, Q⟩ := x; obtain ⟨hx, hb, hml, hown, hts, hK, hA, hE, hlk', hR, hst, hl9⟩ := C; subst hb
  intro H locs ls hP hD hS hl
  obtain ⟨i, hi⟩ := m_at (E := E) (S := S) g.1
  rw [m_cO g.2 h10] at hi
  exact va_get hx rfl hts hin hown hK hP i hi hc f hf (hts _ hlk) (fun y hy => by rw [← hT]; exact hy) hv d (h H locs ls hP hD hS hl)
theorem r_getN {x : m_X} {l9 : Launch} {own : String} {cc : ByteArray} {nL : Nat} {rm : Room} {Z : m_Z} {S : m_S} {k n pc q : Nat} {L : List (Nat × Value)} {st : List Value} {a ci f idx N : Nat} {CN : String} {T : u_T} {v : Value} (C : m_H x l9 own cc nL rm) (hc : vwCl[ci]? = some (CN, T, N)) (h10 : ci < 10) (hin : ∀ w ∈ u_ws CN T N, w ∈ m_ws) (hf : f < N) (hlk : (own, idx, CN, (T f).2.1, (T f).2.2.1) ∈ m_NF) (hT : (T f).1 = CN) (hv : (m_fs ci S a)[f]? = some v) (d : decode cc pc = .ok (.getfield idx, 3)) (g : m_ok Z a ci) (hq : pc + 3 = q) (h : m_G x Z S nL k n q L (v :: st)) : m_G x Z S nL k n pc L (.ref a :: st) := by
  subst hq; obtain ⟨p, l, e, R, s, m, args, below, meth, c, E, A, Q⟩ := x; obtain ⟨hx, hb, hml, hown, hts, hK, hA, hE, hlk', hR, hst, hl9⟩ := C; subst hb
  intro H locs ls hP hD hS hl
  obtain ⟨i, hi⟩ := m_at (E := E) (S := S) g.1
  rw [m_cO g.2 h10] at hi
  exact va_getN hx rfl hts hin hown hK hP i hi hc f hf (va_Nw.use rfl (hE.1 _ hlk)) (fun y hy => by rw [← hT]; exact hy) hv d (h H locs ls hP hD hS hl)

theorem r_put {x : m_X} {l9 : Launch} {own : String} {cc : ByteArray} {nL : Nat} {rm : Room} {Z : m_Z} {S : m_S} {k n pc q : Nat} {L : List (Nat × Value)} {st : List Value} {S' : m_S} {a ci f idx N : Nat} {CN : String} {T : u_T} {v : Value} {ty : FieldType} (C : m_H x l9 own cc nL rm) (ty0 : Nat → FieldType) (hc : vwCl[ci]? = some (CN, T, N)) (h10 : ci < 10) (hin : ∀ w ∈ u_ws CN T N, w ∈ m_ws) (hty : ∀ k, k < N → parseFieldDescriptor (T k).2.2.1 = some (ty0 k)) (hnm : ∀ a, a < N → ∀ b, b < N → a ≠ b → (T a).2.1 ≠ (T b).2.1) (hf : f < N) (hlk : Cond.fieldLink own idx CN (T f).2.1 (T f).2.2.1 ∈ m_ws) (hT : (T f).1 = CN) (hfin : (T f).2.2.2 = false) (hd : parseFieldDescriptor (T f).2.2.1 = some ty) (hn : narrow ty v = v) (hfit : fits ty v = true) (hlen : f < (m_fs ci S a).length) (hset : (m_fs ci S a).set f v = m_fs ci S' a) (hoth : ∀ cy b, b ≠ a → m_cell cy Z S' b = m_cell cy Z S b) (d : decode cc pc = .ok (.putfield idx, 3)) (g : m_ok Z a ci) (hq : pc + 3 = q) (h : m_G x Z S' nL k n q L st) : m_G x Z S nL k n pc L (v :: .ref a :: st) := by
  subst hq; obtain ⟨p, l, e, R, s, m, args, below, meth, c, E, A, Q⟩ := x; obtain ⟨hx, hb, hml, hown, hts, hK, hA, hE, hlk', hR, hst, hl9⟩ := C; subst hb
  intro H locs ls hP hD hS hl
  obtain ⟨i, hi⟩ := m_at (E := E) (S := S) g.1
  have hi' := hi
  rw [m_cO g.2 h10] at hi
  have e1 : (m_w E Z S).set i (a, .inr (ci, (m_fs ci S a).set f v)) = m_w E Z S' := m_set hD g.1 hi' (by rw [hset, m_cO g.2 h10]) (hoth _)
  exact va_put hx rfl hts hin ty0 hty hnm hown hK hP hD hS i hi hc f hf (hts _ hlk) (fun y hy => by rw [← hT]; exact hy) hfin hd hn hfit hlen d (fun H1 locs1 h1 h2 h3 => h H1 locs1 ls (by rw [← e1]; exact h1) (by rw [← e1]; exact h2) h3 hl)

theorem r_putF {x : m_X} {l9 : Launch} {own : String} {cc : ByteArray} {nL : Nat} {rm : Room} {Z : m_Z} {S : m_S} {k n pc q : Nat} {L : List (Nat × Value)} {st : List Value} {S' : m_S} {a ci f idx N : Nat} {CN : String} {T : u_T} {v : Value} {ty : FieldType} (C : m_H x l9 own cc nL rm) (ty0 : Nat → FieldType) (hc : vwCl[ci]? = some (CN, T, N)) (h10 : ci < 10) (hin : ∀ w ∈ u_ws CN T N, w ∈ m_ws) (hty : ∀ k, k < N → parseFieldDescriptor (T k).2.2.1 = some (ty0 k)) (hnm : ∀ a, a < N → ∀ b, b < N → a ≠ b → (T a).2.1 ≠ (T b).2.1) (hf : f < N) (hlk : Cond.fieldLink own idx CN (T f).2.1 (T f).2.2.1 ∈ m_ws) (hT : (T f).1 = CN) (hfin : (T f).2.2.2 = true) (hini : x.2.2.2.2.2.2.2.2.1.name = "<init>") (hown9 : CN = own) (hd : parseFieldDescriptor (T f).2.2.1 = some ty) (hn : narrow ty v = v) (hfit : fits ty v = true) (hlen : f < (m_fs ci S a).length) (hset : (m_fs ci S a).set f v = m_fs ci S' a) (hoth : ∀ cy b, b ≠ a → m_cell cy Z S' b = m_cell cy Z S b) (d : decode cc pc = .ok (.putfield idx, 3)) (g : m_ok Z a ci) (hq : pc + 3 = q) (h : m_G x Z S' nL k n q L st) : m_G x Z S nL k n pc L (v :: .ref a :: st) := by
  subst hq; obtain ⟨p, l, e, R, s, m, args, below, meth, c, E, A, Q⟩ := x; obtain ⟨hx, hb, hml, hown, hts, hK, hA, hE, hlk', hR, hst, hl9⟩ := C; subst hb
  intro H locs ls hP hD hS hl
  obtain ⟨i, hi⟩ := m_at (E := E) (S := S) g.1
  have hi' := hi
  rw [m_cO g.2 h10] at hi
  have e1 : (m_w E Z S).set i (a, .inr (ci, (m_fs ci S a).set f v)) = m_w E Z S' := m_set hD g.1 hi' (by rw [hset, m_cO g.2 h10]) (hoth _)
  exact va_putF hx rfl hts hin ty0 hty hnm hown hK hP hD hS i hi hc f hf (hts _ hlk) (fun y hy => by rw [← hT]; exact hy) hfin hini (hT.trans hown9) hd hn hfit hlen d (fun H1 locs1 h1 h2 h3 => h H1 locs1 ls (by rw [← e1]; exact h1) (by rw [← e1]; exact h2) h3 hl)

theorem r_putN {x : m_X} {l9 : Launch} {own : String} {cc : ByteArray} {nL : Nat} {rm : Room} {Z : m_Z} {S : m_S} {k n pc q : Nat} {L : List (Nat × Value)} {st : List Value} {S' : m_S} {a ci f idx N : Nat} {CN : String} {T : u_T} {v : Value} {ty : FieldType} (C : m_H x l9 own cc nL rm) (ty0 : Nat → FieldType) (hc : vwCl[ci]? = some (CN, T, N)) (h10 : ci < 10) (hin : ∀ w ∈ u_ws CN T N, w ∈ m_ws) (hty : ∀ k, k < N → parseFieldDescriptor (T k).2.2.1 = some (ty0 k)) (hnm : ∀ a, a < N → ∀ b, b < N → a ≠ b → (T a).2.1 ≠ (T b).2.1) (hf : f < N) (hlk : (own, idx, CN, (T f).2.1, (T f).2.2.1) ∈ m_NF) (hT : (T f).1 = CN) (hfin : (T f).2.2.2 = false) (hd : parseFieldDescriptor (T f).2.2.1 = some ty) (hn : narrow ty v = v) (hfit : fits ty v = true) (hlen : f < (m_fs ci S a).length) (hset : (m_fs ci S a).set f v = m_fs ci S' a) (hoth : ∀ cy b, b ≠ a → m_cell cy Z S' b = m_cell cy Z S b) (d : decode cc pc = .ok (.putfield idx, 3)) (g : m_ok Z a ci) (hq : pc + 3 = q) (h : m_G x Z S' nL k n q L st) : m_G x Z S nL k n pc L (v :: .ref a :: st) := by
  subst hq; obtain ⟨p, l, e, R, s, m, args, below, meth, c, E, A, Q⟩ := x; obtain ⟨hx, hb, hml, hown, hts, hK, hA, hE, hlk', hR, hst, hl9⟩ := C; subst hb
  intro H locs ls hP hD hS hl
  obtain ⟨i, hi⟩ := m_at (E := E) (S := S) g.1
  have hi' := hi
  rw [m_cO g.2 h10] at hi
  have e1 : (m_w E Z S).set i (a, .inr (ci, (m_fs ci S a).set f v)) = m_w E Z S' := m_set hD g.1 hi' (by rw [hset, m_cO g.2 h10]) (hoth _)
  exact va_putN hx rfl hts hin ty0 hty hnm hown hK hP hD hS i hi hc f hf (va_Nw.use rfl (hE.1 _ hlk)) (fun y hy => by rw [← hT]; exact hy) hfin hd hn hfit hlen d (fun H1 locs1 h1 h2 h3 => h H1 locs1 ls (by rw [← e1]; exact h1) (by rw [← e1]; exact h2) h3 hl)

theorem r_iald {x : m_X} {l9 : Launch} {own : String} {cc : ByteArray} {nL : Nat} {rm : Room} {Z : m_Z} {S : m_S} {k n pc q : Nat} {L : List (Nat × Value)} {st : List Value} {a : Nat} {i : Int32} (C : m_H x l9 own cc nL rm) (d : decode cc pc = .ok (.iaload, 1)) (g : m_ok Z a 11 ∧ m_in i (Z.2.2 a)) (hq : pc + 1 = q) (h : m_G x Z S nL k n q L (.int (S.1 a i.toNatClampNeg) :: st)) : m_G x Z S nL k n pc L (.int i :: .ref a :: st) := by
  subst hq; obtain ⟨p, l, e, R, s, m, args, below, meth, c, E, A, Q⟩ := x; obtain ⟨hx, hb, hml, hown, hts, hK, hA, hE, hlk', hR, hst, hl9⟩ := C; subst hb
  intro H locs ls hP hD hS hl
  obtain ⟨j, hj⟩ := m_at (E := E) (S := S) g.1.1
  rw [m_cA g.1.2 (by decide)] at hj
  exact va_iald hx rfl hK hP j 1 hj rfl g.2 d (h H locs ls hP hD hS hl)

theorem r_bald {x : m_X} {l9 : Launch} {own : String} {cc : ByteArray} {nL : Nat} {rm : Room} {Z : m_Z} {S : m_S} {k n pc q : Nat} {L : List (Nat × Value)} {st : List Value} {a : Nat} {i : Int32} (C : m_H x l9 own cc nL rm) (d : decode cc pc = .ok (.baload, 1)) (g : m_ok Z a 10 ∧ m_in i (Z.2.2 a)) (hq : pc + 1 = q) (h : m_G x Z S nL k n q L (.int (S.1 a i.toNatClampNeg) :: st)) : m_G x Z S nL k n pc L (.int i :: .ref a :: st) := by
  subst hq; obtain ⟨p, l, e, R, s, m, args, below, meth, c, E, A, Q⟩ := x; obtain ⟨hx, hb, hml, hown, hts, hK, hA, hE, hlk', hR, hst, hl9⟩ := C; subst hb
  intro H locs ls hP hD hS hl
  obtain ⟨j, hj⟩ := m_at (E := E) (S := S) g.1.1
  rw [m_cA g.1.2 (by decide)] at hj
  exact va_bald hx rfl hK hP j 0 hj rfl g.2 d (h H locs ls hP hD hS hl)

theorem r_zald {x : m_X} {l9 : Launch} {own : String} {cc : ByteArray} {nL : Nat} {rm : Room} {Z : m_Z} {S : m_S} {k n pc q : Nat} {L : List (Nat × Value)} {st : List Value} {a : Nat} {i : Int32} (C : m_H x l9 own cc nL rm) (d : decode cc pc = .ok (.baload, 1)) (g : m_ok Z a 13 ∧ m_in i (Z.2.2 a)) (hq : pc + 1 = q) (h : m_G x Z S nL k n q L (.int (S.1 a i.toNatClampNeg) :: st)) : m_G x Z S nL k n pc L (.int i :: .ref a :: st) := by
  subst hq; obtain ⟨p, l, e, R, s, m, args, below, meth, c, E, A, Q⟩ := x; obtain ⟨hx, hb, hml, hown, hts, hK, hA, hE, hlk', hR, hst, hl9⟩ := C; subst hb
  intro H locs ls hP hD hS hl
  obtain ⟨j, hj⟩ := m_at (E := E) (S := S) g.1.1
  rw [m_cA g.1.2 (by decide)] at hj
  exact va_zald hx rfl hK hP j 3 hj rfl g.2 d (h H locs ls hP hD hS hl)

theorem r_lald {x : m_X} {l9 : Launch} {own : String} {cc : ByteArray} {nL : Nat} {rm : Room} {Z : m_Z} {S : m_S} {k n pc q : Nat} {L : List (Nat × Value)} {st : List Value} {a : Nat} {i : Int32} (C : m_H x l9 own cc nL rm) (d : decode cc pc = .ok (.laload, 1)) (g : m_ok Z a 12 ∧ m_in i (Z.2.2 a)) (hq : pc + 1 = q) (h : m_G x Z S nL k n q L (.long (S.2.1 a i.toNatClampNeg) :: st)) : m_G x Z S nL k n pc L (.int i :: .ref a :: st) := by
  subst hq; obtain ⟨p, l, e, R, s, m, args, below, meth, c, E, A, Q⟩ := x; obtain ⟨hx, hb, hml, hown, hts, hK, hA, hE, hlk', hR, hst, hl9⟩ := C; subst hb
  intro H locs ls hP hD hS hl
  obtain ⟨j, hj⟩ := m_at (E := E) (S := S) g.1.1
  rw [m_cA g.1.2 (by decide)] at hj
  exact va_lald hx rfl hK hP j 2 hj rfl g.2 d (h H locs ls hP hD hS hl)

theorem r_dald {x : m_X} {l9 : Launch} {own : String} {cc : ByteArray} {nL : Nat} {rm : Room} {Z : m_Z} {S : m_S} {k n pc q : Nat} {L : List (Nat × Value)} {st : List Value} {a : Nat} {i : Int32} (C : m_H x l9 own cc nL rm) (d : decode cc pc = .ok (.daload, 1)) (g : m_ok Z a 19 ∧ m_in i (Z.2.2 a)) (hq : pc + 1 = q) (h : m_G x Z S nL k n q L (.double (S.2.1 a i.toNatClampNeg).toUInt64 :: st)) : m_G x Z S nL k n pc L (.int i :: .ref a :: st) := by
  subst hq; obtain ⟨p, l, e, R, s, m, args, below, meth, c, E, A, Q⟩ := x; obtain ⟨hx, hb, hml, hown, hts, hK, hA, hE, hlk', hR, hst, hl9⟩ := C; subst hb
  intro H locs ls hP hD hS hl
  obtain ⟨j, hj⟩ := m_at (E := E) (S := S) g.1.1
  rw [m_cA g.1.2 (by decide)] at hj
  exact va_dald hx rfl hK hP j 9 hj rfl g.2 d (h H locs ls hP hD hS hl)

theorem r_aald14 {x : m_X} {l9 : Launch} {own : String} {cc : ByteArray} {nL : Nat} {rm : Room} {Z : m_Z} {S : m_S} {k n pc q : Nat} {L : List (Nat × Value)} {st : List Value} {a b : Nat} {i : Int32} (C : m_H x l9 own cc nL rm) (d : decode cc pc = .ok (.aaload, 1)) (g : m_ok Z a 14 ∧ m_in i (Z.2.2 a)) (g2 : S.2.2 a i.toNatClampNeg = some b) (hq : pc + 1 = q) (h : m_G x Z S nL k n q L (.ref b :: st)) : m_G x Z S nL k n pc L (.int i :: .ref a :: st) := by
  subst hq; obtain ⟨p, l, e, R, s, m, args, below, meth, c, E, A, Q⟩ := x; obtain ⟨hx, hb, hml, hown, hts, hK, hA, hE, hlk', hR, hst, hl9⟩ := C; subst hb
  intro H locs ls hP hD hS hl
  obtain ⟨j, hj⟩ := m_at (E := E) (S := S) g.1.1
  rw [m_cA g.1.2 (by decide)] at hj
  refine va_aldq hx rfl hK hP j 4 (f := S.2.2 a) hj rfl g.2 d ?_
  rw [g2]
  exact h H locs ls hP hD hS hl

theorem r_aald15 {x : m_X} {l9 : Launch} {own : String} {cc : ByteArray} {nL : Nat} {rm : Room} {Z : m_Z} {S : m_S} {k n pc q : Nat} {L : List (Nat × Value)} {st : List Value} {a b : Nat} {i : Int32} (C : m_H x l9 own cc nL rm) (d : decode cc pc = .ok (.aaload, 1)) (g : m_ok Z a 15 ∧ m_in i (Z.2.2 a)) (g2 : S.2.2 a i.toNatClampNeg = some b) (hq : pc + 1 = q) (h : m_G x Z S nL k n q L (.ref b :: st)) : m_G x Z S nL k n pc L (.int i :: .ref a :: st) := by
  subst hq; obtain ⟨p, l, e, R, s, m, args, below, meth, c, E, A, Q⟩ := x; obtain ⟨hx, hb, hml, hown, hts, hK, hA, hE, hlk', hR, hst, hl9⟩ := C; subst hb
  intro H locs ls hP hD hS hl
  obtain ⟨j, hj⟩ := m_at (E := E) (S := S) g.1.1
  rw [m_cA g.1.2 (by decide)] at hj
  refine va_aldq hx rfl hK hP j 5 (f := S.2.2 a) hj rfl g.2 d ?_
  rw [g2]
  exact h H locs ls hP hD hS hl

theorem r_aald16 {x : m_X} {l9 : Launch} {own : String} {cc : ByteArray} {nL : Nat} {rm : Room} {Z : m_Z} {S : m_S} {k n pc q : Nat} {L : List (Nat × Value)} {st : List Value} {a b : Nat} {i : Int32} (C : m_H x l9 own cc nL rm) (d : decode cc pc = .ok (.aaload, 1)) (g : m_ok Z a 16 ∧ m_in i (Z.2.2 a)) (g2 : S.2.2 a i.toNatClampNeg = some b) (hq : pc + 1 = q) (h : m_G x Z S nL k n q L (.ref b :: st)) : m_G x Z S nL k n pc L (.int i :: .ref a :: st) := by
  subst hq; obtain ⟨p, l, e, R, s, m, args, below, meth, c, E, A, Q⟩ := x; obtain ⟨hx, hb, hml, hown, hts, hK, hA, hE, hlk', hR, hst, hl9⟩ := C; subst hb
  intro H locs ls hP hD hS hl
  obtain ⟨j, hj⟩ := m_at (E := E) (S := S) g.1.1
  rw [m_cA g.1.2 (by decide)] at hj
  refine va_aldq hx rfl hK hP j 6 (f := S.2.2 a) hj rfl g.2 d ?_
  rw [g2]
  exact h H locs ls hP hD hS hl

theorem r_aald17 {x : m_X} {l9 : Launch} {own : String} {cc : ByteArray} {nL : Nat} {rm : Room} {Z : m_Z} {S : m_S} {k n pc q : Nat} {L : List (Nat × Value)} {st : List Value} {a b : Nat} {i : Int32} (C : m_H x l9 own cc nL rm) (d : decode cc pc = .ok (.aaload, 1)) (g : m_ok Z a 17 ∧ m_in i (Z.2.2 a)) (g2 : S.2.2 a i.toNatClampNeg = some b) (hq : pc + 1 = q) (h : m_G x Z S nL k n q L (.ref b :: st)) : m_G x Z S nL k n pc L (.int i :: .ref a :: st) := by
  subst hq; obtain ⟨p, l, e, R, s, m, args, below, meth, c, E, A, Q⟩ := x; obtain ⟨hx, hb, hml, hown, hts, hK, hA, hE, hlk', hR, hst, hl9⟩ := C; subst hb
  intro H locs ls hP hD hS hl
  obtain ⟨j, hj⟩ := m_at (E := E) (S := S) g.1.1
  rw [m_cA g.1.2 (by decide)] at hj
  refine va_aldq hx rfl hK hP j 7 (f := S.2.2 a) hj rfl g.2 d ?_
  rw [g2]
  exact h H locs ls hP hD hS hl

theorem r_aald18 {x : m_X} {l9 : Launch} {own : String} {cc : ByteArray} {nL : Nat} {rm : Room} {Z : m_Z} {S : m_S} {k n pc q : Nat} {L : List (Nat × Value)} {st : List Value} {a b : Nat} {i : Int32} (C : m_H x l9 own cc nL rm) (d : decode cc pc = .ok (.aaload, 1)) (g : m_ok Z a 18 ∧ m_in i (Z.2.2 a)) (g2 : S.2.2 a i.toNatClampNeg = some b) (hq : pc + 1 = q) (h : m_G x Z S nL k n q L (.ref b :: st)) : m_G x Z S nL k n pc L (.int i :: .ref a :: st) := by
  subst hq; obtain ⟨p, l, e, R, s, m, args, below, meth, c, E, A, Q⟩ := x; obtain ⟨hx, hb, hml, hown, hts, hK, hA, hE, hlk', hR, hst, hl9⟩ := C; subst hb
  intro H locs ls hP hD hS hl
  obtain ⟨j, hj⟩ := m_at (E := E) (S := S) g.1.1
  rw [m_cA g.1.2 (by decide)] at hj
  refine va_aldq hx rfl hK hP j 8 (f := S.2.2 a) hj rfl g.2 d ?_
  rw [g2]
  exact h H locs ls hP hD hS hl

theorem r_iast {x : m_X} {l9 : Launch} {own : String} {cc : ByteArray} {nL : Nat} {rm : Room} {Z : m_Z} {S : m_S} {k n pc q : Nat} {L : List (Nat × Value)} {st : List Value} {a : Nat} {i : Int32} {v : Int32} (C : m_H x l9 own cc nL rm) (d : decode cc pc = .ok (.iastore, 1)) (g : m_ok Z a 11 ∧ m_in i (Z.2.2 a)) (hq : pc + 1 = q) (h : m_G x Z (m_pI S a i.toNatClampNeg v) nL k n q L st) : m_G x Z S nL k n pc L (.int v :: .int i :: .ref a :: st) := by
  subst hq; obtain ⟨p, l, e, R, s, m, args, below, meth, c, E, A, Q⟩ := x; obtain ⟨hx, hb, hml, hown, hts, hK, hA, hE, hlk', hR, hst, hl9⟩ := C; subst hb
  intro H locs ls hP hD hS hl
  obtain ⟨j, hj⟩ := m_at (E := E) (S := S) g.1.1
  have hj' := hj
  rw [m_cA g.1.2 (by decide)] at hj
  refine va_iast hx rfl hK hP hD hS j 1 hj rfl g.2 d (fun H1 locs1 h1 h2 h3 => ?_)
  rw [m_set (S' := m_pI S a i.toNatClampNeg v) hD g.1.1 hj' (by rw [m_cA g.1.2 (by decide)]; unfold m_ar; congr; funext z; simp only [upd, m_pI, m_pJ]; split <;> simp_all) m_cI] at h1 h2
  exact h H1 locs1 ls h1 h2 h3 hl

theorem r_bast {x : m_X} {l9 : Launch} {own : String} {cc : ByteArray} {nL : Nat} {rm : Room} {Z : m_Z} {S : m_S} {k n pc q : Nat} {L : List (Nat × Value)} {st : List Value} {a : Nat} {i : Int32} {v : Int32} (C : m_H x l9 own cc nL rm) (d : decode cc pc = .ok (.bastore, 1)) (g : m_ok Z a 10 ∧ m_in i (Z.2.2 a)) (hq : pc + 1 = q) (h : m_G x Z (m_pI S a i.toNatClampNeg (vp_nar .byte v)) nL k n q L st) : m_G x Z S nL k n pc L (.int v :: .int i :: .ref a :: st) := by
  subst hq; obtain ⟨p, l, e, R, s, m, args, below, meth, c, E, A, Q⟩ := x; obtain ⟨hx, hb, hml, hown, hts, hK, hA, hE, hlk', hR, hst, hl9⟩ := C; subst hb
  intro H locs ls hP hD hS hl
  obtain ⟨j, hj⟩ := m_at (E := E) (S := S) g.1.1
  have hj' := hj
  rw [m_cA g.1.2 (by decide)] at hj
  refine va_bast hx rfl hK hP hD hS j 0 hj rfl g.2 d (fun H1 locs1 h1 h2 h3 => ?_)
  rw [m_set (S' := m_pI S a i.toNatClampNeg (vp_nar .byte v)) hD g.1.1 hj' (by rw [m_cA g.1.2 (by decide)]; unfold m_ar; congr; funext z; simp only [upd, m_pI, m_pJ]; split <;> simp_all) m_cI] at h1 h2
  exact h H1 locs1 ls h1 h2 h3 hl

theorem r_zast {x : m_X} {l9 : Launch} {own : String} {cc : ByteArray} {nL : Nat} {rm : Room} {Z : m_Z} {S : m_S} {k n pc q : Nat} {L : List (Nat × Value)} {st : List Value} {a : Nat} {i : Int32} {v : Int32} (C : m_H x l9 own cc nL rm) (d : decode cc pc = .ok (.bastore, 1)) (g : m_ok Z a 13 ∧ m_in i (Z.2.2 a)) (hq : pc + 1 = q) (h : m_G x Z (m_pI S a i.toNatClampNeg (vp_nar .boolean v)) nL k n q L st) : m_G x Z S nL k n pc L (.int v :: .int i :: .ref a :: st) := by
  subst hq; obtain ⟨p, l, e, R, s, m, args, below, meth, c, E, A, Q⟩ := x; obtain ⟨hx, hb, hml, hown, hts, hK, hA, hE, hlk', hR, hst, hl9⟩ := C; subst hb
  intro H locs ls hP hD hS hl
  obtain ⟨j, hj⟩ := m_at (E := E) (S := S) g.1.1
  have hj' := hj
  rw [m_cA g.1.2 (by decide)] at hj
  refine va_zast hx rfl hK hP hD hS j 3 hj rfl g.2 d (fun H1 locs1 h1 h2 h3 => ?_)
  rw [m_set (S' := m_pI S a i.toNatClampNeg (vp_nar .boolean v)) hD g.1.1 hj' (by rw [m_cA g.1.2 (by decide)]; unfold m_ar; congr; funext z; simp only [upd, m_pI, m_pJ]; split <;> simp_all) m_cI] at h1 h2
  exact h H1 locs1 ls h1 h2 h3 hl

theorem r_last {x : m_X} {l9 : Launch} {own : String} {cc : ByteArray} {nL : Nat} {rm : Room} {Z : m_Z} {S : m_S} {k n pc q : Nat} {L : List (Nat × Value)} {st : List Value} {a : Nat} {i : Int32} {v : Int64} (C : m_H x l9 own cc nL rm) (d : decode cc pc = .ok (.lastore, 1)) (g : m_ok Z a 12 ∧ m_in i (Z.2.2 a)) (hq : pc + 1 = q) (h : m_G x Z (m_pJ S a i.toNatClampNeg v) nL k n q L st) : m_G x Z S nL k n pc L (.long v :: .int i :: .ref a :: st) := by
  subst hq; obtain ⟨p, l, e, R, s, m, args, below, meth, c, E, A, Q⟩ := x; obtain ⟨hx, hb, hml, hown, hts, hK, hA, hE, hlk', hR, hst, hl9⟩ := C; subst hb
  intro H locs ls hP hD hS hl
  obtain ⟨j, hj⟩ := m_at (E := E) (S := S) g.1.1
  have hj' := hj
  rw [m_cA g.1.2 (by decide)] at hj
  refine va_last hx rfl hK hP hD hS j 2 hj rfl g.2 d (fun H1 locs1 h1 h2 h3 => ?_)
  rw [m_set (S' := m_pJ S a i.toNatClampNeg v) hD g.1.1 hj' (by rw [m_cA g.1.2 (by decide)]; unfold m_ar; congr; funext z; simp only [vp_updL, m_pI, m_pJ]; split <;> simp_all) m_cJ] at h1 h2
  exact h H1 locs1 ls h1 h2 h3 hl

theorem r_dast {x : m_X} {l9 : Launch} {own : String} {cc : ByteArray} {nL : Nat} {rm : Room} {Z : m_Z} {S : m_S} {k n pc q : Nat} {L : List (Nat × Value)} {st : List Value} {a : Nat} {i : Int32} {v : UInt64} (C : m_H x l9 own cc nL rm) (d : decode cc pc = .ok (.dastore, 1)) (g : m_ok Z a 19 ∧ m_in i (Z.2.2 a)) (hq : pc + 1 = q) (h : m_G x Z (m_pJ S a i.toNatClampNeg v.toInt64) nL k n q L st) : m_G x Z S nL k n pc L (.double v :: .int i :: .ref a :: st) := by
  subst hq; obtain ⟨p, l, e, R, s, m, args, below, meth, c, E, A, Q⟩ := x; obtain ⟨hx, hb, hml, hown, hts, hK, hA, hE, hlk', hR, hst, hl9⟩ := C; subst hb
  intro H locs ls hP hD hS hl
  obtain ⟨j, hj⟩ := m_at (E := E) (S := S) g.1.1
  have hj' := hj
  rw [m_cA g.1.2 (by decide)] at hj
  refine va_dast hx rfl hK hP hD hS j 9 hj rfl g.2 d (fun H1 locs1 h1 h2 h3 => ?_)
  rw [m_set (S' := m_pJ S a i.toNatClampNeg v.toInt64) hD g.1.1 hj' (by rw [m_cA g.1.2 (by decide)]; unfold m_ar; congr; funext z; simp only [vf_upd, m_pI, m_pJ]; split <;> simp_all) m_cJ] at h1 h2
  exact h H1 locs1 ls h1 h2 h3 hl

theorem r_alen {x : m_X} {l9 : Launch} {own : String} {cc : ByteArray} {nL : Nat} {rm : Room} {Z : m_Z} {S : m_S} {k n pc q : Nat} {L : List (Nat × Value)} {st : List Value} {a : Nat} (kd pl : Nat) {ty : FieldType} (C : m_H x l9 own cc nL rm) (d : decode cc pc = .ok (.arraylength, 1)) (g : m_ok Z a kd) (hk : ¬ kd < 10) (ht : (m_tys x.2.2.2.2.2.2.2.2.2.2.1.2.1)[pl]? = some (x.2.2.2.2.2.2.2.2.2.2.1.2.1 kd, ty)) (hq : pc + 1 = q) (h : m_G x Z S nL k n q L (.int (Int32.ofNat (Z.2.2 a)) :: st)) : m_G x Z S nL k n pc L (.ref a :: st) := by
  subst hq; obtain ⟨p, l, e, R, s, m, args, below, meth, c, E, A, Q⟩ := x; obtain ⟨hx, hb, hml, hown, hts, hK, hA, hE, hlk', hR, hst, hl9⟩ := C; subst hb
  intro H locs ls hP hD hS hl
  obtain ⟨j, hj⟩ := m_at (E := E) (S := S) g.1
  rw [m_cA g.2 hk] at hj
  refine va_alen hx rfl hK hP j pl hj ht ?_ d (h H locs ls hP hD hS hl)
  unfold m_ar
  split <;> rfl

