/-! CONSTRUCTORS: what they make lies at the addresses behind the heap's end, in the order of making -/
abbrev m_O : Type := (Nat × Nat) ⊕ ((Nat × Nat × Int32) ⊕ ((Nat × Nat × Int64) ⊕ (Nat × Nat × Option Nat)))
abbrev o_n (c N : Nat) : m_O := .inl (c, N)
abbrev o_I (a k : Nat) (v : Int32) : m_O := .inr (.inl (a, k, v))
abbrev o_J (a k : Nat) (v : Int64) : m_O := .inr (.inr (.inl (a, k, v)))
abbrev o_R (a k : Nat) (v : Option Nat) : m_O := .inr (.inr (.inr (a, k, v)))
abbrev m_Y : Type := m_Z × m_S × Nat
def m_ad (Z : m_Z) (a c n : Nat) : m_Z := (Z.1 ++ [a], fun b => if b = a then c else Z.2.1 b, fun b => if b = a then n else Z.2.2 b)
def m_zr (S : m_S) (a : Nat) : m_S := (fun b j => if b = a then 0 else S.1 b j, fun b j => if b = a then 0 else S.2.1 b j, fun b j => if b = a then none else S.2.2 b j)
def m_do (y : m_Y) : m_O → m_Y
  | .inl (c, N) => (m_ad y.1 y.2.2 c N, m_zr y.2.1 y.2.2, y.2.2 + 1)
  | .inr (.inl (a, k, v)) => (y.1, m_pI y.2.1 a k v, y.2.2)
  | .inr (.inr (.inl (a, k, v))) => (y.1, m_pJ y.2.1 a k v, y.2.2)
  | .inr (.inr (.inr (a, k, v))) => (y.1, m_pR y.2.1 a k v, y.2.2)
def m_rn (y : m_Y) (os : List m_O) : m_Y := os.foldl m_do y
theorem m_rn_app (y : m_Y) (a b : List m_O) : m_rn y (a ++ b) = m_rn (m_rn y a) b := List.foldl_append ..
abbrev m_okn (Z : m_Z) (a c n : Nat) : Prop := m_ok Z a c ∧ Z.2.2 a = n
theorem m_do_ok {y : m_Y} {a c n : Nat} (o : m_O) (h : m_okn y.1 a c n) (ha : a < y.2.2) : m_okn (m_do y o).1 a c n ∧ y.2.2 ≤ (m_do y o).2.2 := by
  match o with
  | .inl (c', n') =>
    have hne : ¬ a = y.2.2 := Nat.ne_of_lt ha
    refine ⟨⟨⟨List.mem_append_left _ h.1.1, ?_⟩, ?_⟩, Nat.le_succ _⟩
    · show (if a = y.2.2 then c' else y.1.2.1 a) = c
      rw [if_neg hne]; exact h.1.2
    · show (if a = y.2.2 then n' else y.1.2.2 a) = n
      rw [if_neg hne]; exact h.2
  | .inr (.inl _) => exact ⟨h, Nat.le_refl _⟩
  | .inr (.inr (.inl _)) => exact ⟨h, Nat.le_refl _⟩
  | .inr (.inr (.inr _)) => exact ⟨h, Nat.le_refl _⟩
theorem m_rn_ok {a c n : Nat} : ∀ (os : List m_O) {y : m_Y}, m_okn y.1 a c n → a < y.2.2 → m_okn (m_rn y os).1 a c n
  | [], y, h, _ => h
  | o :: os, y, h, ha => m_rn_ok os (y := m_do y o) (m_do_ok o h ha).1 (Nat.lt_of_lt_of_le ha (m_do_ok o h ha).2)
theorem m_do_new (y : m_Y) (c n : Nat) : m_okn (m_do y (o_n c n)).1 y.2.2 c n := ⟨⟨List.mem_append_right _ (List.mem_singleton.mpr rfl), by show (if y.2.2 = y.2.2 then c else _) = c; rw [if_pos rfl]⟩, by show (if y.2.2 = y.2.2 then n else _) = n; rw [if_pos rfl]⟩
def m_ct : List m_O → Nat
  | [] => 0
  | .inl _ :: os => m_ct os + 1
  | .inr _ :: os => m_ct os
theorem m_rn_sz : ∀ (os : List m_O) (y : m_Y), (m_rn y os).2.2 = y.2.2 + m_ct os
  | [], _ => rfl
  | .inl (c, n) :: os, y => (m_rn_sz os (m_do y (o_n c n))).trans (by show y.2.2 + 1 + m_ct os = y.2.2 + (m_ct os + 1); omega)
  | .inr (.inl (a, k, v)) :: os, y => m_rn_sz os (m_do y (o_I a k v))
  | .inr (.inr (.inl (a, k, v))) :: os, y => m_rn_sz os (m_do y (o_J a k v))
  | .inr (.inr (.inr (a, k, v))) :: os, y => m_rn_sz os (m_do y (o_R a k v))
/-- what is not written -/
def m_tg (o : m_O) : Option Nat := match o with | .inl _ => none | .inr (.inl (a, _, _)) => some a | .inr (.inr (.inl (a, _, _))) => some a | .inr (.inr (.inr (a, _, _))) => some a
theorem m_rn_R {a k : Nat} : ∀ (os : List m_O) {y : m_Y}, a < y.2.2 → (∀ o ∈ os, m_tg o ≠ some a) → (m_rn y os).2.1.2.2 a k = y.2.1.2.2 a k
  | [], _, _, _ => rfl
  | o :: os, y, ha, h => by
    have h1 := m_rn_R os (y := m_do y o) (a := a) (k := k) (by match o with | .inl _ => exact Nat.lt_succ_of_lt ha | .inr (.inl _) => exact ha | .inr (.inr (.inl _)) => exact ha | .inr (.inr (.inr _)) => exact ha) (fun o ho => h o (List.mem_cons_of_mem _ ho))
    refine h1.trans ?_
    have h2 := h o List.mem_cons_self
    match o, h2 with
    | .inl (c, n), _ => show (if a = y.2.2 then none else y.2.1.2.2 a k) = _; rw [if_neg (Nat.ne_of_lt ha)]
    | .inr (.inl (b, j, v)), _ => rfl
    | .inr (.inr (.inl (b, j, v))), _ => rfl
    | .inr (.inr (.inr (b, j, v))), h2 =>
      have hb : ¬ a = b := fun e => h2 (by rw [e]; rfl)
      show (if a = b ∧ k = j then v else y.2.1.2.2 a k) = _
      rw [if_neg (fun q => hb q.1)]
def m_N (x : m_X) (y : m_Y) (nL k n pc : Nat) (L : List (Nat × Value)) (st : List Value) : Prop := match x with
  | (p, l, e, R, s, m, args, below, meth, c, E, A, Q) => ∀ (H : Heap) (locs : List Loc) (ls : Array Slot), H.size = y.2.2 → va_P E.1 vwCl (m_w E y.1 y.2.1) H → va_D A (m_w E y.1 y.2.1) → va_S A s.heap H locs → lv_has ls nL L → W p l e R s m args below meth c H locs k n Q (F0 m pc ls st)
theorem n_G {x : m_X} {y : m_Y} {nL k n pc : Nat} {L : List (Nat × Value)} {st : List Value} (h : m_G x y.1 y.2.1 nL k n pc L st) : m_N x y nL k n pc L st := by
  obtain ⟨p, l, e, R, s, m, args, below, meth, c, E, A, Q⟩ := x
  exact fun H locs ls hz hP hD hS hl => h H locs ls hP hD hS hl

theorem n_iconst {x : m_X} {l9 : Launch} {own : String} {cc : ByteArray} {nL : Nat} {rm : Room} {y : m_Y} {k n pc q : Nat} {L : List (Nat × Value)} {st : List Value} (C : m_H x l9 own cc nL rm) {i : Int} {v : Int32} (d : decode cc pc = .ok (.iconst i, 1)) (hv : Int32.ofInt i = v) (hq : pc + 1 = q) (h : m_N x y nL k n q L (.int v :: st)) : m_N x y nL k n pc L st := by
  subst hq; obtain ⟨p, l, e, R, s, m, args, below, meth, c, E, A, Q⟩ := x; obtain ⟨hx, hb, hml, hown, hts, hK, hA, hE, hlk, hR, hst, hl9⟩ := C; subst hb
  intro H locs ls hz hP hD hS hl
  exact lv_iconst hx rfl d hv (h H locs ls hz hP hD hS hl)

theorem n_bipush {x : m_X} {l9 : Launch} {own : String} {cc : ByteArray} {nL : Nat} {rm : Room} {y : m_Y} {k n pc q : Nat} {L : List (Nat × Value)} {st : List Value} (C : m_H x l9 own cc nL rm) {i : Int} {v : Int32} (d : decode cc pc = .ok (.bipush i, 2)) (hv : (Int8.ofInt i).toInt32 = v) (hq : pc + 2 = q) (h : m_N x y nL k n q L (.int v :: st)) : m_N x y nL k n pc L st := by
  subst hq; obtain ⟨p, l, e, R, s, m, args, below, meth, c, E, A, Q⟩ := x; obtain ⟨hx, hb, hml, hown, hts, hK, hA, hE, hlk, hR, hst, hl9⟩ := C; subst hb
  intro H locs ls hz hP hD hS hl
  exact lv_bipush hx rfl d hv (h H locs ls hz hP hD hS hl)

theorem n_sipush {x : m_X} {l9 : Launch} {own : String} {cc : ByteArray} {nL : Nat} {rm : Room} {y : m_Y} {k n pc q : Nat} {L : List (Nat × Value)} {st : List Value} (C : m_H x l9 own cc nL rm) {i : Int} {v : Int32} (d : decode cc pc = .ok (.sipush i, 3)) (hv : (Int16.ofInt i).toInt32 = v) (hq : pc + 3 = q) (h : m_N x y nL k n q L (.int v :: st)) : m_N x y nL k n pc L st := by
  subst hq; obtain ⟨p, l, e, R, s, m, args, below, meth, c, E, A, Q⟩ := x; obtain ⟨hx, hb, hml, hown, hts, hK, hA, hE, hlk, hR, hst, hl9⟩ := C; subst hb
  intro H locs ls hz hP hD hS hl
  exact lv_sipush hx rfl d hv (h H locs ls hz hP hD hS hl)

theorem n_lconst {x : m_X} {l9 : Launch} {own : String} {cc : ByteArray} {nL : Nat} {rm : Room} {y : m_Y} {k n pc q : Nat} {L : List (Nat × Value)} {st : List Value} (C : m_H x l9 own cc nL rm) {i : Fin 2} {v : Int64} (d : decode cc pc = .ok (.lconst i, 1)) (hv : Int64.ofNat (i : Nat) = v) (hq : pc + 1 = q) (h : m_N x y nL k n q L (.long v :: st)) : m_N x y nL k n pc L st := by
  subst hq; obtain ⟨p, l, e, R, s, m, args, below, meth, c, E, A, Q⟩ := x; obtain ⟨hx, hb, hml, hown, hts, hK, hA, hE, hlk, hR, hst, hl9⟩ := C; subst hb
  intro H locs ls hz hP hD hS hl
  exact lv_lconst hx rfl d hv (h H locs ls hz hP hD hS hl)

theorem n_aload_n {x : m_X} {l9 : Launch} {own : String} {cc : ByteArray} {nL : Nat} {rm : Room} {y : m_Y} {k n pc q : Nat} {L : List (Nat × Value)} {st : List Value} (C : m_H x l9 own cc nL rm) {i : Fin 4} {v : Nat} (j : Nat) (d : decode cc pc = .ok (.aload_n i, 1)) (hj : L[j]? = some ((i : Nat), .ref v)) (hq : pc + 1 = q) (h : m_N x y nL k n q L (.ref v :: st)) : m_N x y nL k n pc L st := by
  subst hq; obtain ⟨p, l, e, R, s, m, args, below, meth, c, E, A, Q⟩ := x; obtain ⟨hx, hb, hml, hown, hts, hK, hA, hE, hlk, hR, hst, hl9⟩ := C; subst hb
  intro H locs ls hz hP hD hS hl
  exact lv_aload_n hx rfl d rfl (lv_at hl j hj) (h H locs ls hz hP hD hS hl)

theorem n_iload_n {x : m_X} {l9 : Launch} {own : String} {cc : ByteArray} {nL : Nat} {rm : Room} {y : m_Y} {k n pc q : Nat} {L : List (Nat × Value)} {st : List Value} (C : m_H x l9 own cc nL rm) {i : Fin 4} {v : Int32} (j : Nat) (d : decode cc pc = .ok (.iload_n i, 1)) (hj : L[j]? = some ((i : Nat), .int v)) (hq : pc + 1 = q) (h : m_N x y nL k n q L (.int v :: st)) : m_N x y nL k n pc L st := by
  subst hq; obtain ⟨p, l, e, R, s, m, args, below, meth, c, E, A, Q⟩ := x; obtain ⟨hx, hb, hml, hown, hts, hK, hA, hE, hlk, hR, hst, hl9⟩ := C; subst hb
  intro H locs ls hz hP hD hS hl
  exact lv_iload_n hx rfl d rfl (lv_at hl j hj) (h H locs ls hz hP hD hS hl)

theorem n_istore_n {x : m_X} {l9 : Launch} {own : String} {cc : ByteArray} {nL : Nat} {rm : Room} {y : m_Y} {k n pc q : Nat} {L : List (Nat × Value)} {st : List Value} (C : m_H x l9 own cc nL rm) {i : Fin 4} {v : Int32} {L' : List (Nat × Value)} {i' : Nat} (d : decode cc pc = .ok (.istore_n i, 1)) (hi : (i : Nat) = i') (hL : (i' , Value.int v) :: L.filter (fun q => !(q.1 == i') && !(q.1 + 1 == i' && q.2.category == 2)) = L') (hn : i' < nL) (hq : pc + 1 = q) (h : m_N x y nL k n q L' st) : m_N x y nL k n pc L (.int v :: st) := by
  subst hq; obtain ⟨p, l, e, R, s, m, args, below, meth, c, E, A, Q⟩ := x; obtain ⟨hx, hb, hml, hown, hts, hK, hA, hE, hlk, hR, hst, hl9⟩ := C; subst hb
  intro H locs ls hz hP hD hS hl
  exact lv_istore_n hx rfl d hi hl hn hL (fun ls hl => h H locs ls hz hP hD hS hl)

theorem n_astore_n {x : m_X} {l9 : Launch} {own : String} {cc : ByteArray} {nL : Nat} {rm : Room} {y : m_Y} {k n pc q : Nat} {L : List (Nat × Value)} {st : List Value} (C : m_H x l9 own cc nL rm) {i : Fin 4} {v : Nat} {L' : List (Nat × Value)} {i' : Nat} (d : decode cc pc = .ok (.astore_n i, 1)) (hi : (i : Nat) = i') (hL : (i' , Value.ref v) :: L.filter (fun q => !(q.1 == i') && !(q.1 + 1 == i' && q.2.category == 2)) = L') (hn : i' < nL) (hq : pc + 1 = q) (h : m_N x y nL k n q L' st) : m_N x y nL k n pc L (.ref v :: st) := by
  subst hq; obtain ⟨p, l, e, R, s, m, args, below, meth, c, E, A, Q⟩ := x; obtain ⟨hx, hb, hml, hown, hts, hK, hA, hE, hlk, hR, hst, hl9⟩ := C; subst hb
  intro H locs ls hz hP hD hS hl
  exact lv_astore_n hx rfl d hi hl hn hL (fun ls hl => h H locs ls hz hP hD hS hl)

theorem n_istore {x : m_X} {l9 : Launch} {own : String} {cc : ByteArray} {nL : Nat} {rm : Room} {y : m_Y} {k n pc q : Nat} {L : List (Nat × Value)} {st : List Value} (C : m_H x l9 own cc nL rm) {i' : Nat} {v : Int32} {L' : List (Nat × Value)} (d : decode cc pc = .ok (.istore i', 2)) (hL : (i' , Value.int v) :: L.filter (fun q => !(q.1 == i') && !(q.1 + 1 == i' && q.2.category == 2)) = L') (hn : i' < nL) (hq : pc + 2 = q) (h : m_N x y nL k n q L' st) : m_N x y nL k n pc L (.int v :: st) := by
  subst hq; obtain ⟨p, l, e, R, s, m, args, below, meth, c, E, A, Q⟩ := x; obtain ⟨hx, hb, hml, hown, hts, hK, hA, hE, hlk, hR, hst, hl9⟩ := C; subst hb
  intro H locs ls hz hP hD hS hl
  exact lv_istore hx rfl d hl hn hL (fun ls hl => h H locs ls hz hP hD hS hl)

theorem n_iinc {x : m_X} {l9 : Launch} {own : String} {cc : ByteArray} {nL : Nat} {rm : Room} {y : m_Y} {k n pc q : Nat} {L : List (Nat × Value)} {st : List Value} (C : m_H x l9 own cc nL rm) {i' : Nat} {z : Int} {u v : Int32} {L' : List (Nat × Value)} (j : Nat) (d : decode cc pc = .ok (.iinc i' z, 3)) (hj : L[j]? = some (i', .int u)) (hv : u + Int32.ofInt z = v) (hL : (i', Value.int v) :: L.filter (fun q => !(q.1 == i') && !(q.1 + 1 == i' && q.2.category == 2)) = L') (hn : i' < nL) (hq : pc + 3 = q) (h : m_N x y nL k n q L' st) : m_N x y nL k n pc L st := by
  subst hq; obtain ⟨p, l, e, R, s, m, args, below, meth, c, E, A, Q⟩ := x; obtain ⟨hx, hb, hml, hown, hts, hK, hA, hE, hlk, hR, hst, hl9⟩ := C; subst hb
  intro H locs ls hz hP hD hS hl
  exact lv_iinc hx rfl d hl hj hv hn hL (fun ls hl => h H locs ls hz hP hD hS hl)

theorem n_dup {x : m_X} {l9 : Launch} {own : String} {cc : ByteArray} {nL : Nat} {rm : Room} {y : m_Y} {k n pc q : Nat} {L : List (Nat × Value)} {st : List Value} (C : m_H x l9 own cc nL rm) {v : Value} (d : decode cc pc = .ok (.dup, 1)) (hc : v.category = 1) (hq : pc + 1 = q) (h : m_N x y nL k n q L (v :: v :: st)) : m_N x y nL k n pc L (v :: st) := by
  subst hq; obtain ⟨p, l, e, R, s, m, args, below, meth, c, E, A, Q⟩ := x; obtain ⟨hx, hb, hml, hown, hts, hK, hA, hE, hlk, hR, hst, hl9⟩ := C; subst hb
  intro H locs ls hz hP hD hS hl
  exact lv_dup hx rfl d hc (h H locs ls hz hP hD hS hl)

theorem n_null {x : m_X} {l9 : Launch} {own : String} {cc : ByteArray} {nL : Nat} {rm : Room} {y : m_Y} {k n pc q : Nat} {L : List (Nat × Value)} {st : List Value} (C : m_H x l9 own cc nL rm)  (d : decode cc pc = .ok (.aconst_null, 1)) (hq : pc + 1 = q) (h : m_N x y nL k n q L (.null :: st)) : m_N x y nL k n pc L st := by
  subst hq; obtain ⟨p, l, e, R, s, m, args, below, meth, c, E, A, Q⟩ := x; obtain ⟨hx, hb, hml, hown, hts, hK, hA, hE, hlk, hR, hst, hl9⟩ := C; subst hb
  intro H locs ls hz hP hD hS hl
  exact lv_null hx rfl d (h H locs ls hz hP hD hS hl)

theorem n_icmp_ge {x : m_X} {l9 : Launch} {own : String} {cc : ByteArray} {nL : Nat} {rm : Room} {y : m_Y} {k n pc q : Nat} {L : List (Nat × Value)} {st : List Value} {t : Nat} {a b : Int32} {off : Int} (C : m_H x l9 own cc nL rm) (d : decode cc pc = .ok (.if_icmp .ge off, 3)) (ht : (pc : Int) + off = (t : Int)) (hq : pc + 3 = q) (h1 : b ≤ a → m_N x y nL k n t L st) (h0 : ¬ b ≤ a → m_N x y nL k n q L st) : m_N x y nL k n pc L (.int b :: .int a :: st) := by
  subst hq; obtain ⟨p, l, e, R, s, m, args, below, meth, c, E, A, Q⟩ := x; obtain ⟨hx, hb, hml, hown, hts, hK, hA, hE, hlk, hR, hst, hl9⟩ := C; subst hb
  intro H locs ls hz hP hD hS hl
  exact lv_icmp_ge hx rfl d ht (fun hc => h1 hc H locs ls hz hP hD hS hl) (fun hc => h0 hc H locs ls hz hP hD hS hl)

theorem n_goto {x : m_X} {l9 : Launch} {own : String} {cc : ByteArray} {nL : Nat} {rm : Room} {y : m_Y} {k n pc : Nat} {L : List (Nat × Value)} {st : List Value} {t : Nat} {off : Int} (C : m_H x l9 own cc nL rm) (d : decode cc pc = .ok (.goto off, 3)) (ht : (pc : Int) + off = (t : Int)) (h : m_N x y nL k n t L st) : m_N x y nL k n pc L st := by
  obtain ⟨p, l, e, R, s, m, args, below, meth, c, E, A, Q⟩ := x; obtain ⟨hx, hb, hml, hown, hts, hK, hA, hE, hlk, hR, hst, hl9⟩ := C; subst hb
  intro H locs ls hz hP hD hS hl
  exact lv_goto hx rfl d ht (h H locs ls hz hP hD hS hl)

theorem n_get {x : m_X} {l9 : Launch} {own : String} {cc : ByteArray} {nL : Nat} {rm : Room} {y : m_Y} {k n pc q : Nat} {L : List (Nat × Value)} {st : List Value} {a ci f idx N : Nat} {CN : String} {T : u_T} {v : Value} (C : m_H x l9 own cc nL rm) (hc : vwCl[ci]? = some (CN, T, N)) (h10 : ci < 10) (hin : ∀ w ∈ u_ws CN T N, w ∈ m_ws) (hf : f < N) (hlk : Cond.fieldLink own idx CN (T f).2.1 (T f).2.2.1 ∈ m_ws) (hT : (T f).1 = CN) (hv : (m_fs ci y.2.1 a)[f]? = some v) (d : decode cc pc = .ok (.getfield idx, 3)) (g : m_ok y.1 a ci) (hq : pc + 3 = q) (h : m_N x y nL k n q L (v :: st)) : m_N x y nL k n pc L (.ref a :: st) := by
  subst hq; obtain ⟨p, l, e, R, s, m, args, below, meth, c, E, A, Q⟩ := x; obtain ⟨hx, hb, hml, hown, hts, hK, hA, hE, hlk', hR, hst, hl9⟩ := C; subst hb
  intro H locs ls hz hP hD hS hl
  obtain ⟨i, hi⟩ := m_at (E := E) (S := y.2.1) g.1
  rw [m_cO g.2 h10] at hi
  exact va_get hx rfl hts hin hown hK hP i hi hc f hf (hts _ hlk) (fun y hy => by rw [← hT]; exact hy) hv d (h H locs ls hz hP hD hS hl)

theorem n_alen {x : m_X} {l9 : Launch} {own : String} {cc : ByteArray} {nL : Nat} {rm : Room} {y : m_Y} {k n pc q : Nat} {L : List (Nat × Value)} {st : List Value} {a : Nat} (kd pl : Nat) {ty : FieldType} (C : m_H x l9 own cc nL rm) (d : decode cc pc = .ok (.arraylength, 1)) (g : m_ok y.1 a kd) (hk : ¬ kd < 10) (ht : (m_tys x.2.2.2.2.2.2.2.2.2.2.1.2.1)[pl]? = some (x.2.2.2.2.2.2.2.2.2.2.1.2.1 kd, ty)) (hq : pc + 1 = q) (h : m_N x y nL k n q L (.int (Int32.ofNat (y.1.2.2 a)) :: st)) : m_N x y nL k n pc L (.ref a :: st) := by
  subst hq; obtain ⟨p, l, e, R, s, m, args, below, meth, c, E, A, Q⟩ := x; obtain ⟨hx, hb, hml, hown, hts, hK, hA, hE, hlk', hR, hst, hl9⟩ := C; subst hb
  intro H locs ls hz hP hD hS hl
  obtain ⟨j, hj⟩ := m_at (E := E) (S := y.2.1) g.1
  rw [m_cA g.2 hk] at hj
  refine va_alen hx rfl hK hP j pl hj ht ?_ d (h H locs ls hz hP hD hS hl)
  unfold m_ar
  split <;> rfl

theorem n_put {x : m_X} {l9 : Launch} {own : String} {cc : ByteArray} {nL : Nat} {rm : Room} {y : m_Y} {k n pc q : Nat} {L : List (Nat × Value)} {st : List Value} {y' : m_Y} {a ci f idx N : Nat} {CN : String} {T : u_T} {v : Value} {ty : FieldType} (C : m_H x l9 own cc nL rm) (ty0 : Nat → FieldType) (hc : vwCl[ci]? = some (CN, T, N)) (h10 : ci < 10) (hin : ∀ w ∈ u_ws CN T N, w ∈ m_ws) (hty : ∀ k, k < N → parseFieldDescriptor (T k).2.2.1 = some (ty0 k)) (hnm : ∀ a, a < N → ∀ b, b < N → a ≠ b → (T a).2.1 ≠ (T b).2.1) (hf : f < N) (hlk : Cond.fieldLink own idx CN (T f).2.1 (T f).2.2.1 ∈ m_ws) (hT : (T f).1 = CN) (hfin : (T f).2.2.2 = false) (hd : parseFieldDescriptor (T f).2.2.1 = some ty) (hn : narrow ty v = v) (hfit : fits ty v = true) (hlen : f < (m_fs ci y.2.1 a).length) (hset : (m_fs ci y.2.1 a).set f v = m_fs ci y'.2.1 a) (hoth : ∀ cy b, b ≠ a → m_cell cy y.1 y'.2.1 b = m_cell cy y.1 y.2.1 b) (d : decode cc pc = .ok (.putfield idx, 3)) (g : m_ok y.1 a ci) (hZ : y'.1 = y.1) (hsz : y'.2.2 = y.2.2) (hq : pc + 3 = q) (h : m_N x y' nL k n q L st) : m_N x y nL k n pc L (v :: .ref a :: st) := by
  subst hq; obtain ⟨p, l, e, R, s, m, args, below, meth, c, E, A, Q⟩ := x; obtain ⟨hx, hb, hml, hown, hts, hK, hA, hE, hlk', hR, hst, hl9⟩ := C; subst hb
  intro H locs ls hz hP hD hS0 hl
  obtain ⟨i, hi9⟩ := m_at (E := E) (S := y.2.1) g.1
  have he := hi9
  rw [m_cO g.2 h10] at he
  have e1 : (m_w E y.1 y.2.1).set i (a, .inr (ci, (m_fs ci y.2.1 a).set f v)) = m_w E y'.1 y'.2.1 := by rw [hZ]; exact m_set hD g.1 hi9 (by rw [hset, m_cO g.2 h10]) (hoth _)
  have hap := va_apart (own := own) hts hin ty0 hty hnm hK hc
  obtain ⟨r, h1, cell, q1, q2, q3, q4⟩ := hP i _ he
  have hr : r = (CN, T, N) := Option.some.inj (h1.symm.trans hc)
  subst hr
  obtain ⟨hSl, hfc, kC, hkC, hkind⟩ := hK.1 ci _ hc
  obtain ⟨cf, kf, fi, fl, hi, hsl⟩ := hSl f hf
  have hlay := hts _ (hin _ (u_in_lay hf))
  unfold u_lay at hlay
  rw [if_neg (by rw [hfin]; decide)] at hlay
  have hst9 := (u_facts hfc hkC (u_lays hts hin hf) hi).1
  have h6 := u_store hfc hkC hkind hlay hi hd hn hfit
  refine W.putK hx rfl (f := fl) ⟨hown, hts _ hlk, ⟨_, _, _, by rw [← hT]; exact hi⟩, hst9⟩ (by rw [q2]; exact h6) q1 q3 (by rw [hsl]; exact k2_hasslot (q4 f hf)) rfl rfl d fun H' e1' e2 e3 => ?_
  rw [hsl] at e1' ⊢
  refine h H' _ ls (e2.trans (hz.trans hsz.symm)) ?_ ?_ (hS0.put e2 e3 (hD.2 i _ he)) hl
  · rw [← e1]
    exact hP.set hD he ⟨_, hc, t_OB.to (V := updV (vp_V (m_fs ci y.2.1 a)) f v) ⟨_, e1', q2, q3, t_set q4 hap hf v⟩ (fun j _ => vp_updV_set hlen v j)⟩ e3
  · rw [← e1]; exact hD.set he

theorem n_putF {x : m_X} {l9 : Launch} {own : String} {cc : ByteArray} {nL : Nat} {rm : Room} {y : m_Y} {k n pc q : Nat} {L : List (Nat × Value)} {st : List Value} {y' : m_Y} {a ci f idx N : Nat} {CN : String} {T : u_T} {v : Value} {ty : FieldType} (C : m_H x l9 own cc nL rm) (ty0 : Nat → FieldType) (hc : vwCl[ci]? = some (CN, T, N)) (h10 : ci < 10) (hin : ∀ w ∈ u_ws CN T N, w ∈ m_ws) (hty : ∀ k, k < N → parseFieldDescriptor (T k).2.2.1 = some (ty0 k)) (hnm : ∀ a, a < N → ∀ b, b < N → a ≠ b → (T a).2.1 ≠ (T b).2.1) (hf : f < N) (hlk : Cond.fieldLink own idx CN (T f).2.1 (T f).2.2.1 ∈ m_ws) (hT : (T f).1 = CN) (hfin : (T f).2.2.2 = true) (hini : x.2.2.2.2.2.2.2.2.1.name = "<init>") (hown9 : CN = own) (hd : parseFieldDescriptor (T f).2.2.1 = some ty) (hn : narrow ty v = v) (hfit : fits ty v = true) (hlen : f < (m_fs ci y.2.1 a).length) (hset : (m_fs ci y.2.1 a).set f v = m_fs ci y'.2.1 a) (hoth : ∀ cy b, b ≠ a → m_cell cy y.1 y'.2.1 b = m_cell cy y.1 y.2.1 b) (d : decode cc pc = .ok (.putfield idx, 3)) (g : m_ok y.1 a ci) (hZ : y'.1 = y.1) (hsz : y'.2.2 = y.2.2) (hq : pc + 3 = q) (h : m_N x y' nL k n q L st) : m_N x y nL k n pc L (v :: .ref a :: st) := by
  subst hq; obtain ⟨p, l, e, R, s, m, args, below, meth, c, E, A, Q⟩ := x; obtain ⟨hx, hb, hml, hown, hts, hK, hA, hE, hlk', hR, hst, hl9⟩ := C; subst hb
  intro H locs ls hz hP hD hS0 hl
  obtain ⟨i, hi9⟩ := m_at (E := E) (S := y.2.1) g.1
  have he := hi9
  rw [m_cO g.2 h10] at he
  have e1 : (m_w E y.1 y.2.1).set i (a, .inr (ci, (m_fs ci y.2.1 a).set f v)) = m_w E y'.1 y'.2.1 := by rw [hZ]; exact m_set hD g.1 hi9 (by rw [hset, m_cO g.2 h10]) (hoth _)
  have hap := va_apart (own := own) hts hin ty0 hty hnm hK hc
  obtain ⟨r, h1, cell, q1, q2, q3, q4⟩ := hP i _ he
  have hr : r = (CN, T, N) := Option.some.inj (h1.symm.trans hc)
  subst hr
  obtain ⟨hSl, hfc, kC, hkC, hkind⟩ := hK.1 ci _ hc
  obtain ⟨cf, kf, fi, fl, hi, hsl⟩ := hSl f hf
  have hlay := hts _ (hin _ (u_in_lay hf))
  unfold u_lay at hlay
  rw [if_pos hfin] at hlay
  have hst9 := (u_facts hfc hkC (u_lays hts hin hf) hi).1
  have hcf : m.cls = cf := by
    obtain ⟨_, _, c', _, _, _, -, -, hf', -, -, -, hown2, -⟩ := Cond.laysFinal_spec hlay
    have e1 : c' = cf := by have := hi.symm.trans hf'; simp at this; exact this.1.symm
    rw [hT.trans hown9] at hown2
    rw [← e1]; exact Option.some.inj (hown.symm.trans hown2)
  have h6 := u_fits hfc hkC hkind (Or.inr hlay) hi hd hn hfit
  refine W.putFinK hx rfl hown (hts _ hlk) (by rw [← hT]; exact hi) hst9 hcf hini (by rw [q2]; exact h6) q1 q3 (by rw [hsl]; exact k2_hasslot (q4 f hf)) rfl rfl d fun H' e1' e2 e3 => ?_
  rw [hsl] at e1' ⊢
  refine h H' _ ls (e2.trans (hz.trans hsz.symm)) ?_ ?_ (hS0.put e2 e3 (hD.2 i _ he)) hl
  · rw [← e1]
    exact hP.set hD he ⟨_, hc, t_OB.to (V := updV (vp_V (m_fs ci y.2.1 a)) f v) ⟨_, e1', q2, q3, t_set q4 hap hf v⟩ (fun j _ => vp_updV_set hlen v j)⟩ e3
  · rw [← e1]; exact hD.set he

theorem m_zr_cell {cy : Nat → ClassId} {Z : m_Z} {S : m_S} {a c n b : Nat} (h : ¬ b = a) : m_cell cy (m_ad Z a c n) (m_zr S a) b = m_cell cy Z S b := by
  have e1 : (m_ad Z a c n).2.1 b = Z.2.1 b := by show (if b = a then _ else _) = _; rw [if_neg h]
  have e2 : (m_ad Z a c n).2.2 b = Z.2.2 b := by show (if b = a then _ else _) = _; rw [if_neg h]
  have f1 : ∀ c, m_fs c (m_zr S a) b = m_fs c S b := by intro c; unfold m_fs; split <;> simp [m_zr, h]
  have f2 : ∀ c n, m_ar c (m_zr S a) b n = m_ar c S b n := by intro c n; unfold m_ar; split <;> simp [m_zr, h]
  unfold m_cell
  rw [e1, e2, f1, f2]
theorem m_wad {E : m_E} {Z : m_Z} {S : m_S} {a c n : Nat} (h : a ∉ Z.1) : m_w E Z S ++ [(a, m_cell E.2.1 (m_ad Z a c n) (m_zr S a) a)] = m_w E (m_ad Z a c n) (m_zr S a) := by
  refine (va_pl_push h).trans ?_
  show va_pl (Z.1 ++ [a]) _ = va_pl (Z.1 ++ [a]) _
  refine va_pl_congr (fun b => ?_)
  by_cases hb : b = a
  · subst hb; rw [va_up_self]
  · rw [va_up_ne _ _ hb]; exact (m_zr_cell hb).symm
theorem m_fresh {E : m_E} {Z : m_Z} {S : m_S} {D : va_G} {H : Heap} {a : Nat} (hP : va_P D vwCl (m_w E Z S) H) (h : H.size ≤ a) : a ∉ Z.1 := va_pl_fresh (X := []) hP h
/-- behind a making -/
theorem m_made {E : m_E} {y : m_Y} {A : Nat → Prop} {H0 H H1 : Heap} {locs : List Loc} {c N : Nat} (hz : H.size = y.2.2) (hP : va_P E.1 vwCl (m_w E y.1 y.2.1) H) (hD : va_D A (m_w E y.1 y.2.1)) (hS : va_S A H0 H locs) (hA : ∀ q, H0.size ≤ q → A q) (z1 : H1.size = y.2.2 + 1) (o1 : ∀ q, q < y.2.2 → H1[q]? = H[q]?) (hat : va_at E.1 vwCl (y.2.2, m_cell E.2.1 (m_do y (o_n c N)).1 (m_do y (o_n c N)).2.1 y.2.2) H1) :
    H1.size = (m_do y (o_n c N)).2.2 ∧ va_P E.1 vwCl (m_w E (m_do y (o_n c N)).1 (m_do y (o_n c N)).2.1) H1 ∧ va_D A (m_w E (m_do y (o_n c N)).1 (m_do y (o_n c N)).2.1) ∧ va_S A H0 H1 locs := by
  have hk : ∀ (k : Nat) (x : Nat × va_E), (m_w E y.1 y.2.1)[k]? = some x → H1[x.1]? = H[x.1]? := fun k x hx => o1 x.1 (by rw [← hz]; exact (hP k x hx).lt)
  have e : m_w E (m_do y (o_n c N)).1 (m_do y (o_n c N)).2.1 = m_w E y.1 y.2.1 ++ [(y.2.2, m_cell E.2.1 (m_do y (o_n c N)).1 (m_do y (o_n c N)).2.1 y.2.2)] := (m_wad (m_fresh hP (Nat.le_of_eq hz))).symm
  refine ⟨z1, ?_, ?_, Nat.le_trans hS.1 (by omega), fun q h1 h2 => (o1 q (by have := hS.1; omega)).trans (hS.2.1 q h1 h2), hS.2.2⟩
  · rw [e]
    refine (hP.kept hk).app (fun k x hx => ?_)
    have hz9 : k < 1 := (List.getElem?_eq_some_iff.mp hx).1
    rw [show k = 0 by omega] at hx
    cases hx
    exact hat
  · rw [e]
    exact hD.push hP hz.symm (hA _ (by have := hS.1; omega))
theorem n_new {x : m_X} {l9 : Launch} {own : String} {cc : ByteArray} {nL : Nat} {rm : Room} {y : m_Y} {k n pc q : Nat} {L : List (Nat × Value)} {st : List Value} {ci idx N h9 : Nat} {CN : String} {T : u_T} {y' : m_Y} (C : m_H x l9 own cc nL rm) (ty0 : Nat → FieldType) (hc : vwCl[ci]? = some (CN, T, N)) (h10 : ci < 10) (hin : ∀ w ∈ u_ws CN T N, w ∈ m_ws) (hty : ∀ k, k < N → parseFieldDescriptor (T k).2.2.1 = some (ty0 k)) (w1 : Cond.classLink own idx CN ∈ m_ws) (w2 : Cond.instantiable CN N ∈ m_ws) (w3 : Cond.initialized CN ∈ m_ws) (hfs : ∀ (S : m_S) (a : Nat), ∀ j, j < N → defaultValue (ty0 j) = vp_V (m_fs ci (m_zr S a) a) j) (hroom : k + 1 ≤ rm.cells ∧ n + N ≤ rm.slots) (e : y' = m_do y (o_n ci 0)) (hh : y.2.2 = h9) (d : decode cc pc = .ok (.new idx, 3)) (hq : pc + 3 = q) (h : m_N x y' nL (k + 1) (n + N) q L (.ref h9 :: st)) : m_N x y nL k n pc L st := by
  subst hq; subst hh; subst e; obtain ⟨p, l, e, R, s, m, args, below, meth, c, E, A, Q⟩ := x; obtain ⟨hx, hb, hml, hown, hts, hK, hA, hE, hlk', hR, hst, hl9⟩ := C; subst hb; subst hR
  intro H locs ls hz hP hD hS hl
  have hKn := hK.1 ci _ hc
  refine W.newcK hx rfl hown (hts _ w1) (hts _ w2) (hts _ w3) rfl d hroom.1 hroom.2 hKn.2.1 hz fun H1 kC hkC e1 z1 o1 => ?_
  have hat : va_at E.1 vwCl (y.2.2, m_cell E.2.1 (m_do y (o_n ci 0)).1 (m_do y (o_n ci 0)).2.1 y.2.2) H1 := by
    rw [m_cO (m_do_new y ci 0).1.2 h10]
    exact ⟨_, hc, (u_born ty0 hts hin hKn hkC e1 hty).to (hfs _ _)⟩
  obtain ⟨a1, a2, a3, a4⟩ := m_made hz hP hD hS hA z1 o1 hat
  exact h H1 locs ls a1 a2 a3 a4 hl

theorem n_na10 {x : m_X} {l9 : Launch} {own : String} {cc : ByteArray} {nL : Nat} {rm : Room} {y : m_Y} {k n pc q : Nat} {L : List (Nat × Value)} {st : List Value} {h9 N : Nat} {v : Int32} {y' : m_Y} (C : m_H x l9 own cc nL rm) (hn : ¬ v < 0) (hN : v.toNatClampNeg = N) (hby : N * componentBytes .byte ≤ 536870912) (hroom : k + 1 ≤ rm.cells ∧ n + N ≤ rm.slots) (e : y' = m_do y (o_n 10 N)) (hh : y.2.2 = h9) (d : decode cc pc = .ok (.newarray .byte, 2)) (hq : pc + 2 = q) (h : m_N x y' nL (k + 1) (n + N) q L (.ref h9 :: st)) : m_N x y nL k n pc L (.int v :: st) := by
  subst hq; subst hh; subst e; obtain ⟨p, l, e, R, s, m, args, below, meth, c, E, A, Q⟩ := x; obtain ⟨hx, hb, hml, hown, hts, hK, hA, hE, hlk', hR, hst, hl9⟩ := C; subst hb; subst hR
  intro H locs ls hz hP hD hS hl
  refine va_newaK (atype := .byte) hx rfl (hts _ w_57) rfl d rfl hn hN hby hroom.1 hroom.2 hz fun H1 cA e1 z1 o1 hAr hNm => ?_
  have hcA : E.2.1 10 = cA := Option.some.inj ((va_nm_byte (hK.2 0 _ rfl).2).symm.trans (va_nm_byte (cA := cA) hNm))
  have hat : va_at E.1 vwCl (y.2.2, m_cell E.2.1 (m_do y (o_n 10 N)).1 (m_do y (o_n 10 N)).2.1 y.2.2) H1 := by
    rw [m_cA (m_do_new y 10 N).1.2 (by decide), (m_do_new y 10 N).2]
    have e9 : m_ar 10 (m_zr y.2.1 y.2.2) y.2.2 N = (N, .inl (fun _ => 0)) := by
      show (_, _) = (_, _)
      congr 1
      simp [m_zr]
    show H1[y.2.2]? = some (vp_cell (E.2.1 10) (m_ar 10 (m_zr y.2.1 y.2.2) y.2.2 N))
    rw [e9, hcA, e1]
    rfl
  obtain ⟨a1, a2, a3, a4⟩ := m_made hz hP hD hS hA z1 o1 hat
  exact h H1 locs ls a1 a2 a3 a4 hl

theorem n_na11 {x : m_X} {l9 : Launch} {own : String} {cc : ByteArray} {nL : Nat} {rm : Room} {y : m_Y} {k n pc q : Nat} {L : List (Nat × Value)} {st : List Value} {h9 N : Nat} {v : Int32} {y' : m_Y} (C : m_H x l9 own cc nL rm) (hn : ¬ v < 0) (hN : v.toNatClampNeg = N) (hby : N * componentBytes .int ≤ 536870912) (hroom : k + 1 ≤ rm.cells ∧ n + N ≤ rm.slots) (e : y' = m_do y (o_n 11 N)) (hh : y.2.2 = h9) (d : decode cc pc = .ok (.newarray .int, 2)) (hq : pc + 2 = q) (h : m_N x y' nL (k + 1) (n + N) q L (.ref h9 :: st)) : m_N x y nL k n pc L (.int v :: st) := by
  subst hq; subst hh; subst e; obtain ⟨p, l, e, R, s, m, args, below, meth, c, E, A, Q⟩ := x; obtain ⟨hx, hb, hml, hown, hts, hK, hA, hE, hlk', hR, hst, hl9⟩ := C; subst hb; subst hR
  intro H locs ls hz hP hD hS hl
  refine va_newaK (atype := .int) hx rfl (hts _ w_81) rfl d rfl hn hN hby hroom.1 hroom.2 hz fun H1 cA e1 z1 o1 hAr hNm => ?_
  have hcA : E.2.1 11 = cA := Option.some.inj ((va_nm_int (hK.2 1 _ rfl).2).symm.trans (va_nm_int (cA := cA) hNm))
  have hat : va_at E.1 vwCl (y.2.2, m_cell E.2.1 (m_do y (o_n 11 N)).1 (m_do y (o_n 11 N)).2.1 y.2.2) H1 := by
    rw [m_cA (m_do_new y 11 N).1.2 (by decide), (m_do_new y 11 N).2]
    have e9 : m_ar 11 (m_zr y.2.1 y.2.2) y.2.2 N = (N, .inl (fun _ => 0)) := by
      show (_, _) = (_, _)
      congr 1
      simp [m_zr]
    show H1[y.2.2]? = some (vp_cell (E.2.1 11) (m_ar 11 (m_zr y.2.1 y.2.2) y.2.2 N))
    rw [e9, hcA, e1]
    rfl
  obtain ⟨a1, a2, a3, a4⟩ := m_made hz hP hD hS hA z1 o1 hat
  exact h H1 locs ls a1 a2 a3 a4 hl

theorem n_na12 {x : m_X} {l9 : Launch} {own : String} {cc : ByteArray} {nL : Nat} {rm : Room} {y : m_Y} {k n pc q : Nat} {L : List (Nat × Value)} {st : List Value} {h9 N : Nat} {v : Int32} {y' : m_Y} (C : m_H x l9 own cc nL rm) (hn : ¬ v < 0) (hN : v.toNatClampNeg = N) (hby : N * componentBytes .long ≤ 536870912) (hroom : k + 1 ≤ rm.cells ∧ n + N ≤ rm.slots) (e : y' = m_do y (o_n 12 N)) (hh : y.2.2 = h9) (d : decode cc pc = .ok (.newarray .long, 2)) (hq : pc + 2 = q) (h : m_N x y' nL (k + 1) (n + N) q L (.ref h9 :: st)) : m_N x y nL k n pc L (.int v :: st) := by
  subst hq; subst hh; subst e; obtain ⟨p, l, e, R, s, m, args, below, meth, c, E, A, Q⟩ := x; obtain ⟨hx, hb, hml, hown, hts, hK, hA, hE, hlk', hR, hst, hl9⟩ := C; subst hb; subst hR
  intro H locs ls hz hP hD hS hl
  refine va_newaK (atype := .long) hx rfl (hts _ w_58) rfl d rfl hn hN hby hroom.1 hroom.2 hz fun H1 cA e1 z1 o1 hAr hNm => ?_
  have hcA : E.2.1 12 = cA := Option.some.inj ((va_nm_long (hK.2 2 _ rfl).2).symm.trans (va_nm_long (cA := cA) hNm))
  have hat : va_at E.1 vwCl (y.2.2, m_cell E.2.1 (m_do y (o_n 12 N)).1 (m_do y (o_n 12 N)).2.1 y.2.2) H1 := by
    rw [m_cA (m_do_new y 12 N).1.2 (by decide), (m_do_new y 12 N).2]
    have e9 : m_ar 12 (m_zr y.2.1 y.2.2) y.2.2 N = (N, .inr (.inl (fun _ => 0))) := by
      show (_, _) = (_, _)
      congr 1
      simp [m_zr]
    show H1[y.2.2]? = some (vp_cell (E.2.1 12) (m_ar 12 (m_zr y.2.1 y.2.2) y.2.2 N))
    rw [e9, hcA, e1]
    rfl
  obtain ⟨a1, a2, a3, a4⟩ := m_made hz hP hD hS hA z1 o1 hat
  exact h H1 locs ls a1 a2 a3 a4 hl

theorem n_na13 {x : m_X} {l9 : Launch} {own : String} {cc : ByteArray} {nL : Nat} {rm : Room} {y : m_Y} {k n pc q : Nat} {L : List (Nat × Value)} {st : List Value} {h9 N : Nat} {v : Int32} {y' : m_Y} (C : m_H x l9 own cc nL rm) (hn : ¬ v < 0) (hN : v.toNatClampNeg = N) (hby : N * componentBytes .boolean ≤ 536870912) (hroom : k + 1 ≤ rm.cells ∧ n + N ≤ rm.slots) (e : y' = m_do y (o_n 13 N)) (hh : y.2.2 = h9) (d : decode cc pc = .ok (.newarray .boolean, 2)) (hq : pc + 2 = q) (h : m_N x y' nL (k + 1) (n + N) q L (.ref h9 :: st)) : m_N x y nL k n pc L (.int v :: st) := by
  subst hq; subst hh; subst e; obtain ⟨p, l, e, R, s, m, args, below, meth, c, E, A, Q⟩ := x; obtain ⟨hx, hb, hml, hown, hts, hK, hA, hE, hlk', hR, hst, hl9⟩ := C; subst hb; subst hR
  intro H locs ls hz hP hD hS hl
  refine va_newaK (atype := .boolean) hx rfl (hts _ w_209) rfl d rfl hn hN hby hroom.1 hroom.2 hz fun H1 cA e1 z1 o1 hAr hNm => ?_
  have hcA : E.2.1 13 = cA := Option.some.inj ((va_nm_boolean (hK.2 3 _ rfl).2).symm.trans (va_nm_boolean (cA := cA) hNm))
  have hat : va_at E.1 vwCl (y.2.2, m_cell E.2.1 (m_do y (o_n 13 N)).1 (m_do y (o_n 13 N)).2.1 y.2.2) H1 := by
    rw [m_cA (m_do_new y 13 N).1.2 (by decide), (m_do_new y 13 N).2]
    have e9 : m_ar 13 (m_zr y.2.1 y.2.2) y.2.2 N = (N, .inl (fun _ => 0)) := by
      show (_, _) = (_, _)
      congr 1
      simp [m_zr]
    show H1[y.2.2]? = some (vp_cell (E.2.1 13) (m_ar 13 (m_zr y.2.1 y.2.2) y.2.2 N))
    rw [e9, hcA, e1]
    rfl
  obtain ⟨a1, a2, a3, a4⟩ := m_made hz hP hD hS hA z1 o1 hat
  exact h H1 locs ls a1 a2 a3 a4 hl

theorem n_na19 {x : m_X} {l9 : Launch} {own : String} {cc : ByteArray} {nL : Nat} {rm : Room} {y : m_Y} {k n pc q : Nat} {L : List (Nat × Value)} {st : List Value} {h9 N : Nat} {v : Int32} {y' : m_Y} (C : m_H x l9 own cc nL rm) (hn : ¬ v < 0) (hN : v.toNatClampNeg = N) (hby : N * componentBytes .double ≤ 536870912) (hroom : k + 1 ≤ rm.cells ∧ n + N ≤ rm.slots) (e : y' = m_do y (o_n 19 N)) (hh : y.2.2 = h9) (d : decode cc pc = .ok (.newarray .double, 2)) (hq : pc + 2 = q) (h : m_N x y' nL (k + 1) (n + N) q L (.ref h9 :: st)) : m_N x y nL k n pc L (.int v :: st) := by
  subst hq; subst hh; subst e; obtain ⟨p, l, e, R, s, m, args, below, meth, c, E, A, Q⟩ := x; obtain ⟨hx, hb, hml, hown, hts, hK, hA, hE, hlk', hR, hst, hl9⟩ := C; subst hb; subst hR
  intro H locs ls hz hP hD hS hl
  refine va_newaK (atype := .double) hx rfl (hts _ w_1292) rfl d rfl hn hN hby hroom.1 hroom.2 hz fun H1 cA e1 z1 o1 hAr hNm => ?_
  have hcA : E.2.1 19 = cA := Option.some.inj ((va_nm_double (hK.2 9 _ rfl).2).symm.trans (va_nm_double (cA := cA) hNm))
  have hat : va_at E.1 vwCl (y.2.2, m_cell E.2.1 (m_do y (o_n 19 N)).1 (m_do y (o_n 19 N)).2.1 y.2.2) H1 := by
    rw [m_cA (m_do_new y 19 N).1.2 (by decide), (m_do_new y 19 N).2]
    have e9 : m_ar 19 (m_zr y.2.1 y.2.2) y.2.2 N = (N, .inr (.inr (.inr (.inl (fun _ => 0))))) := by
      show (_, _) = (_, _)
      congr 1
      simp [m_zr]
      rfl
    show H1[y.2.2]? = some (vp_cell (E.2.1 19) (m_ar 19 (m_zr y.2.1 y.2.2) y.2.2 N))
    rw [e9, hcA, e1]
    rfl
  obtain ⟨a1, a2, a3, a4⟩ := m_made hz hP hD hS hA z1 o1 hat
  exact h H1 locs ls a1 a2 a3 a4 hl

theorem n_nq14 {x : m_X} {l9 : Launch} {own : String} {cc : ByteArray} {nL : Nat} {rm : Room} {y : m_Y} {k n pc q : Nat} {L : List (Nat × Value)} {st : List Value} {h9 N idx : Nat} {v : Int32} {y' : m_Y} (C : m_H x l9 own cc nL rm) (w1 : Cond.classLink own idx "MuseumCases$Cassette" ∈ m_ws) (hn : ¬ v < 0) (hN : v.toNatClampNeg = N) (hby : N * 4 ≤ 536870912) (hroom : k + 1 ≤ rm.cells ∧ n + N ≤ rm.slots) (e : y' = m_do y (o_n 14 N)) (hh : y.2.2 = h9) (d : decode cc pc = .ok (.anewarray idx, 3)) (hq : pc + 3 = q) (h : m_N x y' nL (k + 1) (n + N) q L (.ref h9 :: st)) : m_N x y nL k n pc L (.int v :: st) := by
  subst hq; subst hh; subst e; obtain ⟨p, l, e, R, s, m, args, below, meth, c, E, A, Q⟩ := x; obtain ⟨hx, hb, hml, hown, hts, hK, hA, hE, hlk', hR, hst, hl9⟩ := C; subst hb; subst hR
  intro H locs ls hz hP hD hS hl
  subst hN
  refine W.anew hx rfl hown (hts _ w1) (va_AO.use (hE.2.2.1 "MuseumCases$Cassette" (List.mem_of_getElem? (i := 2) rfl))) rfl d rfl hn hby hroom.1 hroom.2 fun cA kA comp f1 f2 f3 f4 => ?_
  generalize hH1 : H.push ({ cls := cA, slots := Array.replicate v.toNatClampNeg .null, vm := .none } : Cell) = H1
  have z1 : H1.size = y.2.2 + 1 := by rw [← hH1, Array.size_push, hz]
  have e1 : H1[y.2.2]? = some (arrV cA v.toNatClampNeg (fun _ => .null)) := by rw [← hH1, ← hz, Array.getElem?_push_size, ← arrV_new]
  have o1 : ∀ q : Nat, q < y.2.2 → H1[q]? = H[q]? := fun q hq => by rw [← hH1, Array.getElem?_push, if_neg (by rw [hz]; exact Nat.ne_of_lt hq)]
  have hcA : E.2.1 14 = cA := by
    obtain ⟨k9, c9, g1, g2, g3, g4⟩ := (hK.2 4 _ rfl).2
    exact Option.some.inj (g4.symm.trans f1)
  have hat : va_at E.1 vwCl (y.2.2, m_cell E.2.1 (m_do y (o_n 14 v.toNatClampNeg)).1 (m_do y (o_n 14 v.toNatClampNeg)).2.1 y.2.2) H1 := by
    rw [m_cA (m_do_new y 14 _).1.2 (by decide), (m_do_new y 14 _).2]
    have e9 : m_ar 14 (m_zr y.2.1 y.2.2) y.2.2 v.toNatClampNeg = (v.toNatClampNeg, .inr (.inr (.inr (.inr (fun _ => none))))) := by
      show (_, _) = (_, _)
      congr 1
      simp [m_zr]
    show H1[y.2.2]? = some (vp_cell (E.2.1 14) (m_ar 14 (m_zr y.2.1 y.2.2) y.2.2 v.toNatClampNeg))
    rw [e9, hcA, e1]
    rfl
  obtain ⟨a1, a2, a3, a4⟩ := m_made hz hP hD hS hA z1 o1 hat
  rw [← hz] at h
  exact h H1 locs ls a1 a2 a3 a4 hl

theorem n_aast14 {x : m_X} {l9 : Launch} {own : String} {cc : ByteArray} {nL : Nat} {rm : Room} {y : m_Y} {k n pc q : Nat} {L : List (Nat × Value)} {st : List Value} {a b : Nat} {i : Int32} {y' : m_Y} (C : m_H x l9 own cc nL rm) (g : m_ok y.1 a 14 ∧ m_in i (y.1.2.2 a)) (g2 : m_ok y.1 b 0) {j : Nat} (hj : i.toNatClampNeg = j) (e : y' = m_do y (o_R a j (some b))) (d : decode cc pc = .ok (.aastore, 1)) (hq : pc + 1 = q) (h : m_N x y' nL k n q L st) : m_N x y nL k n pc L (.ref b :: .int i :: .ref a :: st) := by
  subst hq; subst hj; subst e; obtain ⟨p, l, e, R, s, m, args, below, meth, c, E, A, Q⟩ := x; obtain ⟨hx, hb, hml, hown, hts, hK, hA, hE, hlk', hR, hst, hl9⟩ := C; subst hb
  intro H locs ls hz hP hD hS hl
  obtain ⟨q0, ha9⟩ := m_at (E := E) (S := y.2.1) g.1.1
  have ha := ha9
  rw [m_cA g.1.2 (by decide)] at ha
  obtain ⟨qk, hv⟩ := m_at (E := E) (S := y.2.1) g2.1
  rw [m_cO g2.2 (by decide)] at hv
  have hc : vwCl[0]? = some (vwCl[0]'(by decide)) := rfl
  have hin := g.2
  have hlt : i.toNatClampNeg < y.1.2.2 a := Nat.not_le.mp fun q => hin (Or.inr q)
  have h0 : ¬ i < 0 := fun q => hin (Or.inl q)
  obtain ⟨r', hr', cellV, g1, g4, g3, -⟩ := hP qk _ hv
  have hcls := (hK.1 0 _ hc).2
  obtain ⟨kA, comp, k1, k2, k3, -⟩ := (hK.2 4 _ rfl).2
  have hcomp : comp = E.1.1 0 := Option.some.inj (k3.symm.trans hcls.1)
  subst hcomp
  obtain ⟨kC, hkC, -⟩ := hcls.2
  have e1 : (m_w E y.1 y.2.1).set q0 (a, .inl (E.2.1 14, y.1.2.2 a, .inr (.inr (.inr (.inr (va_up (y.2.1.2.2 a) i.toNatClampNeg (some b))))))) = m_w E y.1 (m_pR y.2.1 a i.toNatClampNeg (some b)) := by
    refine m_set hD g.1.1 ha9 ?_ (fun c hb => m_cR c hb)
    rw [m_cA g.1.2 (by decide)]
    congr 1
    show (_, _) = (_, _)
    congr 1
    show (_, _) = (_, _)
    congr 5
    funext j
    by_cases hj : j = i.toNatClampNeg
    · subst hj; simp [m_pR, va_up]
    · simp [m_pR, va_up, hj]
  refine W.aast hx rfl (hP q0 _ ha) (fun q h => by cases h) (fun h => by cases h) k1 k2 rfl hkC ⟨h0, by show _ < (arrV _ _ _).slots.size; rw [arrV_size]; exact hlt⟩ g1 (fun q h => by rw [g3] at h; cases h) (by rw [g4]; exact hkC) (by rw [g4]; exact va_assign hcls) rfl rfl d fun H1 e2 z oq => ?_
  refine h H1 _ ls (z.trans hz) ?_ ?_ (hS.put z oq (hD.2 q0 _ ha)) hl
  · show va_P E.1 vwCl (m_w E y.1 (m_pR y.2.1 a i.toNatClampNeg (some b))) H1
    rw [← e1]
    refine hP.set hD ha ?_ oq
    show H1[a]? = some (vp_cell _ _)
    rw [e2]
    show some ((vp_cell _ (_, .inr (.inr (.inr (.inr _))))).setSlot _ _) = _
    rw [vp_cell_q, vp_cell_q, arrV_store]
    congr 2
    funext q
    by_cases hq : q = i.toNatClampNeg
    · subst hq; simp [updV, va_up, va_rf]
    · simp [updV, va_up, hq]
  · show va_D A (m_w E y.1 (m_pR y.2.1 a i.toNatClampNeg (some b)))
    rw [← e1]; exact hD.set ha

theorem n_nq15 {x : m_X} {l9 : Launch} {own : String} {cc : ByteArray} {nL : Nat} {rm : Room} {y : m_Y} {k n pc q : Nat} {L : List (Nat × Value)} {st : List Value} {h9 N idx : Nat} {v : Int32} {y' : m_Y} (C : m_H x l9 own cc nL rm) (w1 : Cond.classLink own idx "MuseumCases$Kind" ∈ m_ws) (hn : ¬ v < 0) (hN : v.toNatClampNeg = N) (hby : N * 4 ≤ 536870912) (hroom : k + 1 ≤ rm.cells ∧ n + N ≤ rm.slots) (e : y' = m_do y (o_n 15 N)) (hh : y.2.2 = h9) (d : decode cc pc = .ok (.anewarray idx, 3)) (hq : pc + 3 = q) (h : m_N x y' nL (k + 1) (n + N) q L (.ref h9 :: st)) : m_N x y nL k n pc L (.int v :: st) := by
  subst hq; subst hh; subst e; obtain ⟨p, l, e, R, s, m, args, below, meth, c, E, A, Q⟩ := x; obtain ⟨hx, hb, hml, hown, hts, hK, hA, hE, hlk', hR, hst, hl9⟩ := C; subst hb; subst hR
  intro H locs ls hz hP hD hS hl
  subst hN
  refine W.anew hx rfl hown (hts _ w1) (va_AO.use (hE.2.2.1 "MuseumCases$Kind" (List.mem_of_getElem? (i := 0) rfl))) rfl d rfl hn hby hroom.1 hroom.2 fun cA kA comp f1 f2 f3 f4 => ?_
  generalize hH1 : H.push ({ cls := cA, slots := Array.replicate v.toNatClampNeg .null, vm := .none } : Cell) = H1
  have z1 : H1.size = y.2.2 + 1 := by rw [← hH1, Array.size_push, hz]
  have e1 : H1[y.2.2]? = some (arrV cA v.toNatClampNeg (fun _ => .null)) := by rw [← hH1, ← hz, Array.getElem?_push_size, ← arrV_new]
  have o1 : ∀ q : Nat, q < y.2.2 → H1[q]? = H[q]? := fun q hq => by rw [← hH1, Array.getElem?_push, if_neg (by rw [hz]; exact Nat.ne_of_lt hq)]
  have hcA : E.2.1 15 = cA := by
    obtain ⟨k9, c9, g1, g2, g3, g4⟩ := (hK.2 5 _ rfl).2
    exact Option.some.inj (g4.symm.trans f1)
  have hat : va_at E.1 vwCl (y.2.2, m_cell E.2.1 (m_do y (o_n 15 v.toNatClampNeg)).1 (m_do y (o_n 15 v.toNatClampNeg)).2.1 y.2.2) H1 := by
    rw [m_cA (m_do_new y 15 _).1.2 (by decide), (m_do_new y 15 _).2]
    have e9 : m_ar 15 (m_zr y.2.1 y.2.2) y.2.2 v.toNatClampNeg = (v.toNatClampNeg, .inr (.inr (.inr (.inr (fun _ => none))))) := by
      show (_, _) = (_, _)
      congr 1
      simp [m_zr]
    show H1[y.2.2]? = some (vp_cell (E.2.1 15) (m_ar 15 (m_zr y.2.1 y.2.2) y.2.2 v.toNatClampNeg))
    rw [e9, hcA, e1]
    rfl
  obtain ⟨a1, a2, a3, a4⟩ := m_made hz hP hD hS hA z1 o1 hat
  rw [← hz] at h
  exact h H1 locs ls a1 a2 a3 a4 hl

theorem n_aast15 {x : m_X} {l9 : Launch} {own : String} {cc : ByteArray} {nL : Nat} {rm : Room} {y : m_Y} {k n pc q : Nat} {L : List (Nat × Value)} {st : List Value} {a b : Nat} {i : Int32} {y' : m_Y} (C : m_H x l9 own cc nL rm) (g : m_ok y.1 a 15 ∧ m_in i (y.1.2.2 a)) (g2 : m_ok y.1 b 1) {j : Nat} (hj : i.toNatClampNeg = j) (e : y' = m_do y (o_R a j (some b))) (d : decode cc pc = .ok (.aastore, 1)) (hq : pc + 1 = q) (h : m_N x y' nL k n q L st) : m_N x y nL k n pc L (.ref b :: .int i :: .ref a :: st) := by
  subst hq; subst hj; subst e; obtain ⟨p, l, e, R, s, m, args, below, meth, c, E, A, Q⟩ := x; obtain ⟨hx, hb, hml, hown, hts, hK, hA, hE, hlk', hR, hst, hl9⟩ := C; subst hb
  intro H locs ls hz hP hD hS hl
  obtain ⟨q0, ha9⟩ := m_at (E := E) (S := y.2.1) g.1.1
  have ha := ha9
  rw [m_cA g.1.2 (by decide)] at ha
  obtain ⟨qk, hv⟩ := m_at (E := E) (S := y.2.1) g2.1
  rw [m_cO g2.2 (by decide)] at hv
  have hc : vwCl[1]? = some (vwCl[1]'(by decide)) := rfl
  have hin := g.2
  have hlt : i.toNatClampNeg < y.1.2.2 a := Nat.not_le.mp fun q => hin (Or.inr q)
  have h0 : ¬ i < 0 := fun q => hin (Or.inl q)
  obtain ⟨r', hr', cellV, g1, g4, g3, -⟩ := hP qk _ hv
  have hcls := (hK.1 1 _ hc).2
  obtain ⟨kA, comp, k1, k2, k3, -⟩ := (hK.2 5 _ rfl).2
  have hcomp : comp = E.1.1 1 := Option.some.inj (k3.symm.trans hcls.1)
  subst hcomp
  obtain ⟨kC, hkC, -⟩ := hcls.2
  have e1 : (m_w E y.1 y.2.1).set q0 (a, .inl (E.2.1 15, y.1.2.2 a, .inr (.inr (.inr (.inr (va_up (y.2.1.2.2 a) i.toNatClampNeg (some b))))))) = m_w E y.1 (m_pR y.2.1 a i.toNatClampNeg (some b)) := by
    refine m_set hD g.1.1 ha9 ?_ (fun c hb => m_cR c hb)
    rw [m_cA g.1.2 (by decide)]
    congr 1
    show (_, _) = (_, _)
    congr 1
    show (_, _) = (_, _)
    congr 5
    funext j
    by_cases hj : j = i.toNatClampNeg
    · subst hj; simp [m_pR, va_up]
    · simp [m_pR, va_up, hj]
  refine W.aast hx rfl (hP q0 _ ha) (fun q h => by cases h) (fun h => by cases h) k1 k2 rfl hkC ⟨h0, by show _ < (arrV _ _ _).slots.size; rw [arrV_size]; exact hlt⟩ g1 (fun q h => by rw [g3] at h; cases h) (by rw [g4]; exact hkC) (by rw [g4]; exact va_assign hcls) rfl rfl d fun H1 e2 z oq => ?_
  refine h H1 _ ls (z.trans hz) ?_ ?_ (hS.put z oq (hD.2 q0 _ ha)) hl
  · show va_P E.1 vwCl (m_w E y.1 (m_pR y.2.1 a i.toNatClampNeg (some b))) H1
    rw [← e1]
    refine hP.set hD ha ?_ oq
    show H1[a]? = some (vp_cell _ _)
    rw [e2]
    show some ((vp_cell _ (_, .inr (.inr (.inr (.inr _))))).setSlot _ _) = _
    rw [vp_cell_q, vp_cell_q, arrV_store]
    congr 2
    funext q
    by_cases hq : q = i.toNatClampNeg
    · subst hq; simp [updV, va_up, va_rf]
    · simp [updV, va_up, hq]
  · show va_D A (m_w E y.1 (m_pR y.2.1 a i.toNatClampNeg (some b)))
    rw [← e1]; exact hD.set ha

theorem n_nq16 {x : m_X} {l9 : Launch} {own : String} {cc : ByteArray} {nL : Nat} {rm : Room} {y : m_Y} {k n pc q : Nat} {L : List (Nat × Value)} {st : List Value} {h9 N idx : Nat} {v : Int32} {y' : m_Y} (C : m_H x l9 own cc nL rm) (w1 : Cond.classLink own idx "MuseumCases$Logbook" ∈ m_ws) (hn : ¬ v < 0) (hN : v.toNatClampNeg = N) (hby : N * 4 ≤ 536870912) (hroom : k + 1 ≤ rm.cells ∧ n + N ≤ rm.slots) (e : y' = m_do y (o_n 16 N)) (hh : y.2.2 = h9) (d : decode cc pc = .ok (.anewarray idx, 3)) (hq : pc + 3 = q) (h : m_N x y' nL (k + 1) (n + N) q L (.ref h9 :: st)) : m_N x y nL k n pc L (.int v :: st) := by
  subst hq; subst hh; subst e; obtain ⟨p, l, e, R, s, m, args, below, meth, c, E, A, Q⟩ := x; obtain ⟨hx, hb, hml, hown, hts, hK, hA, hE, hlk', hR, hst, hl9⟩ := C; subst hb; subst hR
  intro H locs ls hz hP hD hS hl
  subst hN
  refine W.anew hx rfl hown (hts _ w1) (va_AO.use (hE.2.2.1 "MuseumCases$Logbook" (List.mem_of_getElem? (i := 3) rfl))) rfl d rfl hn hby hroom.1 hroom.2 fun cA kA comp f1 f2 f3 f4 => ?_
  generalize hH1 : H.push ({ cls := cA, slots := Array.replicate v.toNatClampNeg .null, vm := .none } : Cell) = H1
  have z1 : H1.size = y.2.2 + 1 := by rw [← hH1, Array.size_push, hz]
  have e1 : H1[y.2.2]? = some (arrV cA v.toNatClampNeg (fun _ => .null)) := by rw [← hH1, ← hz, Array.getElem?_push_size, ← arrV_new]
  have o1 : ∀ q : Nat, q < y.2.2 → H1[q]? = H[q]? := fun q hq => by rw [← hH1, Array.getElem?_push, if_neg (by rw [hz]; exact Nat.ne_of_lt hq)]
  have hcA : E.2.1 16 = cA := by
    obtain ⟨k9, c9, g1, g2, g3, g4⟩ := (hK.2 6 _ rfl).2
    exact Option.some.inj (g4.symm.trans f1)
  have hat : va_at E.1 vwCl (y.2.2, m_cell E.2.1 (m_do y (o_n 16 v.toNatClampNeg)).1 (m_do y (o_n 16 v.toNatClampNeg)).2.1 y.2.2) H1 := by
    rw [m_cA (m_do_new y 16 _).1.2 (by decide), (m_do_new y 16 _).2]
    have e9 : m_ar 16 (m_zr y.2.1 y.2.2) y.2.2 v.toNatClampNeg = (v.toNatClampNeg, .inr (.inr (.inr (.inr (fun _ => none))))) := by
      show (_, _) = (_, _)
      congr 1
      simp [m_zr]
    show H1[y.2.2]? = some (vp_cell (E.2.1 16) (m_ar 16 (m_zr y.2.1 y.2.2) y.2.2 v.toNatClampNeg))
    rw [e9, hcA, e1]
    rfl
  obtain ⟨a1, a2, a3, a4⟩ := m_made hz hP hD hS hA z1 o1 hat
  rw [← hz] at h
  exact h H1 locs ls a1 a2 a3 a4 hl

theorem n_aast16 {x : m_X} {l9 : Launch} {own : String} {cc : ByteArray} {nL : Nat} {rm : Room} {y : m_Y} {k n pc q : Nat} {L : List (Nat × Value)} {st : List Value} {a b : Nat} {i : Int32} {y' : m_Y} (C : m_H x l9 own cc nL rm) (g : m_ok y.1 a 16 ∧ m_in i (y.1.2.2 a)) (g2 : m_ok y.1 b 2) {j : Nat} (hj : i.toNatClampNeg = j) (e : y' = m_do y (o_R a j (some b))) (d : decode cc pc = .ok (.aastore, 1)) (hq : pc + 1 = q) (h : m_N x y' nL k n q L st) : m_N x y nL k n pc L (.ref b :: .int i :: .ref a :: st) := by
  subst hq; subst hj; subst e; obtain ⟨p, l, e, R, s, m, args, below, meth, c, E, A, Q⟩ := x; obtain ⟨hx, hb, hml, hown, hts, hK, hA, hE, hlk', hR, hst, hl9⟩ := C; subst hb
  intro H locs ls hz hP hD hS hl
  obtain ⟨q0, ha9⟩ := m_at (E := E) (S := y.2.1) g.1.1
  have ha := ha9
  rw [m_cA g.1.2 (by decide)] at ha
  obtain ⟨qk, hv⟩ := m_at (E := E) (S := y.2.1) g2.1
  rw [m_cO g2.2 (by decide)] at hv
  have hc : vwCl[2]? = some (vwCl[2]'(by decide)) := rfl
  have hin := g.2
  have hlt : i.toNatClampNeg < y.1.2.2 a := Nat.not_le.mp fun q => hin (Or.inr q)
  have h0 : ¬ i < 0 := fun q => hin (Or.inl q)
  obtain ⟨r', hr', cellV, g1, g4, g3, -⟩ := hP qk _ hv
  have hcls := (hK.1 2 _ hc).2
  obtain ⟨kA, comp, k1, k2, k3, -⟩ := (hK.2 6 _ rfl).2
  have hcomp : comp = E.1.1 2 := Option.some.inj (k3.symm.trans hcls.1)
  subst hcomp
  obtain ⟨kC, hkC, -⟩ := hcls.2
  have e1 : (m_w E y.1 y.2.1).set q0 (a, .inl (E.2.1 16, y.1.2.2 a, .inr (.inr (.inr (.inr (va_up (y.2.1.2.2 a) i.toNatClampNeg (some b))))))) = m_w E y.1 (m_pR y.2.1 a i.toNatClampNeg (some b)) := by
    refine m_set hD g.1.1 ha9 ?_ (fun c hb => m_cR c hb)
    rw [m_cA g.1.2 (by decide)]
    congr 1
    show (_, _) = (_, _)
    congr 1
    show (_, _) = (_, _)
    congr 5
    funext j
    by_cases hj : j = i.toNatClampNeg
    · subst hj; simp [m_pR, va_up]
    · simp [m_pR, va_up, hj]
  refine W.aast hx rfl (hP q0 _ ha) (fun q h => by cases h) (fun h => by cases h) k1 k2 rfl hkC ⟨h0, by show _ < (arrV _ _ _).slots.size; rw [arrV_size]; exact hlt⟩ g1 (fun q h => by rw [g3] at h; cases h) (by rw [g4]; exact hkC) (by rw [g4]; exact va_assign hcls) rfl rfl d fun H1 e2 z oq => ?_
  refine h H1 _ ls (z.trans hz) ?_ ?_ (hS.put z oq (hD.2 q0 _ ha)) hl
  · show va_P E.1 vwCl (m_w E y.1 (m_pR y.2.1 a i.toNatClampNeg (some b))) H1
    rw [← e1]
    refine hP.set hD ha ?_ oq
    show H1[a]? = some (vp_cell _ _)
    rw [e2]
    show some ((vp_cell _ (_, .inr (.inr (.inr (.inr _))))).setSlot _ _) = _
    rw [vp_cell_q, vp_cell_q, arrV_store]
    congr 2
    funext q
    by_cases hq : q = i.toNatClampNeg
    · subst hq; simp [updV, va_up, va_rf]
    · simp [updV, va_up, hq]
  · show va_D A (m_w E y.1 (m_pR y.2.1 a i.toNatClampNeg (some b)))
    rw [← e1]; exact hD.set ha

theorem n_nq17 {x : m_X} {l9 : Launch} {own : String} {cc : ByteArray} {nL : Nat} {rm : Room} {y : m_Y} {k n pc q : Nat} {L : List (Nat × Value)} {st : List Value} {h9 N idx : Nat} {v : Int32} {y' : m_Y} (C : m_H x l9 own cc nL rm) (w1 : Cond.classLink own idx "MuseumCases$State" ∈ m_ws) (hn : ¬ v < 0) (hN : v.toNatClampNeg = N) (hby : N * 4 ≤ 536870912) (hroom : k + 1 ≤ rm.cells ∧ n + N ≤ rm.slots) (e : y' = m_do y (o_n 17 N)) (hh : y.2.2 = h9) (d : decode cc pc = .ok (.anewarray idx, 3)) (hq : pc + 3 = q) (h : m_N x y' nL (k + 1) (n + N) q L (.ref h9 :: st)) : m_N x y nL k n pc L (.int v :: st) := by
  subst hq; subst hh; subst e; obtain ⟨p, l, e, R, s, m, args, below, meth, c, E, A, Q⟩ := x; obtain ⟨hx, hb, hml, hown, hts, hK, hA, hE, hlk', hR, hst, hl9⟩ := C; subst hb; subst hR
  intro H locs ls hz hP hD hS hl
  subst hN
  refine W.anew hx rfl hown (hts _ w1) (va_AO.use (hE.2.2.1 "MuseumCases$State" (List.mem_of_getElem? (i := 4) rfl))) rfl d rfl hn hby hroom.1 hroom.2 fun cA kA comp f1 f2 f3 f4 => ?_
  generalize hH1 : H.push ({ cls := cA, slots := Array.replicate v.toNatClampNeg .null, vm := .none } : Cell) = H1
  have z1 : H1.size = y.2.2 + 1 := by rw [← hH1, Array.size_push, hz]
  have e1 : H1[y.2.2]? = some (arrV cA v.toNatClampNeg (fun _ => .null)) := by rw [← hH1, ← hz, Array.getElem?_push_size, ← arrV_new]
  have o1 : ∀ q : Nat, q < y.2.2 → H1[q]? = H[q]? := fun q hq => by rw [← hH1, Array.getElem?_push, if_neg (by rw [hz]; exact Nat.ne_of_lt hq)]
  have hcA : E.2.1 17 = cA := by
    obtain ⟨k9, c9, g1, g2, g3, g4⟩ := (hK.2 7 _ rfl).2
    exact Option.some.inj (g4.symm.trans f1)
  have hat : va_at E.1 vwCl (y.2.2, m_cell E.2.1 (m_do y (o_n 17 v.toNatClampNeg)).1 (m_do y (o_n 17 v.toNatClampNeg)).2.1 y.2.2) H1 := by
    rw [m_cA (m_do_new y 17 _).1.2 (by decide), (m_do_new y 17 _).2]
    have e9 : m_ar 17 (m_zr y.2.1 y.2.2) y.2.2 v.toNatClampNeg = (v.toNatClampNeg, .inr (.inr (.inr (.inr (fun _ => none))))) := by
      show (_, _) = (_, _)
      congr 1
      simp [m_zr]
    show H1[y.2.2]? = some (vp_cell (E.2.1 17) (m_ar 17 (m_zr y.2.1 y.2.2) y.2.2 v.toNatClampNeg))
    rw [e9, hcA, e1]
    rfl
  obtain ⟨a1, a2, a3, a4⟩ := m_made hz hP hD hS hA z1 o1 hat
  rw [← hz] at h
  exact h H1 locs ls a1 a2 a3 a4 hl

theorem n_aast17 {x : m_X} {l9 : Launch} {own : String} {cc : ByteArray} {nL : Nat} {rm : Room} {y : m_Y} {k n pc q : Nat} {L : List (Nat × Value)} {st : List Value} {a b : Nat} {i : Int32} {y' : m_Y} (C : m_H x l9 own cc nL rm) (g : m_ok y.1 a 17 ∧ m_in i (y.1.2.2 a)) (g2 : m_ok y.1 b 6) {j : Nat} (hj : i.toNatClampNeg = j) (e : y' = m_do y (o_R a j (some b))) (d : decode cc pc = .ok (.aastore, 1)) (hq : pc + 1 = q) (h : m_N x y' nL k n q L st) : m_N x y nL k n pc L (.ref b :: .int i :: .ref a :: st) := by
  subst hq; subst hj; subst e; obtain ⟨p, l, e, R, s, m, args, below, meth, c, E, A, Q⟩ := x; obtain ⟨hx, hb, hml, hown, hts, hK, hA, hE, hlk', hR, hst, hl9⟩ := C; subst hb
  intro H locs ls hz hP hD hS hl
  obtain ⟨q0, ha9⟩ := m_at (E := E) (S := y.2.1) g.1.1
  have ha := ha9
  rw [m_cA g.1.2 (by decide)] at ha
  obtain ⟨qk, hv⟩ := m_at (E := E) (S := y.2.1) g2.1
  rw [m_cO g2.2 (by decide)] at hv
  have hc : vwCl[6]? = some (vwCl[6]'(by decide)) := rfl
  have hin := g.2
  have hlt : i.toNatClampNeg < y.1.2.2 a := Nat.not_le.mp fun q => hin (Or.inr q)
  have h0 : ¬ i < 0 := fun q => hin (Or.inl q)
  obtain ⟨r', hr', cellV, g1, g4, g3, -⟩ := hP qk _ hv
  have hcls := (hK.1 6 _ hc).2
  obtain ⟨kA, comp, k1, k2, k3, -⟩ := (hK.2 7 _ rfl).2
  have hcomp : comp = E.1.1 6 := Option.some.inj (k3.symm.trans hcls.1)
  subst hcomp
  obtain ⟨kC, hkC, -⟩ := hcls.2
  have e1 : (m_w E y.1 y.2.1).set q0 (a, .inl (E.2.1 17, y.1.2.2 a, .inr (.inr (.inr (.inr (va_up (y.2.1.2.2 a) i.toNatClampNeg (some b))))))) = m_w E y.1 (m_pR y.2.1 a i.toNatClampNeg (some b)) := by
    refine m_set hD g.1.1 ha9 ?_ (fun c hb => m_cR c hb)
    rw [m_cA g.1.2 (by decide)]
    congr 1
    show (_, _) = (_, _)
    congr 1
    show (_, _) = (_, _)
    congr 5
    funext j
    by_cases hj : j = i.toNatClampNeg
    · subst hj; simp [m_pR, va_up]
    · simp [m_pR, va_up, hj]
  refine W.aast hx rfl (hP q0 _ ha) (fun q h => by cases h) (fun h => by cases h) k1 k2 rfl hkC ⟨h0, by show _ < (arrV _ _ _).slots.size; rw [arrV_size]; exact hlt⟩ g1 (fun q h => by rw [g3] at h; cases h) (by rw [g4]; exact hkC) (by rw [g4]; exact va_assign hcls) rfl rfl d fun H1 e2 z oq => ?_
  refine h H1 _ ls (z.trans hz) ?_ ?_ (hS.put z oq (hD.2 q0 _ ha)) hl
  · show va_P E.1 vwCl (m_w E y.1 (m_pR y.2.1 a i.toNatClampNeg (some b))) H1
    rw [← e1]
    refine hP.set hD ha ?_ oq
    show H1[a]? = some (vp_cell _ _)
    rw [e2]
    show some ((vp_cell _ (_, .inr (.inr (.inr (.inr _))))).setSlot _ _) = _
    rw [vp_cell_q, vp_cell_q, arrV_store]
    congr 2
    funext q
    by_cases hq : q = i.toNatClampNeg
    · subst hq; simp [updV, va_up, va_rf]
    · simp [updV, va_up, hq]
  · show va_D A (m_w E y.1 (m_pR y.2.1 a i.toNatClampNeg (some b)))
    rw [← e1]; exact hD.set ha

theorem n_nq18 {x : m_X} {l9 : Launch} {own : String} {cc : ByteArray} {nL : Nat} {rm : Room} {y : m_Y} {k n pc q : Nat} {L : List (Nat × Value)} {st : List Value} {h9 N idx : Nat} {v : Int32} {y' : m_Y} (C : m_H x l9 own cc nL rm) (w1 : Cond.classLink own idx "MuseumCases$Vitrine" ∈ m_ws) (hn : ¬ v < 0) (hN : v.toNatClampNeg = N) (hby : N * 4 ≤ 536870912) (hroom : k + 1 ≤ rm.cells ∧ n + N ≤ rm.slots) (e : y' = m_do y (o_n 18 N)) (hh : y.2.2 = h9) (d : decode cc pc = .ok (.anewarray idx, 3)) (hq : pc + 3 = q) (h : m_N x y' nL (k + 1) (n + N) q L (.ref h9 :: st)) : m_N x y nL k n pc L (.int v :: st) := by
  subst hq; subst hh; subst e; obtain ⟨p, l, e, R, s, m, args, below, meth, c, E, A, Q⟩ := x; obtain ⟨hx, hb, hml, hown, hts, hK, hA, hE, hlk', hR, hst, hl9⟩ := C; subst hb; subst hR
  intro H locs ls hz hP hD hS hl
  subst hN
  refine W.anew hx rfl hown (hts _ w1) (va_AO.use (hE.2.2.1 "MuseumCases$Vitrine" (List.mem_of_getElem? (i := 1) rfl))) rfl d rfl hn hby hroom.1 hroom.2 fun cA kA comp f1 f2 f3 f4 => ?_
  generalize hH1 : H.push ({ cls := cA, slots := Array.replicate v.toNatClampNeg .null, vm := .none } : Cell) = H1
  have z1 : H1.size = y.2.2 + 1 := by rw [← hH1, Array.size_push, hz]
  have e1 : H1[y.2.2]? = some (arrV cA v.toNatClampNeg (fun _ => .null)) := by rw [← hH1, ← hz, Array.getElem?_push_size, ← arrV_new]
  have o1 : ∀ q : Nat, q < y.2.2 → H1[q]? = H[q]? := fun q hq => by rw [← hH1, Array.getElem?_push, if_neg (by rw [hz]; exact Nat.ne_of_lt hq)]
  have hcA : E.2.1 18 = cA := by
    obtain ⟨k9, c9, g1, g2, g3, g4⟩ := (hK.2 8 _ rfl).2
    exact Option.some.inj (g4.symm.trans f1)
  have hat : va_at E.1 vwCl (y.2.2, m_cell E.2.1 (m_do y (o_n 18 v.toNatClampNeg)).1 (m_do y (o_n 18 v.toNatClampNeg)).2.1 y.2.2) H1 := by
    rw [m_cA (m_do_new y 18 _).1.2 (by decide), (m_do_new y 18 _).2]
    have e9 : m_ar 18 (m_zr y.2.1 y.2.2) y.2.2 v.toNatClampNeg = (v.toNatClampNeg, .inr (.inr (.inr (.inr (fun _ => none))))) := by
      show (_, _) = (_, _)
      congr 1
      simp [m_zr]
    show H1[y.2.2]? = some (vp_cell (E.2.1 18) (m_ar 18 (m_zr y.2.1 y.2.2) y.2.2 v.toNatClampNeg))
    rw [e9, hcA, e1]
    rfl
  obtain ⟨a1, a2, a3, a4⟩ := m_made hz hP hD hS hA z1 o1 hat
  rw [← hz] at h
  exact h H1 locs ls a1 a2 a3 a4 hl

theorem n_aast18 {x : m_X} {l9 : Launch} {own : String} {cc : ByteArray} {nL : Nat} {rm : Room} {y : m_Y} {k n pc q : Nat} {L : List (Nat × Value)} {st : List Value} {a b : Nat} {i : Int32} {y' : m_Y} (C : m_H x l9 own cc nL rm) (g : m_ok y.1 a 18 ∧ m_in i (y.1.2.2 a)) (g2 : m_ok y.1 b 7) {j : Nat} (hj : i.toNatClampNeg = j) (e : y' = m_do y (o_R a j (some b))) (d : decode cc pc = .ok (.aastore, 1)) (hq : pc + 1 = q) (h : m_N x y' nL k n q L st) : m_N x y nL k n pc L (.ref b :: .int i :: .ref a :: st) := by
  subst hq; subst hj; subst e; obtain ⟨p, l, e, R, s, m, args, below, meth, c, E, A, Q⟩ := x; obtain ⟨hx, hb, hml, hown, hts, hK, hA, hE, hlk', hR, hst, hl9⟩ := C; subst hb
  intro H locs ls hz hP hD hS hl
  obtain ⟨q0, ha9⟩ := m_at (E := E) (S := y.2.1) g.1.1
  have ha := ha9
  rw [m_cA g.1.2 (by decide)] at ha
  obtain ⟨qk, hv⟩ := m_at (E := E) (S := y.2.1) g2.1
  rw [m_cO g2.2 (by decide)] at hv
  have hc : vwCl[7]? = some (vwCl[7]'(by decide)) := rfl
  have hin := g.2
  have hlt : i.toNatClampNeg < y.1.2.2 a := Nat.not_le.mp fun q => hin (Or.inr q)
  have h0 : ¬ i < 0 := fun q => hin (Or.inl q)
  obtain ⟨r', hr', cellV, g1, g4, g3, -⟩ := hP qk _ hv
  have hcls := (hK.1 7 _ hc).2
  obtain ⟨kA, comp, k1, k2, k3, -⟩ := (hK.2 8 _ rfl).2
  have hcomp : comp = E.1.1 7 := Option.some.inj (k3.symm.trans hcls.1)
  subst hcomp
  obtain ⟨kC, hkC, -⟩ := hcls.2
  have e1 : (m_w E y.1 y.2.1).set q0 (a, .inl (E.2.1 18, y.1.2.2 a, .inr (.inr (.inr (.inr (va_up (y.2.1.2.2 a) i.toNatClampNeg (some b))))))) = m_w E y.1 (m_pR y.2.1 a i.toNatClampNeg (some b)) := by
    refine m_set hD g.1.1 ha9 ?_ (fun c hb => m_cR c hb)
    rw [m_cA g.1.2 (by decide)]
    congr 1
    show (_, _) = (_, _)
    congr 1
    show (_, _) = (_, _)
    congr 5
    funext j
    by_cases hj : j = i.toNatClampNeg
    · subst hj; simp [m_pR, va_up]
    · simp [m_pR, va_up, hj]
  refine W.aast hx rfl (hP q0 _ ha) (fun q h => by cases h) (fun h => by cases h) k1 k2 rfl hkC ⟨h0, by show _ < (arrV _ _ _).slots.size; rw [arrV_size]; exact hlt⟩ g1 (fun q h => by rw [g3] at h; cases h) (by rw [g4]; exact hkC) (by rw [g4]; exact va_assign hcls) rfl rfl d fun H1 e2 z oq => ?_
  refine h H1 _ ls (z.trans hz) ?_ ?_ (hS.put z oq (hD.2 q0 _ ha)) hl
  · show va_P E.1 vwCl (m_w E y.1 (m_pR y.2.1 a i.toNatClampNeg (some b))) H1
    rw [← e1]
    refine hP.set hD ha ?_ oq
    show H1[a]? = some (vp_cell _ _)
    rw [e2]
    show some ((vp_cell _ (_, .inr (.inr (.inr (.inr _))))).setSlot _ _) = _
    rw [vp_cell_q, vp_cell_q, arrV_store]
    congr 2
    funext q
    by_cases hq : q = i.toNatClampNeg
    · subst hq; simp [updV, va_up, va_rf]
    · simp [updV, va_up, hq]
  · show va_D A (m_w E y.1 (m_pR y.2.1 a i.toNatClampNeg (some b)))
    rw [← e1]; exact hD.set ha

theorem n_obj {x : m_X} {l9 : Launch} {own : String} {cc : ByteArray} {nL : Nat} {rm : Room} {y : m_Y} {k n pc q idx : Nat} {L : List (Nat × Value)} {st : List Value} {a : Nat} (C : m_H x l9 own cc nL rm) (w1 : Cond.methodLink own idx objectInit ∈ m_ws) (hfr : 1 ≤ rm.frames) (hlo : (st.map fun v => v.category).sum + 12 ≤ rm.locals) (d : decode cc pc = .ok (.invokespecial idx, 3)) (hq : pc + 3 = q) (h : m_N x y nL k n q L st) : m_N x y nL k n pc L (.ref a :: st) := by
  subst hq; obtain ⟨p, l, e, R, s, m, args, below, meth, c, E, A, Q⟩ := x; obtain ⟨hx, hb, hml, hown, hts, hK, hA, hE, hlk', hR, hst, hl9⟩ := C; subst hb; subst hR
  intro H locs ls hz hP hD hS hl
  refine W.objInit hx rfl hown (hts _ w1) (hts _ w_30) (hts _ w_31) rfl (by rw [hml]; exact hl.1) rfl d hfr ?_ (h H locs ls hz hP hD hS hl)
  show 2 * 0 + _ + 12 ≤ _
  omega
def m_pI9 (E : m_E) (y0 : m_Y) (Z : m_Z) (S : m_S) (sz : Option Nat) : State → Outcome → State → Prop := fun st o t => (o = .returned none ∧ (∀ n, sz = some n → t.heap.size = n) ∧ va_P E.1 vwCl (m_w E Z S) t.heap ∧ va_D (m_A y0.1 y0.2.2) (m_w E Z S)) ∧ va_F (m_A y0.1 y0.2.2) st t
/-- a constructor's contract: it leaves Z and S, and a heap of that size -/
def m_CI (l : Launch) (y : MethodName) (ws : List Cond) (rm : Room) (mc ms : Nat) (args : List Value) (y0 : m_Y) (Z : m_Z) (S : m_S) (sz : Option Nat) : Prop := ∀ E : m_E, Met l y ws rm (m_pre E args y0.1 y0.2.1 y0.2.2) (fun _ => m_pI9 E y0 Z S sz) mc ms (m_A y0.1 y0.2.2)
def m_FI (x : m_X) (y0 : m_Y) (Z : m_Z) (S : m_S) (sz : Option Nat) (mc ms : Nat) : Prop := match x with
  | (p, l, e, R, s, m, args, below, meth, c, E, A, Q) => Q = MQ below (fun _ => m_pI9 E y0 Z S sz) args s mc ms (m_A y0.1 y0.2.2) ∧ A = m_A y0.1 y0.2.2 ∧ meth.sig.returnType = none
theorem n_vret {x : m_X} {l9 : Launch} {own : String} {cc : ByteArray} {nL : Nat} {rm9 : Room} {y0 y : m_Y} {k n pc : Nat} {L : List (Nat × Value)} {Z : m_Z} {S : m_S} {sz : Option Nat} (C : m_H x l9 own cc nL rm9) (F : m_FI x y0 Z S sz k n) (hZ : y.1 = Z) (hS : y.2.1 = S) (hsz : ∀ n, sz = some n → y.2.2 = n) (d : decode cc pc = .ok (.return_, 1)) : m_N x y nL k n pc L [] := by
  subst hZ; subst hS
  obtain ⟨p, l, e, R, s, m, args9, below, meth, c, E, A, Q⟩ := x; obtain ⟨hx, hb, hml, hown, hts, hK, hA, hE, hlk, hR, hst, hl9⟩ := C; obtain ⟨rfl, rfl, hr⟩ := F; subst hb
  intro H locs ls hz hP hD hS hl
  exact W.vret hx rfl hr (fun t ht hW => ⟨⟨rfl, fun n hn => by rw [ht, hz]; exact hsz n hn, by rw [ht]; exact hP, hD⟩, hS.F ht⟩) hS.2.2 d
theorem n_vretG {x : m_X} {l9 : Launch} {own : String} {cc : ByteArray} {nL : Nat} {rm9 : Room} {y0 : m_Y} {k n pc : Nat} {L : List (Nat × Value)} {Z : m_Z} {S : m_S} (C : m_H x l9 own cc nL rm9) (F : m_FI x y0 Z S none k n) (d : decode cc pc = .ok (.return_, 1)) : m_G x Z S nL k n pc L [] := by
  obtain ⟨p, l, e, R, s, m, args9, below, meth, c, E, A, Q⟩ := x; obtain ⟨hx, hb, hml, hown, hts, hK, hA, hE, hlk, hR, hst, hl9⟩ := C; obtain ⟨rfl, rfl, hr⟩ := F; subst hb
  intro H locs ls hP hD hS hl
  exact W.vret hx rfl hr (fun t ht hW => ⟨⟨rfl, (fun n hn => by cases hn), by rw [ht]; exact hP, hD⟩, hS.F ht⟩) hS.2.2 d
theorem m_entI {l : Launch} {y : MethodName} {bytes : ByteArray} {maxL mc ms : Nat} {rm : Room} {cargs : List Value} {y0 : m_Y} {Z : m_Z} {S : m_S} {sz : Option Nat} (hl : l.stackTraces = false) (hy : plainName y.cls = true) (hlen : (lg_sl cargs).length ≤ maxL) (body : ∀ x : m_X, m_H x l y.cls bytes maxL rm → m_FI x y0 Z S sz mc ms → x.2.2.2.2.2.2.2.2.1.name = y.name → m_N x y0 maxL 0 0 0 (lv_args 0 cargs) []) : m_CI l y (.code y bytes maxL none :: m_ws) rm mc ms cargs y0 Z S sz := by
  intro E
  refine Met.ofW (cc := bytes) (maxL := maxL) (ret := none) hy rfl ?_
  intro p e s m args below meth c s₁ B hml hv
  obtain ⟨rfl, hsz, hP, hD0, hK, hEV⟩ := hv
  have hts := atoms_spec (ws := .code y bytes maxL none :: m_ws) B.pre
  have hb := body (p, l, e, (headSpec (.code y bytes maxL none :: m_ws) rm).room, s, m, _, below, meth, c, E, m_A y0.1 y0.2.2, MQ below (fun _ => m_pI9 E y0 Z S sz) _ s mc ms (m_A y0.1 y0.2.2)) ⟨B.exec, B.bytes, hml, findClass_of_methodNamed B.named, fun w h => hts w (List.mem_cons_of_mem _ h), hK, fun q h => Or.inr (by rw [← hsz]; exact h), hEV, B.notSynchronized, rfl, hl, rfl⟩ ⟨rfl, rfl, B.returns⟩ (name_of_methodNamed B.named B.method).1
  have hl2 := lv_entry cargs (n := maxL) hlen
  rw [lg_entry_eq]
  refine hb s.heap [] _ hsz hP ⟨hD0.1, fun i q hi => Or.inl ?_⟩ va_S.rf hl2
  obtain ⟨a, ha, rfl⟩ := List.mem_map.mp (List.mem_of_getElem? hi)
  exact ha
section RUNI
variable {p : Program} {l : Launch} {e : Env} {R : Room} {s : State} {m : MethodId} {args : Array Value} {below : List Frame} {meth : Method} {c : Code} {H : Heap} {locs : List Loc} {cells slots : Nat} {Q : State → Prop}
variable {pc : Nat} {ls : Array Slot} {rest st0 : List Value} {A0 : Nat → Prop} {H0 : Heap} {mc ms : Nat}
theorem m_runI {E : m_E} {y0 : m_Y} {Z : m_Z} {S : m_S} {sz : Option Nat} (hr : va_Run p l e R s m args below meth c H locs cells slots mc ms (F0 m pc ls st0) rest (m_pI9 E y0 Z S sz) (m_A y0.1 y0.2.2)) (hS : va_S A0 H0 H locs) (hA : ∀ q, m_A y0.1 y0.2.2 q → A0 q)
    (kk : ∀ (H1 : Heap) (locs1 : List Loc), (∀ n, sz = some n → H1.size = n) → va_P E.1 vwCl (m_w E Z S) H1 → va_D A0 (m_w E Z S) → va_S A0 H0 H1 locs1 → W p l e R s m args below meth c H1 locs1 (cells + mc) (slots + ms) Q (F0 m (pc + 3) ls rest)) : W p l e R s m args below meth c H locs cells slots Q (F0 m pc ls st0) := by
  intro T hT X
  obtain ⟨v', st₀, t, T', L, h0, X', hL, e1, e2, ⟨⟨hv, hsz, hb, hD⟩, hz, hk⟩, st⟩ := hr T hT X
  cases hv
  rw [h0] at hz hk
  obtain ⟨t2, a1, b1⟩ := kk T'.heap (locs ++ L) (by rw [e1]; exact hsz) (by rw [e1]; exact hb) ⟨hD.1, fun i q hi => hA _ (hD.2 i q hi)⟩
    ⟨Nat.le_trans hS.1 (by rw [e1]; exact hz), fun q h1 h2 => by rw [e1, hk q (Nat.lt_of_lt_of_le h1 hS.1) (fun z => h2 (hA q z))]; exact hS.2.1 q h1 h2, fun q hq => by
      rcases List.mem_append.mp hq with h | h
      · exact hS.2.2 q h
      · exact hA _ (hL q h)⟩ T' rfl X'
  exact ⟨t2, st t2 a1, b1⟩
end RUNI
theorem m_goodI {own : String} {idx : Nat} {y : MethodName} {cd : Cond} (w5 : cd ∈ m_ws) : GoodIn m_ws (cd :: m_ws) := m_goodC w5

theorem n_callI {x : m_X} {l9 : Launch} {own : String} {cc : ByteArray} {nL : Nat} {rm9 : Room} {y : m_Y} {k n pc q : Nat} {L : List (Nat × Value)} {st : List Value} {y9 : MethodName} {bytes : ByteArray} {maxL idx mc ms : Nat} {rm : Room} {Z' : m_Z} {S' : m_S} {sz : Option Nat} {b : Nat} (C : m_H x l9 own cc nL rm9) (hM : m_CI l9 y9 (.code y9 bytes maxL none :: m_ws) rm mc ms [.ref b] y Z' S' sz) (w1 : Cond.methodLink own idx y9 ∈ m_ws) (w2 : Cond.instanceMethod y9 ∈ m_ws) (w4 : Cond.initialized y9.cls ∈ m_ws) (w5 : Cond.code y9 bytes maxL none ∈ m_ws) (hy1 : y9.name = "<init>") (hd : y9.cls ≠ "java/lang/invoke/MethodHandle" ∧ y9.cls ≠ "java/lang/invoke/VarHandle" ∧ (parseMethodDescriptor y9.desc).map (fun d => d.parameters.length) = some 0) (hrc : rm.cells = mc) (hrs : rm.slots = ms) (hRm : rm.frames + 1 ≤ rm9.frames ∧ 8 + (maxL + 11) + rm.locals ≤ rm9.locals) (hst8 : (st.map fun v => v.category).sum ≤ 8) (hroom : k + mc ≤ rm9.cells ∧ n + ms ≤ rm9.slots) (d : decode cc pc = .ok (.invokespecial idx, 3)) (hq : pc + 3 = q) (hG : sz = none → m_G x Z' S' nL (k + mc) (n + ms) q L st) (h : ∀ z, sz = some z → m_N x (Z', S', z) nL (k + mc) (n + ms) q L st) : m_N x y nL k n pc L (.ref b :: st) := by
  subst hq; obtain ⟨p, l, e, R, s, m, args9, below, meth, c, E, A, Q⟩ := x; obtain ⟨hx, hb, hml, hown, hts, hK, hA, hE, hlk, hR, hst, hl9⟩ := C; subst hb; subst hR; subst hl9
  intro H locs ls hz hP hD hS hl
  have hsub := m_Asub hA hD hS
  rw [hz] at hsub
  have hpre : ∀ U : State, U.heap = H → s.WarmedH U.vm → m_pre E [.ref b] y.1 y.2.1 y.2.2 (Array.mk [.ref b]) U := fun U hU hW => ⟨rfl, by rw [hU]; exact hz, by rw [hU]; exact hP, ⟨hD.1, fun _ _ _ => trivial⟩, va_K.moved hW.alike hK, by rw [hU]; exact hE.go hW hS.2.1 hsub⟩
  refine m_runI (va_runI (As := []) (rest := st) ⟨hx, rfl, hml, hown, hts⟩ (hM E) (cwI 0 hts (m_goodC w5) rfl hrc hrs (hts _ w4) (hts _ w1) (hts _ w2) hy1 hd hRm) ⟨m_pre.blind, hpre⟩ rfl rfl hl.1 rfl (lv_room hst8) d hroom) hS hsub (fun H1 locs1 hsz h1 h2 h3 => ?_)
  cases sz with
  | none => exact hG rfl H1 locs1 ls h1 h2 h3 hl
  | some z => exact h z rfl H1 locs1 ls (hsz z rfl) h1 h2 h3 hl

theorem n_callN {x : m_X} {l9 : Launch} {own : String} {cc : ByteArray} {nL : Nat} {rm9 : Room} {y : m_Y} {k n pc q : Nat} {L : List (Nat × Value)} {st : List Value} {y9 : MethodName} {bytes : ByteArray} {maxL idx mc ms : Nat} {rm : Room} {Z' : m_Z} {S' : m_S} {sz : Option Nat} {b : Nat} (C : m_H x l9 own cc nL rm9) (hM : m_CI l9 y9 (.code y9 bytes maxL none :: m_ws) rm mc ms [.ref b] y Z' S' sz) (w1 : (own, idx, y9) ∈ m_NM) (w2 : Cond.instanceMethod y9 ∈ m_ws) (w4 : Cond.initialized y9.cls ∈ m_ws) (w5 : Cond.code y9 bytes maxL none ∈ m_ws) (hy1 : y9.name = "<init>") (hd : y9.cls ≠ "java/lang/invoke/MethodHandle" ∧ y9.cls ≠ "java/lang/invoke/VarHandle" ∧ (parseMethodDescriptor y9.desc).map (fun d => d.parameters.length) = some 0) (hrc : rm.cells = mc) (hrs : rm.slots = ms) (hRm : rm.frames + 1 ≤ rm9.frames ∧ 8 + (maxL + 11) + rm.locals ≤ rm9.locals) (hst8 : (st.map fun v => v.category).sum ≤ 8) (hroom : k + mc ≤ rm9.cells ∧ n + ms ≤ rm9.slots) (d : decode cc pc = .ok (.invokespecial idx, 3)) (hq : pc + 3 = q) (hG : sz = none → m_G x Z' S' nL (k + mc) (n + ms) q L st) (h : ∀ z, sz = some z → m_N x (Z', S', z) nL (k + mc) (n + ms) q L st) : m_N x y nL k n pc L (.ref b :: st) := by
  subst hq; obtain ⟨p, l, e, R, s, m, args9, below, meth, c, E, A, Q⟩ := x; obtain ⟨hx, hb, hml, hown, hts, hK, hA, hE, hlk, hR, hst, hl9⟩ := C; subst hb; subst hR; subst hl9
  intro H locs ls hz hP hD hS hl
  have hsub := m_Asub hA hD hS
  rw [hz] at hsub
  have hpre : ∀ U : State, U.heap = H → s.WarmedH U.vm → m_pre E [.ref b] y.1 y.2.1 y.2.2 (Array.mk [.ref b]) U := fun U hU hW => ⟨rfl, by rw [hU]; exact hz, by rw [hU]; exact hP, ⟨hD.1, fun _ _ _ => trivial⟩, va_K.moved hW.alike hK, by rw [hU]; exact hE.go hW hS.2.1 hsub⟩
  refine m_runI (va_runIN (As := []) (rest := st) ⟨hx, rfl, hml, hown, hts⟩ (hM E) ⟨va_cnB 0 hts (m_goodC w5) rfl hrc hrs (hE.2.1 _ w1) (hts _ w4) hd hRm, hy1, hts _ w2⟩ ⟨m_pre.blind, hpre⟩ rfl rfl hl.1 rfl (lv_room hst8) d hroom) hS hsub (fun H1 locs1 hsz h1 h2 h3 => ?_)
  cases sz with
  | none => exact hG rfl H1 locs1 ls h1 h2 h3 hl
  | some z => exact h z rfl H1 locs1 ls (hsz z rfl) h1 h2 h3 hl
