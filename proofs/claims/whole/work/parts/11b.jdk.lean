/-! the JDK's own methods on the text constants: length, charAt, and what they call -/
def m_CtE (l : Launch) (y : MethodName) (ws : List Cond) (rm : Room) (args : m_E → List Value) (Z : m_Z) (S : m_S) (v : Option Value) (S' : m_S) : Prop := ∀ (E : m_E) (sz : Nat), Met l y ws rm (m_pre E (args E) Z S sz) (m_post E v Z S' sz) 0 0 (m_A Z sz)
def m_XE (x : m_X) : m_E := x.2.2.2.2.2.2.2.2.2.2.1
theorem m_entE {l : Launch} {y : MethodName} {bytes : ByteArray} {maxL : Nat} {ret : Option FieldType} {rm : Room} {cargs : m_E → List Value} {Z : m_Z} {S S' : m_S} {v : Option Value} (hl : l.stackTraces = false) (hy : plainName y.cls = true) (hlen : ∀ f, (lg_sl (cargs f)).length ≤ maxL) (body : ∀ x : m_X, m_H x l y.cls bytes maxL rm → m_F x Z ret v S' → m_G x Z S maxL 0 0 0 (lv_args 0 (cargs (m_XE x))) []) : m_CtE l y (.code y bytes maxL ret :: m_ws) rm cargs Z S v S' := by
  intro E sz
  refine Met.ofW (cc := bytes) (maxL := maxL) (ret := ret) hy rfl ?_
  intro p e s m args below meth c s₁ B hml hv
  obtain ⟨rfl, rfl, hP, hD0, hK, hEV⟩ := hv
  have hts := atoms_spec (ws := .code y bytes maxL ret :: m_ws) B.pre
  have hb := body (p, l, e, (headSpec (.code y bytes maxL ret :: m_ws) rm).room, s, m, _, below, meth, c, E, m_A Z s.heap.size, MQ below (m_post E v Z S' s.heap.size) _ s 0 0 (m_A Z s.heap.size)) ⟨B.exec, B.bytes, hml, findClass_of_methodNamed B.named, fun w h => hts w (List.mem_cons_of_mem _ h), hK, fun q h => Or.inr h, hEV, B.notSynchronized, rfl, hl, rfl⟩ ⟨rfl, rfl, B.returns⟩
  have hl2 := lv_entry (cargs E) (n := maxL) (hlen _)
  rw [lg_entry_eq]
  refine hb s.heap [] _ hP ⟨hD0.1, fun i q hi => Or.inl ?_⟩ va_S.rf hl2
  obtain ⟨a, ha, rfl⟩ := List.mem_map.mp (List.mem_of_getElem? hi)
  exact ha
theorem r_callSE {x : m_X} {l9 : Launch} {own : String} {cc : ByteArray} {nL : Nat} {rm9 : Room} {Z : m_Z} {S : m_S} {k n pc q : Nat} {L : List (Nat × Value)} {st st0 st1 : List Value} {y : MethodName} {bytes : ByteArray} {maxL idx : Nat} {ret : Option FieldType} {rm : Room} {As : List Value} {S' : m_S} {cargs : m_E → List Value} {v : Option Value} (C : m_H x l9 own cc nL rm9) (hM : m_CtE l9 y (.code y bytes maxL ret :: m_ws) rm cargs Z S v S') (hargs : cargs (m_XE x) = As) (w1 : Cond.methodLink own idx y ∈ m_ws) (w2 : Cond.static y ∈ m_ws) (w4 : Cond.initialized y.cls ∈ m_ws) (w5 : Cond.code y bytes maxL ret ∈ m_ws) (hd : y.cls ≠ "java/lang/invoke/MethodHandle" ∧ y.cls ≠ "java/lang/invoke/VarHandle" ∧ (parseMethodDescriptor y.desc).map (fun d => d.parameters.length) = some As.length) (hs : st0 = As.reverse ++ st) (hrc : rm.cells = 0) (hrs : rm.slots = 0) (hRm : rm.frames + 1 ≤ rm9.frames ∧ 8 + (maxL + 11) + rm.locals ≤ rm9.locals) (hst8 : (st.map fun v => v.category).sum ≤ 8) (hroom : k ≤ rm9.cells ∧ n ≤ rm9.slots) (d : decode cc pc = .ok (.invokestatic idx, 3)) (hq : pc + 3 = q) (hs1 : v.toList ++ st = st1) (h : m_G x Z S' nL k n q L st1) : m_G x Z S nL k n pc L st0 := by
  subst hq; subst hs; subst hs1; obtain ⟨p, l, e, R, s, m, args9, below, meth, c, E, A, Q⟩ := x; obtain ⟨hx, hb, hml, hown, hts, hK, hA, hE, hlk, hR, hst, hl9⟩ := C; subst hb; subst hR; subst hl9
  intro H locs ls hP hD hS hl
  have hsub := m_Asub hA hD hS
  have hM9 := hM E H.size
  rw [show cargs E = _ from hargs] at hM9
  have hpre : ∀ U : State, U.heap = H → s.WarmedH U.vm → m_pre E As Z S H.size (Array.mk As) U := fun U hU hW => ⟨rfl, by rw [hU], by rw [hU]; exact hP, ⟨hD.1, fun _ _ _ => trivial⟩, va_K.moved hW.alike hK, by rw [hU]; exact hE.go hW hS.2.1 hsub⟩
  exact m_run (va_runS (As := As) (rest := st) ⟨hx, rfl, hml, hown, hts⟩ hM9 (va_cwS As.length hts (m_goodS w1 w2 w4 w5) rfl hrc hrs hd hRm) ⟨m_pre.blind, hpre⟩ rfl rfl hl.1 rfl (lv_room hst8) d hroom) hS (fun q _ h => hsub q h) (fun q h => hsub q h) (fun H1 locs1 h1 h2 => h H1 locs1 ls h1 (m_D hD) h2 hl)
theorem r_callJ {x : m_X} {l9 : Launch} {own : String} {cc : ByteArray} {nL : Nat} {rm9 : Room} {Z : m_Z} {S : m_S} {k n pc q : Nat} {L : List (Nat × Value)} {st st0 st1 : List Value} {y : MethodName} {bytes : ByteArray} {maxL idx : Nat} {ret : Option FieldType} {rm : Room} {As : List Value} {S' : m_S} {cargs : m_E → List Value} {v : Option Value} {i : Nat} (C : m_H x l9 own cc nL rm9) (hM : m_CtE l9 y (.code y bytes maxL ret :: m_ws) rm cargs Z S v S') (hargs : cargs (m_XE x) = .ref (m_K x i) :: As) (w1 : Cond.methodLink own idx y ∈ m_ws) (w2 : Cond.instanceMethod y ∈ m_ws) (w3 : Cond.selects "java/lang/String" y y ∈ m_ws) (w4 : Cond.initialized "java/lang/String" ∈ m_ws) (w5 : Cond.code y bytes maxL ret ∈ m_ws) (hd : y.cls = "java/lang/String" ∧ y.cls ≠ "java/lang/invoke/MethodHandle" ∧ y.cls ≠ "java/lang/invoke/VarHandle" ∧ (parseMethodDescriptor y.desc).map (fun d => d.parameters.length) = some As.length) (g : i < 8) (hs : st0 = As.reverse ++ .ref (m_K x i) :: st) (hrc : rm.cells = 0) (hrs : rm.slots = 0) (hRm : rm.frames + 1 ≤ rm9.frames ∧ 8 + (maxL + 11) + rm.locals ≤ rm9.locals) (hst8 : (st.map fun v => v.category).sum ≤ 8) (hroom : k ≤ rm9.cells ∧ n ≤ rm9.slots) (d : decode cc pc = .ok (.invokevirtual idx, 3)) (hq : pc + 3 = q) (hs1 : v.toList ++ st = st1) (h : m_G x Z S' nL k n q L st1) : m_G x Z S nL k n pc L st0 := by
  subst hq; subst hs; subst hs1; obtain ⟨p, l, e, R, s, m, args9, below, meth, c, E, A, Q⟩ := x; obtain ⟨hx, hb, hml, hown, hts, hK, hA, hE, hlk, hR, hst, hl9⟩ := C; subst hb; subst hR; subst hl9
  intro H locs ls hP hD hS hl
  have hsub := m_Asub hA hD hS
  have hM9 := hM E H.size
  rw [show cargs E = _ from hargs] at hM9
  have hpre : ∀ U : State, U.heap = H → s.WarmedH U.vm → m_pre E (.ref (E.2.2.1 i) :: As) Z S H.size (Array.mk (.ref (E.2.2.1 i) :: As)) U := fun U hU hW => ⟨rfl, by rw [hU], by rw [hU]; exact hP, ⟨hD.1, fun _ _ _ => trivial⟩, va_K.moved hW.alike hK, by rw [hU]; exact hE.go hW hS.2.1 hsub⟩
  have hV := hE.2.2.2.2.2.1
  exact m_run (va_runV (C := "java/lang/String") (b := E.2.2.1 i) (As := As) (rest := st) ⟨hx, rfl, hml, hown, hts⟩ hM9 (cwV As.length hts (m_goodV w1 w2 w3 w4 w5) rfl hrc hrs hd hRm) ⟨m_pre.blind, vk_recv hV g hS, hpre⟩ rfl rfl hl.1 rfl (lv_room hst8) d hroom) hS (fun q _ h => hsub q h) (fun q h => hsub q h) (fun H1 locs1 h1 h2 => h H1 locs1 ls h1 (m_D hD) h2 hl)
theorem m_vS {E : m_E} {A : Nat → Prop} {U : State} {H : Heap} (h : m_EV E A U H) : vk_S 8 m_len m_byt E.2.2.1 E.2.2.2 A U H := h.2.2.2.2.2.1
theorem r_gsC {x : m_X} {l9 : Launch} {own : String} {cc : ByteArray} {nL : Nat} {rm9 : Room} {Z : m_Z} {S : m_S} {k n pc q : Nat} {L : List (Nat × Value)} {st : List Value} (C : m_H x l9 own cc nL rm9) {i : Nat} (w1 : Cond.fieldLink own i "java/lang/String" "COMPACT_STRINGS" "Z" ∈ m_ws) (d : decode cc pc = .ok (.getstatic i, 3)) (hq : pc + 3 = q) (h : m_G x Z S nL k n q L (.int 1 :: st)) : m_G x Z S nL k n pc L st := by
  subst hq; obtain ⟨p, l, e, R, s, m, args9, below, meth, c, E, A, Q⟩ := x; obtain ⟨hx, hb, hml, hown, hts, hK, hA, hE, hlk, hR, hst, hl9⟩ := C; subst hb
  intro H locs ls hP hD hS hl
  exact va_gets hx rfl hE.2.2.2.2.2.2.1 hS hown (hts _ w1) (fun _ h => h) d (h H locs ls hP hD hS hl)
theorem r_gsF {x : m_X} {l9 : Launch} {own : String} {cc : ByteArray} {nL : Nat} {rm9 : Room} {Z : m_Z} {S : m_S} {k n pc q : Nat} {L : List (Nat × Value)} {st : List Value} (C : m_H x l9 own cc nL rm9) {i : Nat} (w1 : Cond.fieldLink own i "jdk/internal/util/Preconditions" "SIOOBE_FORMATTER" "Ljava/util/function/BiFunction;" ∈ m_ws) (d : decode cc pc = .ok (.getstatic i, 3)) (hq : pc + 3 = q) (h : ∀ o : Option Nat, m_G x Z S nL k n q L (va_rf o :: st)) : m_G x Z S nL k n pc L st := by
  subst hq; obtain ⟨p, l, e, R, s, m, args9, below, meth, c, E, A, Q⟩ := x; obtain ⟨hx, hb, hml, hown, hts, hK, hA, hE, hlk, hR, hst, hl9⟩ := C; subst hb
  intro H locs ls hP hD hS hl
  rcases hE.2.2.2.2.2.2.2.1 with hZ | ⟨t, hZ⟩
  · exact va_gets hx rfl hZ hS hown (hts _ w1) (fun _ h => h) d (h none H locs ls hP hD hS hl)
  · exact va_gets hx rfl hZ hS hown (hts _ w1) (fun _ h => h) d (h (some t) H locs ls hP hD hS hl)
theorem r_scod {x : m_X} {l9 : Launch} {own : String} {cc : ByteArray} {nL : Nat} {rm9 : Room} {Z : m_Z} {S : m_S} {k n pc q : Nat} {L : List (Nat × Value)} {st : List Value} (C : m_H x l9 own cc nL rm9) {i j : Nat} (g : j < 8) (w1 : Cond.fieldLink own i "java/lang/String" "coder" "B" ∈ m_ws) (d : decode cc pc = .ok (.getfield i, 3)) (hq : pc + 3 = q) (h : m_G x Z S nL k n q L (.int 0 :: st)) : m_G x Z S nL k n pc L (.ref ((m_XE x).2.2.1 j) :: st) := by
  subst hq; obtain ⟨p, l, e, R, s, m, args9, below, meth, c, E, A, Q⟩ := x; obtain ⟨hx, hb, hml, hown, hts, hK, hA, hE, hlk, hR, hst, hl9⟩ := C; subst hb
  intro H locs ls hP hD hS hl
  exact vk_getf hx rfl ((m_vS hE).1 j g).2.1 hS hown (hts _ w1) (fun _ h => h) d (h H locs ls hP hD hS hl)
theorem r_sval {x : m_X} {l9 : Launch} {own : String} {cc : ByteArray} {nL : Nat} {rm9 : Room} {Z : m_Z} {S : m_S} {k n pc q : Nat} {L : List (Nat × Value)} {st : List Value} (C : m_H x l9 own cc nL rm9) {i j : Nat} (g : j < 8) (w1 : Cond.fieldLink own i "java/lang/String" "value" "[B" ∈ m_ws) (d : decode cc pc = .ok (.getfield i, 3)) (hq : pc + 3 = q) (h : m_G x Z S nL k n q L (.ref ((m_XE x).2.2.2 j) :: st)) : m_G x Z S nL k n pc L (.ref ((m_XE x).2.2.1 j) :: st) := by
  subst hq; obtain ⟨p, l, e, R, s, m, args9, below, meth, c, E, A, Q⟩ := x; obtain ⟨hx, hb, hml, hown, hts, hK, hA, hE, hlk, hR, hst, hl9⟩ := C; subst hb
  intro H locs ls hP hD hS hl
  exact vk_getf hx rfl ((m_vS hE).1 j g).2.2.1 hS hown (hts _ w1) (fun _ h => h) d (h H locs ls hP hD hS hl)
theorem r_sal {x : m_X} {l9 : Launch} {own : String} {cc : ByteArray} {nL : Nat} {rm9 : Room} {Z : m_Z} {S : m_S} {k n pc q : Nat} {L : List (Nat × Value)} {st : List Value} (C : m_H x l9 own cc nL rm9) {j : Nat} (g : j < 8) (d : decode cc pc = .ok (.arraylength, 1)) (hq : pc + 1 = q) (h : m_G x Z S nL k n q L (.int (Int32.ofNat (m_len.getD j 0)) :: st)) : m_G x Z S nL k n pc L (.ref ((m_XE x).2.2.2 j) :: st) := by
  subst hq; obtain ⟨p, l, e, R, s, m, args9, below, meth, c, E, A, Q⟩ := x; obtain ⟨hx, hb, hml, hown, hts, hK, hA, hE, hlk, hR, hst, hl9⟩ := C; subst hb
  intro H locs ls hP hD hS hl
  exact va_tlen hx rfl ((m_vS hE).1 j g).2.2.2 hS rfl d (h H locs ls hP hD hS hl)
theorem r_sbal {x : m_X} {l9 : Launch} {own : String} {cc : ByteArray} {nL : Nat} {rm9 : Room} {Z : m_Z} {S : m_S} {k n pc q : Nat} {L : List (Nat × Value)} {st : List Value} (C : m_H x l9 own cc nL rm9) {j : Nat} {z : Int32} (g : j < 8) (g2 : m_in z (m_len.getD j 0)) (d : decode cc pc = .ok (.baload, 1)) (hq : pc + 1 = q) (h : m_G x Z S nL k n q L (.int ((m_byt.getD j []).getD z.toNatClampNeg 0) :: st)) : m_G x Z S nL k n pc L (.int z :: .ref ((m_XE x).2.2.2 j) :: st) := by
  subst hq; obtain ⟨p, l, e, R, s, m, args9, below, meth, c, E, A, Q⟩ := x; obtain ⟨hx, hb, hml, hown, hts, hK, hA, hE, hlk, hR, hst, hl9⟩ := C; subst hb
  intro H locs ls hP hD hS hl
  exact va_tb hx rfl ((m_vS hE).1 j g).2.2.2 hS g2 rfl d (h H locs ls hP hD hS hl)
theorem r_i2c {x : m_X} {l9 : Launch} {own : String} {cc : ByteArray} {nL : Nat} {rm9 : Room} {Z : m_Z} {S : m_S} {k n pc q : Nat} {L : List (Nat × Value)} {st : List Value} (C : m_H x l9 own cc nL rm9) {a : Int32} (d : decode cc pc = .ok (.i2c, 1)) (hq : pc + 1 = q) (h : m_G x Z S nL k n q L (.int (a.toUInt32 % 65536).toInt32 :: st)) : m_G x Z S nL k n pc L (.int a :: st) := by
  subst hq; obtain ⟨p, l, e, R, s, m, args9, below, meth, c, E, A, Q⟩ := x; obtain ⟨hx, hb, hml, hown, hts, hK, hA, hE, hlk, hR, hst, hl9⟩ := C; subst hb
  intro H locs ls hP hD hS hl
  exact lv_i2c hx rfl d rfl (h H locs ls hP hD hS hl)
theorem r_nret {x : m_X} {l9 : Launch} {own : String} {cc : ByteArray} {nL : Nat} {rm9 : Room} {Z : m_Z} {S : m_S} {pc : Nat} {L : List (Nat × Value)} {v : Int32} {ty : FieldType} (C : m_H x l9 own cc nL rm9) (F : m_F x Z (some ty) (some (.int v)) S) (hz : narrow ty (.int v) = .int v) (d : decode cc pc = .ok (.ireturn, 1)) : m_G x Z S nL 0 0 pc L [.int v] := by
  obtain ⟨p, l, e, R, s, m, args9, below, meth, c, E, A, Q⟩ := x; obtain ⟨hx, hb, hml, hown, hts, hK, hA, hE, hlk, hR, hst, hl9⟩ := C; obtain ⟨rfl, rfl, hr⟩ := F; subst hb
  intro H locs ls hP hD hS hl
  exact W.zret (ty := ty) hx rfl hr hz (fun t ht hW => ⟨⟨rfl, by rw [ht]; exact hP⟩, hS.F ht⟩) hS.2.2 d

theorem hd_J0_coder_7d493 : yJ0_coder_7d493.cls = "java/lang/String" ∧ yJ0_coder_7d493.cls ≠ "java/lang/invoke/MethodHandle" ∧ yJ0_coder_7d493.cls ≠ "java/lang/invoke/VarHandle" ∧ (parseMethodDescriptor yJ0_coder_7d493.desc).map (fun d => d.parameters.length) = some 0 := by decide +kernel
theorem hd_J0_isLatin1_aae02 : yJ0_isLatin1_aae02.cls = "java/lang/String" ∧ yJ0_isLatin1_aae02.cls ≠ "java/lang/invoke/MethodHandle" ∧ yJ0_isLatin1_aae02.cls ≠ "java/lang/invoke/VarHandle" ∧ (parseMethodDescriptor yJ0_isLatin1_aae02.desc).map (fun d => d.parameters.length) = some 0 := by decide +kernel
theorem hd_J0_length_8abf5 : yJ0_length_8abf5.cls = "java/lang/String" ∧ yJ0_length_8abf5.cls ≠ "java/lang/invoke/MethodHandle" ∧ yJ0_length_8abf5.cls ≠ "java/lang/invoke/VarHandle" ∧ (parseMethodDescriptor yJ0_length_8abf5.desc).map (fun d => d.parameters.length) = some 0 := by decide +kernel
theorem hd_J0_charAt_5068e : yJ0_charAt_5068e.cls = "java/lang/String" ∧ yJ0_charAt_5068e.cls ≠ "java/lang/invoke/MethodHandle" ∧ yJ0_charAt_5068e.cls ≠ "java/lang/invoke/VarHandle" ∧ (parseMethodDescriptor yJ0_charAt_5068e.desc).map (fun d => d.parameters.length) = some 1 := by decide +kernel
theorem hd_J0_checkIndex_df160 : yJ0_checkIndex_df160.cls ≠ "java/lang/invoke/MethodHandle" ∧ yJ0_checkIndex_df160.cls ≠ "java/lang/invoke/VarHandle" ∧ (parseMethodDescriptor yJ0_checkIndex_df160.desc).map (fun d => d.parameters.length) = some 2 := by decide +kernel
theorem hd_J3_checkIndex_8e157 : yJ3_checkIndex_8e157.cls ≠ "java/lang/invoke/MethodHandle" ∧ yJ3_checkIndex_8e157.cls ≠ "java/lang/invoke/VarHandle" ∧ (parseMethodDescriptor yJ3_checkIndex_8e157.desc).map (fun d => d.parameters.length) = some 3 := by decide +kernel
theorem hd_J1_charAt_3b067 : yJ1_charAt_3b067.cls ≠ "java/lang/invoke/MethodHandle" ∧ yJ1_charAt_3b067.cls ≠ "java/lang/invoke/VarHandle" ∧ (parseMethodDescriptor yJ1_charAt_3b067.desc).map (fun d => d.parameters.length) = some 2 := by decide +kernel
abbrev rm_J0_coder_7d493 : Room := { frames := 0, cells := 0, slots := 0, locals := 0 }
set_option maxRecDepth 100000 in
theorem c_J0_coder_7d493 {l : Launch} (hl : l.stackTraces = false) {Z : m_Z} {S : m_S} {j : Nat} (g : j < 8) : m_CtE l yJ0_coder_7d493 (.code yJ0_coder_7d493 cJ0_coder_7d493 1 (some .byte) :: m_ws) rm_J0_coder_7d493 (fun E => [.ref (E.2.2.1 j)]) Z S (some (.int 0)) S := by
  refine m_entE hl (by decide) (fun _ => Nat.le_of_ble_eq_true rfl) (fun x C F => ?_)
  have C : m_H x l RJ0 cJ0_coder_7d493 1 rm_J0_coder_7d493 := C
  show m_G x Z S 1 0 0 0 [(0, .ref ((m_XE x).2.2.1 j))] []
  refine r_gsC (q := 3) C w_343 dJ0_coder_7d493_0 rfl ?_
  refine r_if_eq (t := 13) (q := 6) C dJ0_coder_7d493_3 (by decide) rfl (fun z => absurd z (by decide)) (fun _ => ?_)
  refine r_aload_n (q := 7) C 0 dJ0_coder_7d493_6 rfl rfl ?_
  refine r_scod (q := 10) C g w_1294 dJ0_coder_7d493_7 rfl ?_
  refine r_goto (t := 14) C dJ0_coder_7d493_10 (by decide) ?_
  exact r_nret C F (by decide) dJ0_coder_7d493_14
abbrev rm_J0_isLatin1_aae02 : Room := { frames := 0, cells := 0, slots := 0, locals := 0 }
set_option maxRecDepth 100000 in
theorem c_J0_isLatin1_aae02 {l : Launch} (hl : l.stackTraces = false) {Z : m_Z} {S : m_S} {j : Nat} (g : j < 8) : m_CtE l yJ0_isLatin1_aae02 (.code yJ0_isLatin1_aae02 cJ0_isLatin1_aae02 1 (some .boolean) :: m_ws) rm_J0_isLatin1_aae02 (fun E => [.ref (E.2.2.1 j)]) Z S (some (.int 1)) S := by
  refine m_entE hl (by decide) (fun _ => Nat.le_of_ble_eq_true rfl) (fun x C F => ?_)
  have C : m_H x l RJ0 cJ0_isLatin1_aae02 1 rm_J0_isLatin1_aae02 := C
  show m_G x Z S 1 0 0 0 [(0, .ref ((m_XE x).2.2.1 j))] []
  refine r_gsC (q := 3) C w_343 dJ0_isLatin1_aae02_0 rfl ?_
  refine r_if_eq (t := 17) (q := 6) C dJ0_isLatin1_aae02_3 (by decide) rfl (fun z => absurd z (by decide)) (fun _ => ?_)
  refine r_aload_n (q := 7) C 0 dJ0_isLatin1_aae02_6 rfl rfl ?_
  refine r_scod (q := 10) C g w_1294 dJ0_isLatin1_aae02_7 rfl ?_
  refine r_if_ne (t := 17) (q := 13) C dJ0_isLatin1_aae02_10 (by decide) rfl (fun z => absurd rfl z) (fun _ => ?_)
  refine r_iconst (q := 14) (v := 1) C dJ0_isLatin1_aae02_13 (by decide) rfl ?_
  refine r_goto (t := 18) C dJ0_isLatin1_aae02_14 (by decide) ?_
  exact r_nret C F (by decide) dJ0_isLatin1_aae02_18
abbrev rm_J0_length_8abf5 : Room := { frames := 1, cells := 0, slots := 0, locals := 30 }
set_option maxRecDepth 100000 in
theorem c_J0_length_8abf5 {l : Launch} (hl : l.stackTraces = false) {Z : m_Z} {S : m_S} {j : Nat} (g : j < 8) : m_CtE l yJ0_length_8abf5 (.code yJ0_length_8abf5 cJ0_length_8abf5 1 (some .int) :: m_ws) rm_J0_length_8abf5 (fun E => [.ref (E.2.2.1 j)]) Z S (some (.int (Int32.ofNat (m_len.getD j 0)))) S := by
  refine m_entE hl (by decide) (fun _ => Nat.le_of_ble_eq_true rfl) (fun x C F => ?_)
  have C : m_H x l RJ0 cJ0_length_8abf5 1 rm_J0_length_8abf5 := C
  show m_G x Z S 1 0 0 0 [(0, .ref ((m_XE x).2.2.1 j))] []
  refine r_aload_n (q := 1) C 0 dJ0_length_8abf5_0 rfl rfl ?_
  refine r_sval (q := 4) C g w_1293 dJ0_length_8abf5_1 rfl ?_
  refine r_sal (q := 5) C g dJ0_length_8abf5_4 rfl ?_
  refine r_aload_n (q := 6) C 0 dJ0_length_8abf5_5 rfl rfl ?_
  refine r_callJ (q := 9) (As := []) (i := j) C (c_J0_coder_7d493 hl g) rfl w_339 w_340 w_341 w_17 w_342 hd_J0_coder_7d493 g rfl rfl rfl ⟨(Nat.le_of_ble_eq_true rfl), (Nat.le_of_ble_eq_true rfl)⟩ (Nat.le_of_ble_eq_true rfl) ⟨(Nat.le_of_ble_eq_true rfl), (Nat.le_of_ble_eq_true rfl)⟩ dJ0_length_8abf5_6 rfl rfl ?_
  refine r_ishr (q := 10) C dJ0_length_8abf5_9 rfl ?_
  rw [sb_shr0]
  exact r_iret C F dJ0_length_8abf5_10
abbrev rm_J3_checkIndex_8e157 : Room := { frames := 0, cells := 0, slots := 0, locals := 0 }
set_option maxRecDepth 100000 in
theorem c_J3_checkIndex_8e157 {l : Launch} (hl : l.stackTraces = false) {Z : m_Z} {S : m_S} {a b : Int32} {o : Option Nat} (h0 : ¬ a < 0) (h1 : a < b) : m_CtE l yJ3_checkIndex_8e157 (.code yJ3_checkIndex_8e157 cJ3_checkIndex_8e157 3 (some .int) :: m_ws) rm_J3_checkIndex_8e157 (fun E => [.int a, .int b, va_rf o]) Z S (some (.int a)) S := by
  have key : ∀ (x : m_X) (v : Value), m_H x l RJ3 cJ3_checkIndex_8e157 3 rm_J3_checkIndex_8e157 → m_F x Z (some .int) (some (.int a)) S → m_G x Z S 3 0 0 0 [(0, .int a), (1, .int b), (2, v)] [] := by
    intro x v C F
    refine r_iload_n (q := 1) C 0 dJ3_checkIndex_8e157_0 rfl rfl ?_
    refine r_if_lt (t := 9) (q := 4) C dJ3_checkIndex_8e157_1 (by decide) rfl (fun z => absurd z h0) (fun _ => ?_)
    refine r_iload_n (q := 5) C 0 dJ3_checkIndex_8e157_4 rfl rfl ?_
    refine r_iload_n (q := 6) C 1 dJ3_checkIndex_8e157_5 rfl rfl ?_
    refine r_icmp_lt (t := 16) (q := 9) C dJ3_checkIndex_8e157_6 (by decide) rfl (fun _ => ?_) (fun z => absurd h1 z)
    refine r_iload_n (q := 17) C 0 dJ3_checkIndex_8e157_16 rfl rfl ?_
    exact r_iret C F dJ3_checkIndex_8e157_17
  cases o with
  | none => exact m_entE hl (by decide) (fun _ => Nat.le_of_ble_eq_true rfl) (fun x C F => key x .null C F)
  | some t => exact m_entE hl (by decide) (fun _ => Nat.le_of_ble_eq_true rfl) (fun x C F => key x (.ref t) C F)
abbrev rm_J0_checkIndex_df160 : Room := { frames := 1, cells := 0, slots := 0, locals := 30 }
set_option maxRecDepth 100000 in
theorem c_J0_checkIndex_df160 {l : Launch} (hl : l.stackTraces = false) {Z : m_Z} {S : m_S} {a b : Int32} (h0 : ¬ a < 0) (h1 : a < b) : m_CtE l yJ0_checkIndex_df160 (.code yJ0_checkIndex_df160 cJ0_checkIndex_df160 2 none :: m_ws) rm_J0_checkIndex_df160 (fun E => [.int a, .int b]) Z S none S := by
  refine m_entE hl (by decide) (fun _ => Nat.le_of_ble_eq_true rfl) (fun x C F => ?_)
  have C : m_H x l RJ0 cJ0_checkIndex_df160 2 rm_J0_checkIndex_df160 := C
  show m_G x Z S 2 0 0 0 [(0, .int a), (1, .int b)] []
  refine r_iload_n (q := 1) C 0 dJ0_checkIndex_df160_0 rfl rfl ?_
  refine r_iload_n (q := 2) C 1 dJ0_checkIndex_df160_1 rfl rfl ?_
  refine r_gsF (q := 5) C w_358 dJ0_checkIndex_df160_2 rfl (fun o => ?_)
  refine r_callSE (q := 8) (As := [.int a, .int b, va_rf o]) C (c_J3_checkIndex_8e157 hl h0 h1) rfl w_359 w_360 w_19 w_361 hd_J3_checkIndex_8e157 rfl rfl rfl ⟨(Nat.le_of_ble_eq_true rfl), (Nat.le_of_ble_eq_true rfl)⟩ (Nat.le_of_ble_eq_true rfl) ⟨(Nat.le_of_ble_eq_true rfl), (Nat.le_of_ble_eq_true rfl)⟩ dJ0_checkIndex_df160_5 rfl rfl ?_
  refine r_pop (q := 9) C dJ0_checkIndex_df160_8 rfl rfl ?_
  exact r_vret C F dJ0_checkIndex_df160_9
theorem m_lenS : ∀ j, j < 8 → m_len.getD j 0 < 10 := by decide
theorem m_inlt {j : Nat} {z : Int32} (g : j < 8) (g2 : m_in z (m_len.getD j 0)) : z < Int32.ofNat (m_len.getD j 0) := by
  have h9 := m_lenS j g
  obtain ⟨a, ha, rfl⟩ := nI_of (fun q => g2 (Or.inl q))
  have h2 : ¬ m_len.getD j 0 ≤ (nI a).toNatClampNeg := fun q => g2 (Or.inr q)
  rw [nI_clamp ha] at h2
  exact nI_lt (by omega) (by omega)
theorem m_bytS : ∀ j, j < 8 → ∀ b ∈ m_byt.getD j [], ((b &&& 255).toUInt32 % 65536).toInt32 = b := by decide +kernel
theorem m_bytL : ∀ j, j < 8 → (m_byt.getD j []).length = m_len.getD j 0 := by decide +kernel
theorem m_byt9 {j : Nat} {z : Int32} (g : j < 8) (g2 : m_in z (m_len.getD j 0)) : ((((m_byt.getD j []).getD z.toNatClampNeg 0) &&& 255).toUInt32 % 65536).toInt32 = (m_byt.getD j []).getD z.toNatClampNeg 0 := by
  have h2 : z.toNatClampNeg < (m_byt.getD j []).length := by rw [m_bytL j g]; exact Nat.lt_of_not_le (fun q => g2 (Or.inr q))
  refine m_bytS j g _ ?_
  generalize m_byt.getD j [] = b at h2 ⊢
  rw [List.getD_eq_getElem?_getD, List.getElem?_eq_getElem h2]
  exact List.getElem_mem h2
abbrev rm_J1_charAt_3b067 : Room := { frames := 2, cells := 0, slots := 0, locals := 60 }
set_option maxRecDepth 100000 in
theorem c_J1_charAt_3b067 {l : Launch} (hl : l.stackTraces = false) {Z : m_Z} {S : m_S} {j : Nat} {z : Int32} (g : j < 8) (g2 : m_in z (m_len.getD j 0)) : m_CtE l yJ1_charAt_3b067 (.code yJ1_charAt_3b067 cJ1_charAt_3b067 2 (some .char) :: m_ws) rm_J1_charAt_3b067 (fun E => [.ref (E.2.2.2 j), .int z]) Z S (some (.int ((((m_byt.getD j []).getD z.toNatClampNeg 0) &&& 255).toUInt32 % 65536).toInt32)) S := by
  refine m_entE hl (by decide) (fun _ => Nat.le_of_ble_eq_true rfl) (fun x C F => ?_)
  have C : m_H x l RJ1 cJ1_charAt_3b067 2 rm_J1_charAt_3b067 := C
  show m_G x Z S 2 0 0 0 [(0, .ref ((m_XE x).2.2.2 j)), (1, .int z)] []
  refine r_iload_n (q := 1) C 1 dJ1_charAt_3b067_0 rfl rfl ?_
  refine r_aload_n (q := 2) C 0 dJ1_charAt_3b067_1 rfl rfl ?_
  refine r_sal (q := 3) C g dJ1_charAt_3b067_2 rfl ?_
  refine r_callSE (q := 6) (As := [.int z, .int (Int32.ofNat (m_len.getD j 0))]) C (c_J0_checkIndex_df160 hl (fun q => g2 (Or.inl q)) (m_inlt g g2)) rfl w_355 w_356 w_17 w_357 hd_J0_checkIndex_df160 rfl rfl rfl ⟨(Nat.le_of_ble_eq_true rfl), (Nat.le_of_ble_eq_true rfl)⟩ (Nat.le_of_ble_eq_true rfl) ⟨(Nat.le_of_ble_eq_true rfl), (Nat.le_of_ble_eq_true rfl)⟩ dJ1_charAt_3b067_3 rfl rfl ?_
  refine r_aload_n (q := 7) C 0 dJ1_charAt_3b067_6 rfl rfl ?_
  refine r_iload_n (q := 8) C 1 dJ1_charAt_3b067_7 rfl rfl ?_
  refine r_sbal (q := 9) C g g2 dJ1_charAt_3b067_8 rfl ?_
  refine r_sipush (q := 12) (v := 255) C dJ1_charAt_3b067_9 (by decide) rfl ?_
  refine r_iand (q := 13) C dJ1_charAt_3b067_12 rfl ?_
  refine r_i2c (q := 14) C dJ1_charAt_3b067_13 rfl ?_
  refine r_nret C F (pk_nc _) dJ1_charAt_3b067_14
abbrev rm_J0_charAt_5068e : Room := { frames := 3, cells := 0, slots := 0, locals := 90 }
set_option maxRecDepth 100000 in
theorem c_J0_charAt_5068e {l : Launch} (hl : l.stackTraces = false) {Z : m_Z} {S : m_S} {j : Nat} {z : Int32} (g : j < 8) (g2 : m_in z (m_len.getD j 0)) : m_CtE l yJ0_charAt_5068e (.code yJ0_charAt_5068e cJ0_charAt_5068e 2 (some .char) :: m_ws) rm_J0_charAt_5068e (fun E => [.ref (E.2.2.1 j), .int z]) Z S (some (.int ((m_byt.getD j []).getD z.toNatClampNeg 0))) S := by
  refine m_entE hl (by decide) (fun _ => Nat.le_of_ble_eq_true rfl) (fun x C F => ?_)
  have C : m_H x l RJ0 cJ0_charAt_5068e 2 rm_J0_charAt_5068e := C
  show m_G x Z S 2 0 0 0 [(0, .ref ((m_XE x).2.2.1 j)), (1, .int z)] []
  refine r_aload_n (q := 1) C 0 dJ0_charAt_5068e_0 rfl rfl ?_
  refine r_callJ (q := 4) (As := []) (i := j) C (c_J0_isLatin1_aae02 hl g) rfl w_348 w_349 w_350 w_17 w_351 hd_J0_isLatin1_aae02 g rfl rfl rfl ⟨(Nat.le_of_ble_eq_true rfl), (Nat.le_of_ble_eq_true rfl)⟩ (Nat.le_of_ble_eq_true rfl) ⟨(Nat.le_of_ble_eq_true rfl), (Nat.le_of_ble_eq_true rfl)⟩ dJ0_charAt_5068e_1 rfl rfl ?_
  refine r_if_eq (t := 16) (q := 7) C dJ0_charAt_5068e_4 (by decide) rfl (fun z => absurd z (by decide)) (fun _ => ?_)
  refine r_aload_n (q := 8) C 0 dJ0_charAt_5068e_7 rfl rfl ?_
  refine r_sval (q := 11) C g w_1293 dJ0_charAt_5068e_8 rfl ?_
  refine r_iload_n (q := 12) C 1 dJ0_charAt_5068e_11 rfl rfl ?_
  refine r_callSE (q := 15) (As := [.ref ((m_XE x).2.2.2 j), .int z]) C (c_J1_charAt_3b067 hl g g2) rfl w_352 w_353 w_18 w_354 hd_J1_charAt_3b067 rfl rfl rfl ⟨(Nat.le_of_ble_eq_true rfl), (Nat.le_of_ble_eq_true rfl)⟩ (Nat.le_of_ble_eq_true rfl) ⟨(Nat.le_of_ble_eq_true rfl), (Nat.le_of_ble_eq_true rfl)⟩ dJ0_charAt_5068e_12 rfl rfl ?_
  show m_G x Z S 2 0 0 15 _ [.int _]
  have e9 := m_byt9 g g2
  rw [← e9] at F
  exact r_nret C F (pk_nc _) dJ0_charAt_5068e_15
theorem r_slen {x : m_X} {l9 : Launch} {own : String} {cc : ByteArray} {nL : Nat} {rm9 : Room} {Z : m_Z} {S : m_S} {k n pc q : Nat} {L : List (Nat × Value)} {st : List Value} {st0 : List Value} {i j : Nat} (hl : l9.stackTraces = false) (C : m_H x l9 own cc nL rm9) (w1 : Cond.methodLink own i yJ0_length_8abf5 ∈ m_ws) (g : j < 8) (hR : 2 ≤ rm9.frames ∧ 50 ≤ rm9.locals) (hst8 : (st.map fun v => v.category).sum ≤ 8) (hroom : k ≤ rm9.cells ∧ n ≤ rm9.slots) (d : decode cc pc = .ok (.invokevirtual i, 3)) (hq : pc + 3 = q) (h : m_G x Z S nL k n q L (.int (Int32.ofNat (m_len.getD j 0)) :: st)) : m_G x Z S nL k n pc L (.ref (m_K x j) :: st) :=
  r_callJ (As := []) (i := j) C (c_J0_length_8abf5 hl g) rfl w1 w_336 w_337 w_17 w_338 hd_J0_length_8abf5 g rfl rfl rfl hR hst8 hroom d hq rfl h
theorem r_schar {x : m_X} {l9 : Launch} {own : String} {cc : ByteArray} {nL : Nat} {rm9 : Room} {Z : m_Z} {S : m_S} {k n pc q : Nat} {L : List (Nat × Value)} {st : List Value} {i j : Nat} {z : Int32} (hl : l9.stackTraces = false) (C : m_H x l9 own cc nL rm9) (w1 : Cond.methodLink own i yJ0_charAt_5068e ∈ m_ws) (g : j < 8 ∧ m_in z (m_len.getD j 0)) (hR : 4 ≤ rm9.frames ∧ 111 ≤ rm9.locals) (hst8 : (st.map fun v => v.category).sum ≤ 8) (hroom : k ≤ rm9.cells ∧ n ≤ rm9.slots) (d : decode cc pc = .ok (.invokevirtual i, 3)) (hq : pc + 3 = q) (h : m_G x Z S nL k n q L (.int ((m_byt.getD j []).getD z.toNatClampNeg 0) :: st)) : m_G x Z S nL k n pc L (.int z :: .ref (m_K x j) :: st) :=
  r_callJ (As := [.int z]) (i := j) C (c_J0_charAt_5068e hl g.1 g.2) rfl w1 w_345 w_346 w_17 w_347 hd_J0_charAt_5068e g.1 rfl rfl rfl hR hst8 hroom d hq rfl h

