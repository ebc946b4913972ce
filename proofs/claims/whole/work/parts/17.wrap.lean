/-! the law's own callers: each calls one method of the class and tells by a number what it threw -/
def m_TB (x : m_X) (hh : List (Nat × Nat × Nat × Nat)) : Prop := x.2.2.2.2.2.2.2.2.2.1.exceptionTable.toList = tableOf hh
/-- what a walk of a caller comes to -/
def m_FW (x : m_X) (Z : m_Z) (ret : Option FieldType) (r : Except String (Option Value)) (S : m_S) (mc ms : Nat) : Prop := match x with
  | (p, l, e, R, s, m, args, below, meth, c, E, A, Q) => Q = vx_MQ below (fun a st o t => ∃ v, r = .ok v ∧ m_post E v Z S s.heap.size a st o t) (fun X st t => ∃ e, r = .error e ∧ m_XC E e Z S s.heap.size X st t) args s mc ms (m_A Z s.heap.size) ∧ A = m_A Z s.heap.size ∧ meth.sig.returnType = ret
theorem m_entW {l : Launch} {y : MethodName} {bytes : ByteArray} {maxL mc ms : Nat} {ret : Option FieldType} {rm : Room} {hh : List (Nat × Nat × Nat × Nat)} {cargs : (Nat → Nat) → List Value} {Z : m_Z} {S S' : m_S} {r : Except String (Option Value)} (hl : l.stackTraces = false) (hy : plainName y.cls = true) (hlen : ∀ f, (lg_sl (cargs f)).length ≤ maxL) (body : ∀ x : m_X, m_H x l y.cls bytes maxL rm → m_FW x Z ret r S' mc ms → m_TB x hh → m_G x Z S maxL 0 0 0 (lv_args 0 (cargs (m_K x))) []) : m_Cx l y (.codeWith y bytes maxL ret hh :: m_ws) rm mc ms cargs Z S r S' := by
  intro E sz
  refine vx_ofWH (cc := bytes) (maxL := maxL) (ret := ret) hy rfl ?_
  intro p e s m args below meth c s₁ B hml hv
  obtain ⟨rfl, rfl, hP, hD0, hK, hEV⟩ := hv
  have hts := atoms_spec (ws := .codeWith y bytes maxL ret hh :: m_ws) B.pre
  have hb := body (p, l, e, (headSpec (.codeWith y bytes maxL ret hh :: m_ws) rm).room, s, m, _, below, meth, c, E, m_A Z s.heap.size, vx_MQ below (fun a st o t => ∃ v, r = .ok v ∧ m_post E v Z S' s.heap.size a st o t) (fun X st t => ∃ e, r = .error e ∧ m_XC E e Z S' s.heap.size X st t) _ s mc ms (m_A Z s.heap.size)) ⟨B.exec, B.bytes, hml, findClass_of_methodNamed B.named, fun w h => hts w (List.mem_cons_of_mem _ h), hK, fun q h => Or.inr h, hEV, B.notSynchronized, rfl, hl, rfl⟩ ⟨rfl, rfl, B.returns⟩ (vx_table (x := y) B (hts _ List.mem_cons_self))
  have hl2 := lv_entry (cargs E.2.2.1) (n := maxL) (hlen _)
  rw [lg_entry_eq]
  refine hb s.heap [] _ hP ⟨hD0.1, fun i q hi => Or.inl ?_⟩ va_S.rf hl2
  obtain ⟨a, ha, rfl⟩ := List.mem_map.mp (List.mem_of_getElem? hi)
  exact ha


theorem w_iret {x : m_X} {l9 : Launch} {own : String} {cc : ByteArray} {nL : Nat} {rm9 : Room} {Z : m_Z} {S : m_S} {k n mc ms pc : Nat} {L : List (Nat × Value)} {v : Int32} (C : m_H x l9 own cc nL rm9) (F : m_FW x Z (some .int) (.ok (some (.int v))) S mc ms) (hk : k ≤ mc) (hn : n ≤ ms) (d : decode cc pc = .ok (.ireturn, 1)) : m_G x Z S nL k n pc L [.int v] := by
  refine r_wid hk hn ?_
  obtain ⟨p, l, e, R, s, m, args9, below, meth, c, E, A, Q⟩ := x; obtain ⟨hx, hb, hml, hown, hts, hK, hA, hE, hlk, hR, hst, hl9⟩ := C; obtain ⟨rfl, rfl, hr⟩ := F; subst hb
  intro H locs ls hP hD hS hl
  exact vx_ret (W.iret hx rfl hr (fun t ht hW => ⟨_, rfl, ⟨rfl, by rw [ht]; exact hP⟩, hS.F ht⟩) hS.2.2 d)
theorem x_thV {x : m_X} {l9 : Launch} {own : String} {cc : ByteArray} {nL : Nat} {rm9 : Room} {Z : m_Z} {S : m_S} {k n pc q : Nat} {L : List (Nat × Value)} {st st0 : List Value} {y : MethodName} {bytes : ByteArray} {maxL idx mc ms : Nat} {ret : Option FieldType} {rm : Room} {As : List Value} {S' : m_S} {cargs : (Nat → Nat) → List Value} {r : Except String (Option Value)} {C9 : String} {T9 : u_T} {N9 ci b : Nat} (C : m_H x l9 own cc nL rm9) (hM : m_Cx l9 y (.code y bytes maxL ret :: m_ws) rm mc ms cargs Z S r S') (hargs : cargs (m_K x) = .ref b :: As) (w1 : Cond.methodLink own idx y ∈ m_ws) (w2 : Cond.instanceMethod y ∈ m_ws) (w3 : Cond.selects C9 y y ∈ m_ws) (w4 : Cond.initialized C9 ∈ m_ws) (w5 : Cond.code y bytes maxL ret ∈ m_ws) (hd : y.cls = C9 ∧ y.cls ≠ "java/lang/invoke/MethodHandle" ∧ y.cls ≠ "java/lang/invoke/VarHandle" ∧ (parseMethodDescriptor y.desc).map (fun d => d.parameters.length) = some As.length) (hc : vwCl[ci]? = some (C9, T9, N9)) (h10 : ci < 10) (g : m_ok Z b ci) (hs : st0 = As.reverse ++ .ref b :: st) (hrc : rm.cells = mc) (hrs : rm.slots = ms) (hRm : rm.frames + 1 ≤ rm9.frames ∧ 8 + (maxL + 11) + rm.locals ≤ rm9.locals) (hst8 : (st.map fun v => v.category).sum ≤ 8) (hroom : k + mc ≤ rm9.cells ∧ n + ms ≤ rm9.slots) (d : decode cc pc = .ok (.invokevirtual idx, 3)) (hq : pc + 3 = q) {er : String} (hr9 : r = .error er) (hh : List (Nat × Nat × Nat × Nat)) (hTB : m_TB x hh) (pre suf : List ExceptionTableEntry) (x9 : ExceptionTableEntry) (hsplit : tableOf hh = pre ++ x9 :: suf) (hpass : ∀ z ∈ pre, covers z pc = false ∨ (z.catchType ≠ 0 ∧ ∃ nm : String, Cond.classLink own z.catchType nm ∈ m_ws ∧ (er, nm) ∈ m_XN)) (hx9 : covers x9 pc = true) (h09 : x9.catchType ≠ 0) (hlk9 : Cond.classLink own x9.catchType er ∈ m_ws) (hxs : er ∈ m_XS) {hpc : Nat} (hpc9 : x9.handlerPc = hpc) (h : ∀ q9 : Nat, m_G x Z S' nL (k + mc) (n + ms) hpc L [.ref q9]) : m_G x Z S nL k n pc L st0 := by
  subst hq; subst hs; obtain ⟨p, l, e, R, s, m, args9, below, meth, c, E, A, Q⟩ := x; obtain ⟨hx, hb, hml, hown, hts, hK, hA, hE, hlk, hR, hst, hl9⟩ := C; subst hb; subst hR; subst hl9
  intro H locs ls hP hD hS hl
  have hsub := m_Asub hA hD hS
  have hM9 := hM E H.size
  rw [show cargs E.2.2.1 = _ from hargs] at hM9
  have hpre : ∀ U : State, U.heap = H → s.WarmedH U.vm → m_pre E (.ref b :: As) Z S H.size (Array.mk (.ref b :: As)) U := fun U hU hW => ⟨rfl, by rw [hU], by rw [hU]; exact hP, ⟨hD.1, fun _ _ _ => trivial⟩, va_K.moved hW.alike hK, by rw [hU]; exact hE.go hW hS.2.1 hsub⟩
  obtain ⟨i, hi⟩ := m_at (E := E) (S := S) g.1
  rw [m_cO g.2 h10] at hi
  refine m_runX (vx_runV (C := C9) (As := As) (rest := st) ⟨hx, rfl, hml, hown, hts⟩ hM9 (cwV As.length hts (m_goodV w1 w2 w3 w4 w5) rfl hrc hrs hd hRm) ⟨m_pre.blind, va_recv hK hP (q0 := i) (ci := ci) hc hi, hpre⟩ rfl rfl hl.1 rfl (lv_room hst8) d hroom) hS (fun q _ h => hsub q h) (fun q h => hsub q h) (fun X ce q9 H1 locs1 hr h1 h2 h3 h4 h5 => ?_) (fun v H1 locs1 hr h1 h2 => ?_)
  · have eX : X = er := by rw [hr9] at hr; exact (Except.error.inj hr).symm
    subst eX
    refine vx_catch hown pre x9 suf ((show c.exceptionTable.toList = tableOf hh from hTB).trans hsplit) (fun z hz => ?_) hx9 h09 (hts _ hlk9) (va_Nw.use rfl (hE.2.2.2.2.2.2.2.2.1 _ hxs)) h3 h4 h5 ?_
    · rcases hpass z hz with q | ⟨q1, nm, q2, q3⟩
      · exact Or.inl q
      · exact Or.inr ⟨q1, nm, hts _ q2, hE.2.2.2.2.2.2.2.2.2.1 _ q3⟩
    · rw [hpc9]
      exact h q9 H1 locs1 ls h1 (m_D hD) h2 hl
  · rw [hr9] at hr; cases hr
theorem x_callW {x : m_X} {l9 : Launch} {own : String} {cc : ByteArray} {nL : Nat} {rm9 : Room} {Z : m_Z} {S : m_S} {k n pc q : Nat} {L : List (Nat × Value)} {st st0 st1 : List Value} {y : MethodName} {bytes : ByteArray} {maxL idx mc ms : Nat} {ret : Option FieldType} {hh : List (Nat × Nat × Nat × Nat)} {rm : Room} {As : List Value} {S' : m_S} {cargs : (Nat → Nat) → List Value} {r : Except String (Option Value)} (C : m_H x l9 own cc nL rm9) (hM : m_Cx l9 y (.codeWith y bytes maxL ret hh :: m_ws) rm mc ms cargs Z S r S') (hargs : cargs (m_K x) = As) (w1 : Cond.methodLink own idx y ∈ m_ws) (w2 : Cond.static y ∈ m_ws) (w4 : Cond.initialized y.cls ∈ m_ws) (w5 : Cond.codeWith y bytes maxL ret hh ∈ m_ws) (hd : y.cls ≠ "java/lang/invoke/MethodHandle" ∧ y.cls ≠ "java/lang/invoke/VarHandle" ∧ (parseMethodDescriptor y.desc).map (fun d => d.parameters.length) = some As.length) (hs : st0 = As.reverse ++ st) (hrc : rm.cells = mc) (hrs : rm.slots = ms) (hRm : rm.frames + 1 ≤ rm9.frames ∧ 8 + (maxL + 11) + rm.locals ≤ rm9.locals) (hst8 : (st.map fun v => v.category).sum ≤ 8) (hroom : k + mc ≤ rm9.cells ∧ n + ms ≤ rm9.slots) (d : decode cc pc = .ok (.invokestatic idx, 3)) (hq : pc + 3 = q) {v9 : Option Value} (hr9 : r = .ok v9) (hs1 : v9.toList ++ st = st1) (h : m_G x Z S' nL (k + mc) (n + ms) q L st1) : m_G x Z S nL k n pc L st0 := by
  subst hq; subst hs; obtain ⟨p, l, e, R, s, m, args9, below, meth, c, E, A, Q⟩ := x; obtain ⟨hx, hb, hml, hown, hts, hK, hA, hE, hlk, hR, hst, hl9⟩ := C; subst hb; subst hR; subst hl9
  intro H locs ls hP hD hS hl
  have hsub := m_Asub hA hD hS
  have hM9 := hM E H.size
  rw [show cargs E.2.2.1 = _ from hargs] at hM9
  have hpre : ∀ U : State, U.heap = H → s.WarmedH U.vm → m_pre E As Z S H.size (Array.mk As) U := fun U hU hW => ⟨rfl, by rw [hU], by rw [hU]; exact hP, ⟨hD.1, fun _ _ _ => trivial⟩, va_K.moved hW.alike hK, by rw [hU]; exact hE.go hW hS.2.1 hsub⟩
  refine m_runX (vx_runSX (hh := hh) (As := As) (rest := st) ⟨hx, rfl, hml, hown, hts⟩ hM9 (vx_cwSW As.length hts (m_goodS w1 w2 w4 w5) rfl hrc hrs hd hRm) ⟨m_pre.blind, hpre⟩ rfl rfl hl.1 rfl (lv_room hst8) d hroom) hS (fun q _ h => hsub q h) (fun q h => hsub q h) (fun X ce q9 H1 locs1 hr h1 h2 h3 h4 h5 => ?_) (fun v H1 locs1 hr h1 h2 => by rw [hr9] at hr; cases hr; subst hs1; exact h H1 locs1 ls h1 (m_D hD) h2 hl)
  rw [hr9] at hr; cases hr
def f_L_add (Z : m_Z) (S : m_S) (a0 : Nat) (p1 : Int32) (p2 : Int32) (p3 : Int32) (p4 : Int32) (o9 : Nat) : Option (Int32 × m_S) := m_gd (m_ok Z a0 8) (match f_X8_add Z S a0 p1 p2 p3 p4 with
  | some (.ok v, S1) => m_gd (m_ok Z o9 12) (m_gd (m_in 0 (Z.2.2 o9)) (some (0, m_pJ S1 o9 (0 : Int32).toNatClampNeg (v.toInt64))))
  | some (.error e, S1) => (if e = "java/lang/IndexOutOfBoundsException" then some (1, S1) else (if e = "java/lang/IllegalArgumentException" then some (2, S1) else (if e = "java/lang/IllegalStateException" then some (3, S1) else none)))
  | none => none)
abbrev rm_L_add : Room := { frames := 8, cells := 4, slots := 24, locals := 130 }
theorem hd_L_add : yL_add.cls ≠ "java/lang/invoke/MethodHandle" ∧ yL_add.cls ≠ "java/lang/invoke/VarHandle" ∧ (parseMethodDescriptor yL_add.desc).map (fun d => d.parameters.length) = some 6 := by decide +kernel
set_option maxHeartbeats 4000000 in
set_option maxRecDepth 100000 in
theorem c_L_add {l : Launch} (hl : l.stackTraces = false) {Z : m_Z} {S S9 : m_S} {a0 : Nat} {p1 : Int32} {p2 : Int32} {p3 : Int32} {p4 : Int32} {o9 : Nat} {r9 : Int32} (hf : f_L_add Z S a0 p1 p2 p3 p4 o9 = some (r9, S9)) : m_Cx l yL_add (.codeWith yL_add cL_add 7 (some .int) [(0, 14, 17, 19), (0, 14, 21, 25), (0, 14, 25, 13)] :: m_ws) rm_L_add 4 24 (fun f => [.ref a0, .int p1, .int p2, .int p3, .int p4, .ref o9]) Z S (.ok (some (.int r9))) S9 := by
  unfold f_L_add at hf
  refine m_entW hl (by decide) (fun _ => Nat.le_of_ble_eq_true rfl) (fun x C F T => ?_)
  have C : m_H x l RL cL_add 7 rm_L_add := C
  show m_G x Z S 7 0 0 0 [(0, .ref a0), (1, .int p1), (2, .int p2), (3, .int p3), (4, .int p4), (5, .ref o9)] []
  obtain ⟨g1, hf⟩ := m_gd_of hf
  refine r_aload (q := 2) C 5 dL_add_0 rfl rfl ?_
  refine r_iconst (q := 3) (v := 0) C dL_add_2 (by decide) rfl ?_
  refine r_aload_n (q := 4) C 0 dL_add_3 rfl rfl ?_
  refine r_iload_n (q := 5) C 1 dL_add_4 rfl rfl ?_
  refine r_iload_n (q := 6) C 2 dL_add_5 rfl rfl ?_
  refine r_iload_n (q := 7) C 3 dL_add_6 rfl rfl ?_
  refine r_iload (q := 9) C 4 dL_add_7 rfl rfl ?_
  split at hf
  · rename_i v S1 h1
    obtain ⟨g2, hf⟩ := m_gd_of hf
    obtain ⟨g3, hf⟩ := m_gd_of hf
    obtain ⟨rfl, rfl⟩ := m_so2 hf
    refine x_okV (mcQ := 4) (msQ := 24) (retQ := none) (q := 12) (st1 := [.int v, .int 0, .ref o9]) C (c_X8_add hl h1) rfl w_734 w_735 w_736 w_2 w_737 hd_X8_add rfl (by decide) g1 rfl rfl rfl ⟨(Nat.le_of_ble_eq_true rfl), (Nat.le_of_ble_eq_true rfl)⟩ (Nat.le_of_ble_eq_true rfl) ⟨(Nat.le_of_ble_eq_true rfl), (Nat.le_of_ble_eq_true rfl)⟩ dL_add_9 rfl (Nat.le_of_ble_eq_true rfl) (Nat.le_of_ble_eq_true rfl) rfl ?_
    refine r_i2l (q := 13) C dL_add_12 rfl ?_
    refine r_last (q := 14) C dL_add_13 ⟨g2, g3⟩ rfl ?_
    refine r_goto (t := 29) C dL_add_14 (by decide) ?_
    refine r_iconst (q := 30) (v := 0) C dL_add_29 (by decide) rfl ?_
    exact w_iret C F (Nat.le_of_ble_eq_true rfl) (Nat.le_of_ble_eq_true rfl) dL_add_30
  · rename_i e S1 h1
    by_cases e0 : e = "java/lang/IndexOutOfBoundsException"
    · subst e0
      replace hf := m_if1 hf rfl
      obtain ⟨rfl, rfl⟩ := m_so2 hf
      refine x_thV C (c_X8_add hl h1) rfl w_734 w_735 w_736 w_2 w_737 hd_X8_add rfl (by decide) g1 rfl rfl rfl ⟨(Nat.le_of_ble_eq_true rfl), (Nat.le_of_ble_eq_true rfl)⟩ (Nat.le_of_ble_eq_true rfl) ⟨(Nat.le_of_ble_eq_true rfl), (Nat.le_of_ble_eq_true rfl)⟩ dL_add_9 rfl rfl [(0, 14, 17, 19), (0, 14, 21, 25), (0, 14, 25, 13)] T ((tableOf [(0, 14, 17, 19), (0, 14, 21, 25), (0, 14, 25, 13)]).take 0) ((tableOf [(0, 14, 17, 19), (0, 14, 21, 25), (0, 14, 25, 13)]).drop 1) ((tableOf [(0, 14, 17, 19), (0, 14, 21, 25), (0, 14, 25, 13)])[0]) rfl (fun z hz => nomatch hz) (by decide) (by decide) w_280 (by decide +kernel) (hpc := 17) rfl (fun q9 => ?_)
      refine r_astore (q := 19) (L' := [(6, .ref q9), (0, .ref a0), (1, .int p1), (2, .int p2), (3, .int p3), (4, .int p4), (5, .ref o9)]) C dL_add_17 rfl (by decide) rfl ?_
      refine r_iconst (q := 20) (v := 1) C dL_add_19 (by decide) rfl ?_
      exact w_iret C F (Nat.le_of_ble_eq_true rfl) (Nat.le_of_ble_eq_true rfl) dL_add_20
    · skip
      by_cases e1 : e = "java/lang/IllegalArgumentException"
      · subst e1
        replace hf := m_if0 hf (by decide); replace hf := m_if1 hf rfl
        obtain ⟨rfl, rfl⟩ := m_so2 hf
        refine x_thV C (c_X8_add hl h1) rfl w_734 w_735 w_736 w_2 w_737 hd_X8_add rfl (by decide) g1 rfl rfl rfl ⟨(Nat.le_of_ble_eq_true rfl), (Nat.le_of_ble_eq_true rfl)⟩ (Nat.le_of_ble_eq_true rfl) ⟨(Nat.le_of_ble_eq_true rfl), (Nat.le_of_ble_eq_true rfl)⟩ dL_add_9 rfl rfl [(0, 14, 17, 19), (0, 14, 21, 25), (0, 14, 25, 13)] T ((tableOf [(0, 14, 17, 19), (0, 14, 21, 25), (0, 14, 25, 13)]).take 1) ((tableOf [(0, 14, 17, 19), (0, 14, 21, 25), (0, 14, 25, 13)]).drop 2) ((tableOf [(0, 14, 17, 19), (0, 14, 21, 25), (0, 14, 25, 13)])[1]) rfl (by
          intro z hz
          simp only [tableOf, List.map, List.take, List.mem_cons, List.not_mem_nil, or_false] at hz
          rcases hz with rfl
          · exact Or.inr ⟨by decide, "java/lang/IndexOutOfBoundsException", w_280, by decide +kernel⟩) (by decide) (by decide) w_301 (by decide +kernel) (hpc := 21) rfl (fun q9 => ?_)
        refine r_astore (q := 23) (L' := [(6, .ref q9), (0, .ref a0), (1, .int p1), (2, .int p2), (3, .int p3), (4, .int p4), (5, .ref o9)]) C dL_add_21 rfl (by decide) rfl ?_
        refine r_iconst (q := 24) (v := 2) C dL_add_23 (by decide) rfl ?_
        exact w_iret C F (Nat.le_of_ble_eq_true rfl) (Nat.le_of_ble_eq_true rfl) dL_add_24
      · skip
        by_cases e2 : e = "java/lang/IllegalStateException"
        · subst e2
          replace hf := m_if0 hf (by decide); replace hf := m_if0 hf (by decide); replace hf := m_if1 hf rfl
          obtain ⟨rfl, rfl⟩ := m_so2 hf
          refine x_thV C (c_X8_add hl h1) rfl w_734 w_735 w_736 w_2 w_737 hd_X8_add rfl (by decide) g1 rfl rfl rfl ⟨(Nat.le_of_ble_eq_true rfl), (Nat.le_of_ble_eq_true rfl)⟩ (Nat.le_of_ble_eq_true rfl) ⟨(Nat.le_of_ble_eq_true rfl), (Nat.le_of_ble_eq_true rfl)⟩ dL_add_9 rfl rfl [(0, 14, 17, 19), (0, 14, 21, 25), (0, 14, 25, 13)] T ((tableOf [(0, 14, 17, 19), (0, 14, 21, 25), (0, 14, 25, 13)]).take 2) ((tableOf [(0, 14, 17, 19), (0, 14, 21, 25), (0, 14, 25, 13)]).drop 3) ((tableOf [(0, 14, 17, 19), (0, 14, 21, 25), (0, 14, 25, 13)])[2]) rfl (by
            intro z hz
            simp only [tableOf, List.map, List.take, List.mem_cons, List.not_mem_nil, or_false] at hz
            rcases hz with rfl | rfl
            · exact Or.inr ⟨by decide, "java/lang/IndexOutOfBoundsException", w_280, by decide +kernel⟩
            · exact Or.inr ⟨by decide, "java/lang/IllegalArgumentException", w_301, by decide +kernel⟩) (by decide) (by decide) w_221 (by decide +kernel) (hpc := 25) rfl (fun q9 => ?_)
          refine r_astore (q := 27) (L' := [(6, .ref q9), (0, .ref a0), (1, .int p1), (2, .int p2), (3, .int p3), (4, .int p4), (5, .ref o9)]) C dL_add_25 rfl (by decide) rfl ?_
          refine r_iconst (q := 28) (v := 3) C dL_add_27 (by decide) rfl ?_
          exact w_iret C F (Nat.le_of_ble_eq_true rfl) (Nat.le_of_ble_eq_true rfl) dL_add_28
        · skip
          replace hf := m_if0 hf e0; replace hf := m_if0 hf e1; replace hf := m_if0 hf e2; cases hf
  · cases hf
def f_L_advance (Z : m_Z) (S : m_S) (a0 : Nat) (p1 : Int32) (o9 : Nat) : Option (Int32 × m_S) := m_gd (m_ok Z a0 8) (match f_X8_advance Z S a0 p1 with
  | some (.ok v, S1) => m_gd (m_ok Z o9 12) (m_gd (m_in 0 (Z.2.2 o9)) (some (0, m_pJ S1 o9 (0 : Int32).toNatClampNeg (v.toInt64))))
  | some (.error e, S1) => (if e = "java/lang/IllegalArgumentException" then some (1, S1) else (if e = "java/lang/IllegalStateException" then some (2, S1) else none))
  | none => none)
abbrev rm_L_advance : Room := { frames := 8, cells := 2, slots := 12, locals := 166 }
theorem hd_L_advance : yL_advance.cls ≠ "java/lang/invoke/MethodHandle" ∧ yL_advance.cls ≠ "java/lang/invoke/VarHandle" ∧ (parseMethodDescriptor yL_advance.desc).map (fun d => d.parameters.length) = some 3 := by decide +kernel
set_option maxHeartbeats 4000000 in
set_option maxRecDepth 100000 in
theorem c_L_advance {l : Launch} (hl : l.stackTraces = false) {Z : m_Z} {S S9 : m_S} {a0 : Nat} {p1 : Int32} {o9 : Nat} {r9 : Int32} (hf : f_L_advance Z S a0 p1 o9 = some (r9, S9)) : m_Cx l yL_advance (.codeWith yL_advance cL_advance 4 (some .int) [(0, 9, 12, 25), (0, 9, 15, 13)] :: m_ws) rm_L_advance 2 12 (fun f => [.ref a0, .int p1, .ref o9]) Z S (.ok (some (.int r9))) S9 := by
  unfold f_L_advance at hf
  refine m_entW hl (by decide) (fun _ => Nat.le_of_ble_eq_true rfl) (fun x C F T => ?_)
  have C : m_H x l RL cL_advance 4 rm_L_advance := C
  show m_G x Z S 4 0 0 0 [(0, .ref a0), (1, .int p1), (2, .ref o9)] []
  obtain ⟨g1, hf⟩ := m_gd_of hf
  refine r_aload_n (q := 1) C 2 dL_advance_0 rfl rfl ?_
  refine r_iconst (q := 2) (v := 0) C dL_advance_1 (by decide) rfl ?_
  refine r_aload_n (q := 3) C 0 dL_advance_2 rfl rfl ?_
  refine r_iload_n (q := 4) C 1 dL_advance_3 rfl rfl ?_
  split at hf
  · rename_i v S1 h1
    obtain ⟨g2, hf⟩ := m_gd_of hf
    obtain ⟨g3, hf⟩ := m_gd_of hf
    obtain ⟨rfl, rfl⟩ := m_so2 hf
    refine x_okV (mcQ := 2) (msQ := 12) (retQ := none) (q := 7) (st1 := [.int v, .int 0, .ref o9]) C (c_X8_advance hl h1) rfl w_791 w_792 w_793 w_2 w_794 hd_X8_advance rfl (by decide) g1 rfl rfl rfl ⟨(Nat.le_of_ble_eq_true rfl), (Nat.le_of_ble_eq_true rfl)⟩ (Nat.le_of_ble_eq_true rfl) ⟨(Nat.le_of_ble_eq_true rfl), (Nat.le_of_ble_eq_true rfl)⟩ dL_advance_4 rfl (Nat.le_of_ble_eq_true rfl) (Nat.le_of_ble_eq_true rfl) rfl ?_
    refine r_i2l (q := 8) C dL_advance_7 rfl ?_
    refine r_last (q := 9) C dL_advance_8 ⟨g2, g3⟩ rfl ?_
    refine r_goto (t := 18) C dL_advance_9 (by decide) ?_
    refine r_iconst (q := 19) (v := 0) C dL_advance_18 (by decide) rfl ?_
    exact w_iret C F (Nat.le_of_ble_eq_true rfl) (Nat.le_of_ble_eq_true rfl) dL_advance_19
  · rename_i e S1 h1
    by_cases e0 : e = "java/lang/IllegalArgumentException"
    · subst e0
      replace hf := m_if1 hf rfl
      obtain ⟨rfl, rfl⟩ := m_so2 hf
      refine x_thV C (c_X8_advance hl h1) rfl w_791 w_792 w_793 w_2 w_794 hd_X8_advance rfl (by decide) g1 rfl rfl rfl ⟨(Nat.le_of_ble_eq_true rfl), (Nat.le_of_ble_eq_true rfl)⟩ (Nat.le_of_ble_eq_true rfl) ⟨(Nat.le_of_ble_eq_true rfl), (Nat.le_of_ble_eq_true rfl)⟩ dL_advance_4 rfl rfl [(0, 9, 12, 25), (0, 9, 15, 13)] T ((tableOf [(0, 9, 12, 25), (0, 9, 15, 13)]).take 0) ((tableOf [(0, 9, 12, 25), (0, 9, 15, 13)]).drop 1) ((tableOf [(0, 9, 12, 25), (0, 9, 15, 13)])[0]) rfl (fun z hz => nomatch hz) (by decide) (by decide) w_301 (by decide +kernel) (hpc := 12) rfl (fun q9 => ?_)
      refine r_astore_n (q := 13) (L' := [(3, .ref q9), (0, .ref a0), (1, .int p1), (2, .ref o9)]) C dL_advance_12 rfl rfl (by decide) rfl ?_
      refine r_iconst (q := 14) (v := 1) C dL_advance_13 (by decide) rfl ?_
      exact w_iret C F (Nat.le_of_ble_eq_true rfl) (Nat.le_of_ble_eq_true rfl) dL_advance_14
    · skip
      by_cases e1 : e = "java/lang/IllegalStateException"
      · subst e1
        replace hf := m_if0 hf (by decide); replace hf := m_if1 hf rfl
        obtain ⟨rfl, rfl⟩ := m_so2 hf
        refine x_thV C (c_X8_advance hl h1) rfl w_791 w_792 w_793 w_2 w_794 hd_X8_advance rfl (by decide) g1 rfl rfl rfl ⟨(Nat.le_of_ble_eq_true rfl), (Nat.le_of_ble_eq_true rfl)⟩ (Nat.le_of_ble_eq_true rfl) ⟨(Nat.le_of_ble_eq_true rfl), (Nat.le_of_ble_eq_true rfl)⟩ dL_advance_4 rfl rfl [(0, 9, 12, 25), (0, 9, 15, 13)] T ((tableOf [(0, 9, 12, 25), (0, 9, 15, 13)]).take 1) ((tableOf [(0, 9, 12, 25), (0, 9, 15, 13)]).drop 2) ((tableOf [(0, 9, 12, 25), (0, 9, 15, 13)])[1]) rfl (by
          intro z hz
          simp only [tableOf, List.map, List.take, List.mem_cons, List.not_mem_nil, or_false] at hz
          rcases hz with rfl
          · exact Or.inr ⟨by decide, "java/lang/IllegalArgumentException", w_301, by decide +kernel⟩) (by decide) (by decide) w_221 (by decide +kernel) (hpc := 15) rfl (fun q9 => ?_)
        refine r_astore_n (q := 16) (L' := [(3, .ref q9), (0, .ref a0), (1, .int p1), (2, .ref o9)]) C dL_advance_15 rfl rfl (by decide) rfl ?_
        refine r_iconst (q := 17) (v := 2) C dL_advance_16 (by decide) rfl ?_
        exact w_iret C F (Nat.le_of_ble_eq_true rfl) (Nat.le_of_ble_eq_true rfl) dL_advance_17
      · skip
        replace hf := m_if0 hf e0; replace hf := m_if0 hf e1; cases hf
  · cases hf
def f_L_announce (Z : m_Z) (S : m_S) (a0 : Nat) (p1 : Int32) (o9 : Nat) : Option (Int32 × m_S) := m_gd (m_ok Z a0 8) (match f_X8_announce Z S a0 p1 with
  | some (.ok v, S1) => m_gd (m_ok Z o9 12) (m_gd (m_in 0 (Z.2.2 o9)) (some (0, m_pJ S1 o9 (0 : Int32).toNatClampNeg (v.toInt64))))
  | some (.error e, S1) => (if e = "java/lang/IllegalArgumentException" then some (1, S1) else (if e = "java/lang/IllegalStateException" then some (2, S1) else none))
  | none => none)
abbrev rm_L_announce : Room := { frames := 7, cells := 1, slots := 6, locals := 103 }
theorem hd_L_announce : yL_announce.cls ≠ "java/lang/invoke/MethodHandle" ∧ yL_announce.cls ≠ "java/lang/invoke/VarHandle" ∧ (parseMethodDescriptor yL_announce.desc).map (fun d => d.parameters.length) = some 3 := by decide +kernel
set_option maxHeartbeats 4000000 in
set_option maxRecDepth 100000 in
theorem c_L_announce {l : Launch} (hl : l.stackTraces = false) {Z : m_Z} {S S9 : m_S} {a0 : Nat} {p1 : Int32} {o9 : Nat} {r9 : Int32} (hf : f_L_announce Z S a0 p1 o9 = some (r9, S9)) : m_Cx l yL_announce (.codeWith yL_announce cL_announce 4 (some .int) [(0, 9, 12, 25), (0, 9, 15, 13)] :: m_ws) rm_L_announce 1 6 (fun f => [.ref a0, .int p1, .ref o9]) Z S (.ok (some (.int r9))) S9 := by
  unfold f_L_announce at hf
  refine m_entW hl (by decide) (fun _ => Nat.le_of_ble_eq_true rfl) (fun x C F T => ?_)
  have C : m_H x l RL cL_announce 4 rm_L_announce := C
  show m_G x Z S 4 0 0 0 [(0, .ref a0), (1, .int p1), (2, .ref o9)] []
  obtain ⟨g1, hf⟩ := m_gd_of hf
  refine r_aload_n (q := 1) C 2 dL_announce_0 rfl rfl ?_
  refine r_iconst (q := 2) (v := 0) C dL_announce_1 (by decide) rfl ?_
  refine r_aload_n (q := 3) C 0 dL_announce_2 rfl rfl ?_
  refine r_iload_n (q := 4) C 1 dL_announce_3 rfl rfl ?_
  split at hf
  · rename_i v S1 h1
    obtain ⟨g2, hf⟩ := m_gd_of hf
    obtain ⟨g3, hf⟩ := m_gd_of hf
    obtain ⟨rfl, rfl⟩ := m_so2 hf
    refine x_okV (mcQ := 1) (msQ := 6) (retQ := none) (q := 7) (st1 := [.int v, .int 0, .ref o9]) C (c_X8_announce hl h1) rfl w_588 w_589 w_590 w_2 w_591 hd_X8_announce rfl (by decide) g1 rfl rfl rfl ⟨(Nat.le_of_ble_eq_true rfl), (Nat.le_of_ble_eq_true rfl)⟩ (Nat.le_of_ble_eq_true rfl) ⟨(Nat.le_of_ble_eq_true rfl), (Nat.le_of_ble_eq_true rfl)⟩ dL_announce_4 rfl (Nat.le_of_ble_eq_true rfl) (Nat.le_of_ble_eq_true rfl) rfl ?_
    refine r_i2l (q := 8) C dL_announce_7 rfl ?_
    refine r_last (q := 9) C dL_announce_8 ⟨g2, g3⟩ rfl ?_
    refine r_goto (t := 18) C dL_announce_9 (by decide) ?_
    refine r_iconst (q := 19) (v := 0) C dL_announce_18 (by decide) rfl ?_
    exact w_iret C F (Nat.le_of_ble_eq_true rfl) (Nat.le_of_ble_eq_true rfl) dL_announce_19
  · rename_i e S1 h1
    by_cases e0 : e = "java/lang/IllegalArgumentException"
    · subst e0
      replace hf := m_if1 hf rfl
      obtain ⟨rfl, rfl⟩ := m_so2 hf
      refine x_thV C (c_X8_announce hl h1) rfl w_588 w_589 w_590 w_2 w_591 hd_X8_announce rfl (by decide) g1 rfl rfl rfl ⟨(Nat.le_of_ble_eq_true rfl), (Nat.le_of_ble_eq_true rfl)⟩ (Nat.le_of_ble_eq_true rfl) ⟨(Nat.le_of_ble_eq_true rfl), (Nat.le_of_ble_eq_true rfl)⟩ dL_announce_4 rfl rfl [(0, 9, 12, 25), (0, 9, 15, 13)] T ((tableOf [(0, 9, 12, 25), (0, 9, 15, 13)]).take 0) ((tableOf [(0, 9, 12, 25), (0, 9, 15, 13)]).drop 1) ((tableOf [(0, 9, 12, 25), (0, 9, 15, 13)])[0]) rfl (fun z hz => nomatch hz) (by decide) (by decide) w_301 (by decide +kernel) (hpc := 12) rfl (fun q9 => ?_)
      refine r_astore_n (q := 13) (L' := [(3, .ref q9), (0, .ref a0), (1, .int p1), (2, .ref o9)]) C dL_announce_12 rfl rfl (by decide) rfl ?_
      refine r_iconst (q := 14) (v := 1) C dL_announce_13 (by decide) rfl ?_
      exact w_iret C F (Nat.le_of_ble_eq_true rfl) (Nat.le_of_ble_eq_true rfl) dL_announce_14
    · skip
      by_cases e1 : e = "java/lang/IllegalStateException"
      · subst e1
        replace hf := m_if0 hf (by decide); replace hf := m_if1 hf rfl
        obtain ⟨rfl, rfl⟩ := m_so2 hf
        refine x_thV C (c_X8_announce hl h1) rfl w_588 w_589 w_590 w_2 w_591 hd_X8_announce rfl (by decide) g1 rfl rfl rfl ⟨(Nat.le_of_ble_eq_true rfl), (Nat.le_of_ble_eq_true rfl)⟩ (Nat.le_of_ble_eq_true rfl) ⟨(Nat.le_of_ble_eq_true rfl), (Nat.le_of_ble_eq_true rfl)⟩ dL_announce_4 rfl rfl [(0, 9, 12, 25), (0, 9, 15, 13)] T ((tableOf [(0, 9, 12, 25), (0, 9, 15, 13)]).take 1) ((tableOf [(0, 9, 12, 25), (0, 9, 15, 13)]).drop 2) ((tableOf [(0, 9, 12, 25), (0, 9, 15, 13)])[1]) rfl (by
          intro z hz
          simp only [tableOf, List.map, List.take, List.mem_cons, List.not_mem_nil, or_false] at hz
          rcases hz with rfl
          · exact Or.inr ⟨by decide, "java/lang/IllegalArgumentException", w_301, by decide +kernel⟩) (by decide) (by decide) w_221 (by decide +kernel) (hpc := 15) rfl (fun q9 => ?_)
        refine r_astore_n (q := 16) (L' := [(3, .ref q9), (0, .ref a0), (1, .int p1), (2, .ref o9)]) C dL_announce_15 rfl rfl (by decide) rfl ?_
        refine r_iconst (q := 17) (v := 2) C dL_announce_16 (by decide) rfl ?_
        exact w_iret C F (Nat.le_of_ble_eq_true rfl) (Nat.le_of_ble_eq_true rfl) dL_announce_17
      · skip
        replace hf := m_if0 hf e0; replace hf := m_if0 hf e1; cases hf
  · cases hf
def f_L_append (Z : m_Z) (S : m_S) (a0 : Nat) (p1 : Int32) (p2 : Int32) (p3 : Int32) (p4 : Int32) (p5 : Int32) (o9 : Nat) : Option (Int32 × m_S) := m_gd (m_ok Z a0 8) (match f_X8_append Z S a0 p1 p2 p3 p4 p5 with
  | some (.ok v, S1) => m_gd (m_ok Z o9 12) (m_gd (m_in 0 (Z.2.2 o9)) (some (0, m_pJ S1 o9 (0 : Int32).toNatClampNeg (v.toInt64))))
  | some (.error e, S1) => (if e = "java/lang/IllegalStateException" then some (1, S1) else none)
  | none => none)
abbrev rm_L_append : Room := { frames := 7, cells := 1, slots := 6, locals := 107 }
theorem hd_L_append : yL_append.cls ≠ "java/lang/invoke/MethodHandle" ∧ yL_append.cls ≠ "java/lang/invoke/VarHandle" ∧ (parseMethodDescriptor yL_append.desc).map (fun d => d.parameters.length) = some 7 := by decide +kernel
set_option maxHeartbeats 4000000 in
set_option maxRecDepth 100000 in
theorem c_L_append {l : Launch} (hl : l.stackTraces = false) {Z : m_Z} {S S9 : m_S} {a0 : Nat} {p1 : Int32} {p2 : Int32} {p3 : Int32} {p4 : Int32} {p5 : Int32} {o9 : Nat} {r9 : Int32} (hf : f_L_append Z S a0 p1 p2 p3 p4 p5 o9 = some (r9, S9)) : m_Cx l yL_append (.codeWith yL_append cL_append 8 (some .int) [(0, 16, 19, 13)] :: m_ws) rm_L_append 1 6 (fun f => [.ref a0, .int p1, .int p2, .int p3, .int p4, .int p5, .ref o9]) Z S (.ok (some (.int r9))) S9 := by
  unfold f_L_append at hf
  refine m_entW hl (by decide) (fun _ => Nat.le_of_ble_eq_true rfl) (fun x C F T => ?_)
  have C : m_H x l RL cL_append 8 rm_L_append := C
  show m_G x Z S 8 0 0 0 [(0, .ref a0), (1, .int p1), (2, .int p2), (3, .int p3), (4, .int p4), (5, .int p5), (6, .ref o9)] []
  obtain ⟨g1, hf⟩ := m_gd_of hf
  refine r_aload (q := 2) C 6 dL_append_0 rfl rfl ?_
  refine r_iconst (q := 3) (v := 0) C dL_append_2 (by decide) rfl ?_
  refine r_aload_n (q := 4) C 0 dL_append_3 rfl rfl ?_
  refine r_iload_n (q := 5) C 1 dL_append_4 rfl rfl ?_
  refine r_iload_n (q := 6) C 2 dL_append_5 rfl rfl ?_
  refine r_iload_n (q := 7) C 3 dL_append_6 rfl rfl ?_
  refine r_iload (q := 9) C 4 dL_append_7 rfl rfl ?_
  refine r_iload (q := 11) C 5 dL_append_9 rfl rfl ?_
  split at hf
  · rename_i v S1 h1
    obtain ⟨g2, hf⟩ := m_gd_of hf
    obtain ⟨g3, hf⟩ := m_gd_of hf
    obtain ⟨rfl, rfl⟩ := m_so2 hf
    refine x_okV (mcQ := 1) (msQ := 6) (retQ := none) (q := 14) (st1 := [.int v, .int 0, .ref o9]) C (c_X8_append hl h1) rfl w_222 w_223 w_224 w_2 w_225 hd_X8_append rfl (by decide) g1 rfl rfl rfl ⟨(Nat.le_of_ble_eq_true rfl), (Nat.le_of_ble_eq_true rfl)⟩ (Nat.le_of_ble_eq_true rfl) ⟨(Nat.le_of_ble_eq_true rfl), (Nat.le_of_ble_eq_true rfl)⟩ dL_append_11 rfl (Nat.le_of_ble_eq_true rfl) (Nat.le_of_ble_eq_true rfl) rfl ?_
    refine r_i2l (q := 15) C dL_append_14 rfl ?_
    refine r_last (q := 16) C dL_append_15 ⟨g2, g3⟩ rfl ?_
    refine r_goto (t := 23) C dL_append_16 (by decide) ?_
    refine r_iconst (q := 24) (v := 0) C dL_append_23 (by decide) rfl ?_
    exact w_iret C F (Nat.le_of_ble_eq_true rfl) (Nat.le_of_ble_eq_true rfl) dL_append_24
  · rename_i e S1 h1
    by_cases e0 : e = "java/lang/IllegalStateException"
    · subst e0
      replace hf := m_if1 hf rfl
      obtain ⟨rfl, rfl⟩ := m_so2 hf
      refine x_thV C (c_X8_append hl h1) rfl w_222 w_223 w_224 w_2 w_225 hd_X8_append rfl (by decide) g1 rfl rfl rfl ⟨(Nat.le_of_ble_eq_true rfl), (Nat.le_of_ble_eq_true rfl)⟩ (Nat.le_of_ble_eq_true rfl) ⟨(Nat.le_of_ble_eq_true rfl), (Nat.le_of_ble_eq_true rfl)⟩ dL_append_11 rfl rfl [(0, 16, 19, 13)] T ((tableOf [(0, 16, 19, 13)]).take 0) ((tableOf [(0, 16, 19, 13)]).drop 1) ((tableOf [(0, 16, 19, 13)])[0]) rfl (fun z hz => nomatch hz) (by decide) (by decide) w_221 (by decide +kernel) (hpc := 19) rfl (fun q9 => ?_)
      refine r_astore (q := 21) (L' := [(7, .ref q9), (0, .ref a0), (1, .int p1), (2, .int p2), (3, .int p3), (4, .int p4), (5, .int p5), (6, .ref o9)]) C dL_append_19 rfl (by decide) rfl ?_
      refine r_iconst (q := 22) (v := 1) C dL_append_21 (by decide) rfl ?_
      exact w_iret C F (Nat.le_of_ble_eq_true rfl) (Nat.le_of_ble_eq_true rfl) dL_append_22
    · skip
      replace hf := m_if0 hf e0; cases hf
  · cases hf
def f_L_balance (Z : m_Z) (S : m_S) (a0 : Nat) (p1 : Int32) (p2 : Int32) (o9 : Nat) : Option (Int32 × m_S) := m_gd (m_ok Z a0 8) (match f_X8_balance Z S a0 p1 p2 with
  | some (.ok v) => m_gd (m_ok Z o9 12) (m_gd (m_in 0 (Z.2.2 o9)) (some (0, m_pJ S o9 (0 : Int32).toNatClampNeg v)))
  | some (.error e) => (if e = "java/lang/IndexOutOfBoundsException" then some (1, S) else (if e = "java/lang/IllegalArgumentException" then some (2, S) else none))
  | none => none)
abbrev rm_L_balance : Room := { frames := 8, cells := 3, slots := 18, locals := 127 }
theorem hd_L_balance : yL_balance.cls ≠ "java/lang/invoke/MethodHandle" ∧ yL_balance.cls ≠ "java/lang/invoke/VarHandle" ∧ (parseMethodDescriptor yL_balance.desc).map (fun d => d.parameters.length) = some 4 := by decide +kernel
set_option maxHeartbeats 4000000 in
set_option maxRecDepth 100000 in
theorem c_L_balance {l : Launch} (hl : l.stackTraces = false) {Z : m_Z} {S S9 : m_S} {a0 : Nat} {p1 : Int32} {p2 : Int32} {o9 : Nat} {r9 : Int32} (hf : f_L_balance Z S a0 p1 p2 o9 = some (r9, S9)) : m_Cx l yL_balance (.codeWith yL_balance cL_balance 5 (some .int) [(0, 9, 12, 19), (0, 9, 16, 25)] :: m_ws) rm_L_balance 3 18 (fun f => [.ref a0, .int p1, .int p2, .ref o9]) Z S (.ok (some (.int r9))) S9 := by
  unfold f_L_balance at hf
  refine m_entW hl (by decide) (fun _ => Nat.le_of_ble_eq_true rfl) (fun x C F T => ?_)
  have C : m_H x l RL cL_balance 5 rm_L_balance := C
  show m_G x Z S 5 0 0 0 [(0, .ref a0), (1, .int p1), (2, .int p2), (3, .ref o9)] []
  obtain ⟨g1, hf⟩ := m_gd_of hf
  refine r_aload_n (q := 1) C 3 dL_balance_0 rfl rfl ?_
  refine r_iconst (q := 2) (v := 0) C dL_balance_1 (by decide) rfl ?_
  refine r_aload_n (q := 3) C 0 dL_balance_2 rfl rfl ?_
  refine r_iload_n (q := 4) C 1 dL_balance_3 rfl rfl ?_
  refine r_iload_n (q := 5) C 2 dL_balance_4 rfl rfl ?_
  split at hf
  · rename_i v h1
    obtain ⟨g2, hf⟩ := m_gd_of hf
    obtain ⟨g3, hf⟩ := m_gd_of hf
    obtain ⟨rfl, rfl⟩ := m_so2 hf
    refine x_okV (mcQ := 3) (msQ := 18) (retQ := none) (q := 8) (st1 := [.long v, .int 0, .ref o9]) C (c_X8_balance hl h1) rfl w_613 w_614 w_615 w_2 w_616 hd_X8_balance rfl (by decide) g1 rfl rfl rfl ⟨(Nat.le_of_ble_eq_true rfl), (Nat.le_of_ble_eq_true rfl)⟩ (Nat.le_of_ble_eq_true rfl) ⟨(Nat.le_of_ble_eq_true rfl), (Nat.le_of_ble_eq_true rfl)⟩ dL_balance_5 rfl (Nat.le_of_ble_eq_true rfl) (Nat.le_of_ble_eq_true rfl) rfl ?_
    refine r_last (q := 9) C dL_balance_8 ⟨g2, g3⟩ rfl ?_
    refine r_goto (t := 20) C dL_balance_9 (by decide) ?_
    refine r_iconst (q := 21) (v := 0) C dL_balance_20 (by decide) rfl ?_
    exact w_iret C F (Nat.le_of_ble_eq_true rfl) (Nat.le_of_ble_eq_true rfl) dL_balance_21
  · rename_i e h1
    by_cases e0 : e = "java/lang/IndexOutOfBoundsException"
    · subst e0
      replace hf := m_if1 hf rfl
      obtain ⟨rfl, rfl⟩ := m_so2 hf
      refine x_thV C (c_X8_balance hl h1) rfl w_613 w_614 w_615 w_2 w_616 hd_X8_balance rfl (by decide) g1 rfl rfl rfl ⟨(Nat.le_of_ble_eq_true rfl), (Nat.le_of_ble_eq_true rfl)⟩ (Nat.le_of_ble_eq_true rfl) ⟨(Nat.le_of_ble_eq_true rfl), (Nat.le_of_ble_eq_true rfl)⟩ dL_balance_5 rfl rfl [(0, 9, 12, 19), (0, 9, 16, 25)] T ((tableOf [(0, 9, 12, 19), (0, 9, 16, 25)]).take 0) ((tableOf [(0, 9, 12, 19), (0, 9, 16, 25)]).drop 1) ((tableOf [(0, 9, 12, 19), (0, 9, 16, 25)])[0]) rfl (fun z hz => nomatch hz) (by decide) (by decide) w_280 (by decide +kernel) (hpc := 12) rfl (fun q9 => ?_)
      refine r_astore (q := 14) (L' := [(4, .ref q9), (0, .ref a0), (1, .int p1), (2, .int p2), (3, .ref o9)]) C dL_balance_12 rfl (by decide) rfl ?_
      refine r_iconst (q := 15) (v := 1) C dL_balance_14 (by decide) rfl ?_
      exact w_iret C F (Nat.le_of_ble_eq_true rfl) (Nat.le_of_ble_eq_true rfl) dL_balance_15
    · skip
      by_cases e1 : e = "java/lang/IllegalArgumentException"
      · subst e1
        replace hf := m_if0 hf (by decide); replace hf := m_if1 hf rfl
        obtain ⟨rfl, rfl⟩ := m_so2 hf
        refine x_thV C (c_X8_balance hl h1) rfl w_613 w_614 w_615 w_2 w_616 hd_X8_balance rfl (by decide) g1 rfl rfl rfl ⟨(Nat.le_of_ble_eq_true rfl), (Nat.le_of_ble_eq_true rfl)⟩ (Nat.le_of_ble_eq_true rfl) ⟨(Nat.le_of_ble_eq_true rfl), (Nat.le_of_ble_eq_true rfl)⟩ dL_balance_5 rfl rfl [(0, 9, 12, 19), (0, 9, 16, 25)] T ((tableOf [(0, 9, 12, 19), (0, 9, 16, 25)]).take 1) ((tableOf [(0, 9, 12, 19), (0, 9, 16, 25)]).drop 2) ((tableOf [(0, 9, 12, 19), (0, 9, 16, 25)])[1]) rfl (by
          intro z hz
          simp only [tableOf, List.map, List.take, List.mem_cons, List.not_mem_nil, or_false] at hz
          rcases hz with rfl
          · exact Or.inr ⟨by decide, "java/lang/IndexOutOfBoundsException", w_280, by decide +kernel⟩) (by decide) (by decide) w_301 (by decide +kernel) (hpc := 16) rfl (fun q9 => ?_)
        refine r_astore (q := 18) (L' := [(4, .ref q9), (0, .ref a0), (1, .int p1), (2, .int p2), (3, .ref o9)]) C dL_balance_16 rfl (by decide) rfl ?_
        refine r_iconst (q := 19) (v := 2) C dL_balance_18 (by decide) rfl ?_
        exact w_iret C F (Nat.le_of_ble_eq_true rfl) (Nat.le_of_ble_eq_true rfl) dL_balance_19
      · skip
        replace hf := m_if0 hf e0; replace hf := m_if0 hf e1; cases hf
  · cases hf
def f_L_bestFor (Z : m_Z) (S : m_S) (a0 : Nat) (p1 : Int32) (p2 : Int32) (o9 : Nat) : Option (Int32 × m_S) := m_gd (m_ok Z a0 8) (match f_X8_bestFor Z S a0 p1 p2 with
  | some (.ok v, S1) => m_gd (m_ok Z o9 12) (m_gd (m_in 0 (Z.2.2 o9)) (some (0, m_pJ S1 o9 (0 : Int32).toNatClampNeg (v.toInt64))))
  | some (.error e, S1) => (if e = "java/util/NoSuchElementException" then some (1, S1) else (if e = "java/lang/IllegalArgumentException" then some (2, S1) else none))
  | none => none)
abbrev rm_L_bestFor : Room := { frames := 8, cells := 3, slots := 18, locals := 168 }
theorem hd_L_bestFor : yL_bestFor.cls ≠ "java/lang/invoke/MethodHandle" ∧ yL_bestFor.cls ≠ "java/lang/invoke/VarHandle" ∧ (parseMethodDescriptor yL_bestFor.desc).map (fun d => d.parameters.length) = some 4 := by decide +kernel
set_option maxHeartbeats 4000000 in
set_option maxRecDepth 100000 in
theorem c_L_bestFor {l : Launch} (hl : l.stackTraces = false) {Z : m_Z} {S S9 : m_S} {a0 : Nat} {p1 : Int32} {p2 : Int32} {o9 : Nat} {r9 : Int32} (hf : f_L_bestFor Z S a0 p1 p2 o9 = some (r9, S9)) : m_Cx l yL_bestFor (.codeWith yL_bestFor cL_bestFor 5 (some .int) [(0, 10, 13, 53), (0, 10, 17, 25)] :: m_ws) rm_L_bestFor 3 18 (fun f => [.ref a0, .int p1, .int p2, .ref o9]) Z S (.ok (some (.int r9))) S9 := by
  unfold f_L_bestFor at hf
  refine m_entW hl (by decide) (fun _ => Nat.le_of_ble_eq_true rfl) (fun x C F T => ?_)
  have C : m_H x l RL cL_bestFor 5 rm_L_bestFor := C
  show m_G x Z S 5 0 0 0 [(0, .ref a0), (1, .int p1), (2, .int p2), (3, .ref o9)] []
  obtain ⟨g1, hf⟩ := m_gd_of hf
  refine r_aload_n (q := 1) C 3 dL_bestFor_0 rfl rfl ?_
  refine r_iconst (q := 2) (v := 0) C dL_bestFor_1 (by decide) rfl ?_
  refine r_aload_n (q := 3) C 0 dL_bestFor_2 rfl rfl ?_
  refine r_iload_n (q := 4) C 1 dL_bestFor_3 rfl rfl ?_
  refine r_iload_n (q := 5) C 2 dL_bestFor_4 rfl rfl ?_
  split at hf
  · rename_i v S1 h1
    obtain ⟨g2, hf⟩ := m_gd_of hf
    obtain ⟨g3, hf⟩ := m_gd_of hf
    obtain ⟨rfl, rfl⟩ := m_so2 hf
    refine x_okV (mcQ := 3) (msQ := 18) (retQ := none) (q := 8) (st1 := [.int v, .int 0, .ref o9]) C (c_X8_bestFor hl h1) rfl w_892 w_893 w_894 w_2 w_895 hd_X8_bestFor rfl (by decide) g1 rfl rfl rfl ⟨(Nat.le_of_ble_eq_true rfl), (Nat.le_of_ble_eq_true rfl)⟩ (Nat.le_of_ble_eq_true rfl) ⟨(Nat.le_of_ble_eq_true rfl), (Nat.le_of_ble_eq_true rfl)⟩ dL_bestFor_5 rfl (Nat.le_of_ble_eq_true rfl) (Nat.le_of_ble_eq_true rfl) rfl ?_
    refine r_i2l (q := 9) C dL_bestFor_8 rfl ?_
    refine r_last (q := 10) C dL_bestFor_9 ⟨g2, g3⟩ rfl ?_
    refine r_goto (t := 21) C dL_bestFor_10 (by decide) ?_
    refine r_iconst (q := 22) (v := 0) C dL_bestFor_21 (by decide) rfl ?_
    exact w_iret C F (Nat.le_of_ble_eq_true rfl) (Nat.le_of_ble_eq_true rfl) dL_bestFor_22
  · rename_i e S1 h1
    by_cases e0 : e = "java/util/NoSuchElementException"
    · subst e0
      replace hf := m_if1 hf rfl
      obtain ⟨rfl, rfl⟩ := m_so2 hf
      refine x_thV C (c_X8_bestFor hl h1) rfl w_892 w_893 w_894 w_2 w_895 hd_X8_bestFor rfl (by decide) g1 rfl rfl rfl ⟨(Nat.le_of_ble_eq_true rfl), (Nat.le_of_ble_eq_true rfl)⟩ (Nat.le_of_ble_eq_true rfl) ⟨(Nat.le_of_ble_eq_true rfl), (Nat.le_of_ble_eq_true rfl)⟩ dL_bestFor_5 rfl rfl [(0, 10, 13, 53), (0, 10, 17, 25)] T ((tableOf [(0, 10, 13, 53), (0, 10, 17, 25)]).take 0) ((tableOf [(0, 10, 13, 53), (0, 10, 17, 25)]).drop 1) ((tableOf [(0, 10, 13, 53), (0, 10, 17, 25)])[0]) rfl (fun z hz => nomatch hz) (by decide) (by decide) w_621 (by decide +kernel) (hpc := 13) rfl (fun q9 => ?_)
      refine r_astore (q := 15) (L' := [(4, .ref q9), (0, .ref a0), (1, .int p1), (2, .int p2), (3, .ref o9)]) C dL_bestFor_13 rfl (by decide) rfl ?_
      refine r_iconst (q := 16) (v := 1) C dL_bestFor_15 (by decide) rfl ?_
      exact w_iret C F (Nat.le_of_ble_eq_true rfl) (Nat.le_of_ble_eq_true rfl) dL_bestFor_16
    · skip
      by_cases e1 : e = "java/lang/IllegalArgumentException"
      · subst e1
        replace hf := m_if0 hf (by decide); replace hf := m_if1 hf rfl
        obtain ⟨rfl, rfl⟩ := m_so2 hf
        refine x_thV C (c_X8_bestFor hl h1) rfl w_892 w_893 w_894 w_2 w_895 hd_X8_bestFor rfl (by decide) g1 rfl rfl rfl ⟨(Nat.le_of_ble_eq_true rfl), (Nat.le_of_ble_eq_true rfl)⟩ (Nat.le_of_ble_eq_true rfl) ⟨(Nat.le_of_ble_eq_true rfl), (Nat.le_of_ble_eq_true rfl)⟩ dL_bestFor_5 rfl rfl [(0, 10, 13, 53), (0, 10, 17, 25)] T ((tableOf [(0, 10, 13, 53), (0, 10, 17, 25)]).take 1) ((tableOf [(0, 10, 13, 53), (0, 10, 17, 25)]).drop 2) ((tableOf [(0, 10, 13, 53), (0, 10, 17, 25)])[1]) rfl (by
          intro z hz
          simp only [tableOf, List.map, List.take, List.mem_cons, List.not_mem_nil, or_false] at hz
          rcases hz with rfl
          · exact Or.inr ⟨by decide, "java/util/NoSuchElementException", w_621, by decide +kernel⟩) (by decide) (by decide) w_301 (by decide +kernel) (hpc := 17) rfl (fun q9 => ?_)
        refine r_astore (q := 19) (L' := [(4, .ref q9), (0, .ref a0), (1, .int p1), (2, .int p2), (3, .ref o9)]) C dL_bestFor_17 rfl (by decide) rfl ?_
        refine r_iconst (q := 20) (v := 2) C dL_bestFor_19 (by decide) rfl ?_
        exact w_iret C F (Nat.le_of_ble_eq_true rfl) (Nat.le_of_ble_eq_true rfl) dL_bestFor_20
      · skip
        replace hf := m_if0 hf e0; replace hf := m_if0 hf e1; cases hf
  · cases hf
def f_L_buffering (Z : m_Z) (S : m_S) (a0 : Nat) (p1 : Int32) (o9 : Nat) : Option (Int32 × m_S) := m_gd (m_ok Z a0 8) (match f_X8_buffering Z S a0 p1 with
  | some (.ok v) => m_gd (m_ok Z o9 19) (m_gd (m_in 0 (Z.2.2 o9)) (some (0, m_pJ S o9 (0 : Int32).toNatClampNeg (v.toInt64))))
  | some (.error e) => (if e = "java/lang/IndexOutOfBoundsException" then some (1, S) else (if e = "java/util/NoSuchElementException" then some (2, S) else none))
  | none => none)
abbrev rm_L_buffering : Room := { frames := 8, cells := 2, slots := 12, locals := 126 }
theorem hd_L_buffering : yL_buffering.cls ≠ "java/lang/invoke/MethodHandle" ∧ yL_buffering.cls ≠ "java/lang/invoke/VarHandle" ∧ (parseMethodDescriptor yL_buffering.desc).map (fun d => d.parameters.length) = some 3 := by decide +kernel
set_option maxHeartbeats 4000000 in
set_option maxRecDepth 100000 in
theorem c_L_buffering {l : Launch} (hl : l.stackTraces = false) {Z : m_Z} {S S9 : m_S} {a0 : Nat} {p1 : Int32} {o9 : Nat} {r9 : Int32} (hf : f_L_buffering Z S a0 p1 o9 = some (r9, S9)) : m_Cx l yL_buffering (.codeWith yL_buffering cL_buffering 4 (some .int) [(0, 8, 11, 19), (0, 8, 14, 53)] :: m_ws) rm_L_buffering 2 12 (fun f => [.ref a0, .int p1, .ref o9]) Z S (.ok (some (.int r9))) S9 := by
  unfold f_L_buffering at hf
  refine m_entW hl (by decide) (fun _ => Nat.le_of_ble_eq_true rfl) (fun x C F T => ?_)
  have C : m_H x l RL cL_buffering 4 rm_L_buffering := C
  show m_G x Z S 4 0 0 0 [(0, .ref a0), (1, .int p1), (2, .ref o9)] []
  obtain ⟨g1, hf⟩ := m_gd_of hf
  refine r_aload_n (q := 1) C 2 dL_buffering_0 rfl rfl ?_
  refine r_iconst (q := 2) (v := 0) C dL_buffering_1 (by decide) rfl ?_
  refine r_aload_n (q := 3) C 0 dL_buffering_2 rfl rfl ?_
  refine r_iload_n (q := 4) C 1 dL_buffering_3 rfl rfl ?_
  split at hf
  · rename_i v h1
    obtain ⟨g2, hf⟩ := m_gd_of hf
    obtain ⟨g3, hf⟩ := m_gd_of hf
    obtain ⟨rfl, rfl⟩ := m_so2 hf
    refine x_okV (mcQ := 2) (msQ := 12) (retQ := none) (q := 7) (st1 := [.double v, .int 0, .ref o9]) C (c_X8_buffering hl h1) rfl w_667 w_668 w_669 w_2 w_670 hd_X8_buffering rfl (by decide) g1 rfl rfl rfl ⟨(Nat.le_of_ble_eq_true rfl), (Nat.le_of_ble_eq_true rfl)⟩ (Nat.le_of_ble_eq_true rfl) ⟨(Nat.le_of_ble_eq_true rfl), (Nat.le_of_ble_eq_true rfl)⟩ dL_buffering_4 rfl (Nat.le_of_ble_eq_true rfl) (Nat.le_of_ble_eq_true rfl) rfl ?_
    refine r_dast (q := 8) C dL_buffering_7 ⟨g2, g3⟩ rfl ?_
    refine r_goto (t := 17) C dL_buffering_8 (by decide) ?_
    refine r_iconst (q := 18) (v := 0) C dL_buffering_17 (by decide) rfl ?_
    exact w_iret C F (Nat.le_of_ble_eq_true rfl) (Nat.le_of_ble_eq_true rfl) dL_buffering_18
  · rename_i e h1
    by_cases e0 : e = "java/lang/IndexOutOfBoundsException"
    · subst e0
      replace hf := m_if1 hf rfl
      obtain ⟨rfl, rfl⟩ := m_so2 hf
      refine x_thV C (c_X8_buffering hl h1) rfl w_667 w_668 w_669 w_2 w_670 hd_X8_buffering rfl (by decide) g1 rfl rfl rfl ⟨(Nat.le_of_ble_eq_true rfl), (Nat.le_of_ble_eq_true rfl)⟩ (Nat.le_of_ble_eq_true rfl) ⟨(Nat.le_of_ble_eq_true rfl), (Nat.le_of_ble_eq_true rfl)⟩ dL_buffering_4 rfl rfl [(0, 8, 11, 19), (0, 8, 14, 53)] T ((tableOf [(0, 8, 11, 19), (0, 8, 14, 53)]).take 0) ((tableOf [(0, 8, 11, 19), (0, 8, 14, 53)]).drop 1) ((tableOf [(0, 8, 11, 19), (0, 8, 14, 53)])[0]) rfl (fun z hz => nomatch hz) (by decide) (by decide) w_280 (by decide +kernel) (hpc := 11) rfl (fun q9 => ?_)
      refine r_astore_n (q := 12) (L' := [(3, .ref q9), (0, .ref a0), (1, .int p1), (2, .ref o9)]) C dL_buffering_11 rfl rfl (by decide) rfl ?_
      refine r_iconst (q := 13) (v := 1) C dL_buffering_12 (by decide) rfl ?_
      exact w_iret C F (Nat.le_of_ble_eq_true rfl) (Nat.le_of_ble_eq_true rfl) dL_buffering_13
    · skip
      by_cases e1 : e = "java/util/NoSuchElementException"
      · subst e1
        replace hf := m_if0 hf (by decide); replace hf := m_if1 hf rfl
        obtain ⟨rfl, rfl⟩ := m_so2 hf
        refine x_thV C (c_X8_buffering hl h1) rfl w_667 w_668 w_669 w_2 w_670 hd_X8_buffering rfl (by decide) g1 rfl rfl rfl ⟨(Nat.le_of_ble_eq_true rfl), (Nat.le_of_ble_eq_true rfl)⟩ (Nat.le_of_ble_eq_true rfl) ⟨(Nat.le_of_ble_eq_true rfl), (Nat.le_of_ble_eq_true rfl)⟩ dL_buffering_4 rfl rfl [(0, 8, 11, 19), (0, 8, 14, 53)] T ((tableOf [(0, 8, 11, 19), (0, 8, 14, 53)]).take 1) ((tableOf [(0, 8, 11, 19), (0, 8, 14, 53)]).drop 2) ((tableOf [(0, 8, 11, 19), (0, 8, 14, 53)])[1]) rfl (by
          intro z hz
          simp only [tableOf, List.map, List.take, List.mem_cons, List.not_mem_nil, or_false] at hz
          rcases hz with rfl
          · exact Or.inr ⟨by decide, "java/lang/IndexOutOfBoundsException", w_280, by decide +kernel⟩) (by decide) (by decide) w_621 (by decide +kernel) (hpc := 14) rfl (fun q9 => ?_)
        refine r_astore_n (q := 15) (L' := [(3, .ref q9), (0, .ref a0), (1, .int p1), (2, .ref o9)]) C dL_buffering_14 rfl rfl (by decide) rfl ?_
        refine r_iconst (q := 16) (v := 2) C dL_buffering_15 (by decide) rfl ?_
        exact w_iret C F (Nat.le_of_ble_eq_true rfl) (Nat.le_of_ble_eq_true rfl) dL_buffering_16
      · skip
        replace hf := m_if0 hf e0; replace hf := m_if0 hf e1; cases hf
  · cases hf
def f_L_caseOf (Z : m_Z) (S : m_S) (a0 : Nat) (p1 : Int32) (o9 : Nat) : Option (Int32 × m_S) := m_gd (m_ok Z a0 8) (match f_X8_caseOf Z S a0 p1 with
  | some (.ok v) => m_gd (m_ok Z o9 12) (m_gd (m_in 0 (Z.2.2 o9)) (some (0, m_pJ S o9 (0 : Int32).toNatClampNeg (v.toInt64))))
  | some (.error e) => (if e = "java/util/NoSuchElementException" then some (1, S) else none)
  | none => none)
abbrev rm_L_caseOf : Room := { frames := 7, cells := 1, slots := 6, locals := 104 }
theorem hd_L_caseOf : yL_caseOf.cls ≠ "java/lang/invoke/MethodHandle" ∧ yL_caseOf.cls ≠ "java/lang/invoke/VarHandle" ∧ (parseMethodDescriptor yL_caseOf.desc).map (fun d => d.parameters.length) = some 3 := by decide +kernel
set_option maxHeartbeats 4000000 in
set_option maxRecDepth 100000 in
theorem c_L_caseOf {l : Launch} (hl : l.stackTraces = false) {Z : m_Z} {S S9 : m_S} {a0 : Nat} {p1 : Int32} {o9 : Nat} {r9 : Int32} (hf : f_L_caseOf Z S a0 p1 o9 = some (r9, S9)) : m_Cx l yL_caseOf (.codeWith yL_caseOf cL_caseOf 4 (some .int) [(0, 9, 12, 53)] :: m_ws) rm_L_caseOf 1 6 (fun f => [.ref a0, .int p1, .ref o9]) Z S (.ok (some (.int r9))) S9 := by
  unfold f_L_caseOf at hf
  refine m_entW hl (by decide) (fun _ => Nat.le_of_ble_eq_true rfl) (fun x C F T => ?_)
  have C : m_H x l RL cL_caseOf 4 rm_L_caseOf := C
  show m_G x Z S 4 0 0 0 [(0, .ref a0), (1, .int p1), (2, .ref o9)] []
  obtain ⟨g1, hf⟩ := m_gd_of hf
  refine r_aload_n (q := 1) C 2 dL_caseOf_0 rfl rfl ?_
  refine r_iconst (q := 2) (v := 0) C dL_caseOf_1 (by decide) rfl ?_
  refine r_aload_n (q := 3) C 0 dL_caseOf_2 rfl rfl ?_
  refine r_iload_n (q := 4) C 1 dL_caseOf_3 rfl rfl ?_
  split at hf
  · rename_i v h1
    obtain ⟨g2, hf⟩ := m_gd_of hf
    obtain ⟨g3, hf⟩ := m_gd_of hf
    obtain ⟨rfl, rfl⟩ := m_so2 hf
    refine x_okV (mcQ := 1) (msQ := 6) (retQ := none) (q := 7) (st1 := [.int v, .int 0, .ref o9]) C (c_X8_caseOf hl h1) rfl w_719 w_720 w_721 w_2 w_722 hd_X8_caseOf rfl (by decide) g1 rfl rfl rfl ⟨(Nat.le_of_ble_eq_true rfl), (Nat.le_of_ble_eq_true rfl)⟩ (Nat.le_of_ble_eq_true rfl) ⟨(Nat.le_of_ble_eq_true rfl), (Nat.le_of_ble_eq_true rfl)⟩ dL_caseOf_4 rfl (Nat.le_of_ble_eq_true rfl) (Nat.le_of_ble_eq_true rfl) rfl ?_
    refine r_i2l (q := 8) C dL_caseOf_7 rfl ?_
    refine r_last (q := 9) C dL_caseOf_8 ⟨g2, g3⟩ rfl ?_
    refine r_goto (t := 15) C dL_caseOf_9 (by decide) ?_
    refine r_iconst (q := 16) (v := 0) C dL_caseOf_15 (by decide) rfl ?_
    exact w_iret C F (Nat.le_of_ble_eq_true rfl) (Nat.le_of_ble_eq_true rfl) dL_caseOf_16
  · rename_i e h1
    by_cases e0 : e = "java/util/NoSuchElementException"
    · subst e0
      replace hf := m_if1 hf rfl
      obtain ⟨rfl, rfl⟩ := m_so2 hf
      refine x_thV C (c_X8_caseOf hl h1) rfl w_719 w_720 w_721 w_2 w_722 hd_X8_caseOf rfl (by decide) g1 rfl rfl rfl ⟨(Nat.le_of_ble_eq_true rfl), (Nat.le_of_ble_eq_true rfl)⟩ (Nat.le_of_ble_eq_true rfl) ⟨(Nat.le_of_ble_eq_true rfl), (Nat.le_of_ble_eq_true rfl)⟩ dL_caseOf_4 rfl rfl [(0, 9, 12, 53)] T ((tableOf [(0, 9, 12, 53)]).take 0) ((tableOf [(0, 9, 12, 53)]).drop 1) ((tableOf [(0, 9, 12, 53)])[0]) rfl (fun z hz => nomatch hz) (by decide) (by decide) w_621 (by decide +kernel) (hpc := 12) rfl (fun q9 => ?_)
      refine r_astore_n (q := 13) (L' := [(3, .ref q9), (0, .ref a0), (1, .int p1), (2, .ref o9)]) C dL_caseOf_12 rfl rfl (by decide) rfl ?_
      refine r_iconst (q := 14) (v := 1) C dL_caseOf_13 (by decide) rfl ?_
      exact w_iret C F (Nat.le_of_ble_eq_true rfl) (Nat.le_of_ble_eq_true rfl) dL_caseOf_14
    · skip
      replace hf := m_if0 hf e0; cases hf
  · cases hf
def f_L_cassette (Z : m_Z) (S : m_S) (a0 : Nat) (p1 : Int32) (p2 : Int32) (p3 : Int32) (o9 : Nat) : Option (Int32 × m_S) := m_gd (m_ok Z a0 8) (match f_X8_cassette Z S a0 p1 p2 p3 with
  | some (.ok v) => m_gd (m_ok Z o9 12) (m_gd (m_in 0 (Z.2.2 o9)) (some (0, m_pJ S o9 (0 : Int32).toNatClampNeg (v.toInt64))))
  | some (.error e) => (if e = "java/lang/IndexOutOfBoundsException" then some (1, S) else (if e = "java/lang/IllegalArgumentException" then some (2, S) else none))
  | none => none)
abbrev rm_L_cassette : Room := { frames := 8, cells := 2, slots := 12, locals := 136 }
theorem hd_L_cassette : yL_cassette.cls ≠ "java/lang/invoke/MethodHandle" ∧ yL_cassette.cls ≠ "java/lang/invoke/VarHandle" ∧ (parseMethodDescriptor yL_cassette.desc).map (fun d => d.parameters.length) = some 5 := by decide +kernel
set_option maxHeartbeats 4000000 in
set_option maxRecDepth 100000 in
theorem c_L_cassette {l : Launch} (hl : l.stackTraces = false) {Z : m_Z} {S S9 : m_S} {a0 : Nat} {p1 : Int32} {p2 : Int32} {p3 : Int32} {o9 : Nat} {r9 : Int32} (hf : f_L_cassette Z S a0 p1 p2 p3 o9 = some (r9, S9)) : m_Cx l yL_cassette (.codeWith yL_cassette cL_cassette 6 (some .int) [(0, 12, 15, 19), (0, 12, 19, 25)] :: m_ws) rm_L_cassette 2 12 (fun f => [.ref a0, .int p1, .int p2, .int p3, .ref o9]) Z S (.ok (some (.int r9))) S9 := by
  unfold f_L_cassette at hf
  refine m_entW hl (by decide) (fun _ => Nat.le_of_ble_eq_true rfl) (fun x C F T => ?_)
  have C : m_H x l RL cL_cassette 6 rm_L_cassette := C
  show m_G x Z S 6 0 0 0 [(0, .ref a0), (1, .int p1), (2, .int p2), (3, .int p3), (4, .ref o9)] []
  obtain ⟨g1, hf⟩ := m_gd_of hf
  refine r_aload (q := 2) C 4 dL_cassette_0 rfl rfl ?_
  refine r_iconst (q := 3) (v := 0) C dL_cassette_2 (by decide) rfl ?_
  refine r_aload_n (q := 4) C 0 dL_cassette_3 rfl rfl ?_
  refine r_iload_n (q := 5) C 1 dL_cassette_4 rfl rfl ?_
  refine r_iload_n (q := 6) C 2 dL_cassette_5 rfl rfl ?_
  refine r_iload_n (q := 7) C 3 dL_cassette_6 rfl rfl ?_
  split at hf
  · rename_i v h1
    obtain ⟨g2, hf⟩ := m_gd_of hf
    obtain ⟨g3, hf⟩ := m_gd_of hf
    obtain ⟨rfl, rfl⟩ := m_so2 hf
    refine x_okV (mcQ := 2) (msQ := 12) (retQ := none) (q := 10) (st1 := [.int v, .int 0, .ref o9]) C (c_X8_cassette hl h1) rfl w_699 w_700 w_701 w_2 w_702 hd_X8_cassette rfl (by decide) g1 rfl rfl rfl ⟨(Nat.le_of_ble_eq_true rfl), (Nat.le_of_ble_eq_true rfl)⟩ (Nat.le_of_ble_eq_true rfl) ⟨(Nat.le_of_ble_eq_true rfl), (Nat.le_of_ble_eq_true rfl)⟩ dL_cassette_7 rfl (Nat.le_of_ble_eq_true rfl) (Nat.le_of_ble_eq_true rfl) rfl ?_
    refine r_i2l (q := 11) C dL_cassette_10 rfl ?_
    refine r_last (q := 12) C dL_cassette_11 ⟨g2, g3⟩ rfl ?_
    refine r_goto (t := 23) C dL_cassette_12 (by decide) ?_
    refine r_iconst (q := 24) (v := 0) C dL_cassette_23 (by decide) rfl ?_
    exact w_iret C F (Nat.le_of_ble_eq_true rfl) (Nat.le_of_ble_eq_true rfl) dL_cassette_24
  · rename_i e h1
    by_cases e0 : e = "java/lang/IndexOutOfBoundsException"
    · subst e0
      replace hf := m_if1 hf rfl
      obtain ⟨rfl, rfl⟩ := m_so2 hf
      refine x_thV C (c_X8_cassette hl h1) rfl w_699 w_700 w_701 w_2 w_702 hd_X8_cassette rfl (by decide) g1 rfl rfl rfl ⟨(Nat.le_of_ble_eq_true rfl), (Nat.le_of_ble_eq_true rfl)⟩ (Nat.le_of_ble_eq_true rfl) ⟨(Nat.le_of_ble_eq_true rfl), (Nat.le_of_ble_eq_true rfl)⟩ dL_cassette_7 rfl rfl [(0, 12, 15, 19), (0, 12, 19, 25)] T ((tableOf [(0, 12, 15, 19), (0, 12, 19, 25)]).take 0) ((tableOf [(0, 12, 15, 19), (0, 12, 19, 25)]).drop 1) ((tableOf [(0, 12, 15, 19), (0, 12, 19, 25)])[0]) rfl (fun z hz => nomatch hz) (by decide) (by decide) w_280 (by decide +kernel) (hpc := 15) rfl (fun q9 => ?_)
      refine r_astore (q := 17) (L' := [(5, .ref q9), (0, .ref a0), (1, .int p1), (2, .int p2), (3, .int p3), (4, .ref o9)]) C dL_cassette_15 rfl (by decide) rfl ?_
      refine r_iconst (q := 18) (v := 1) C dL_cassette_17 (by decide) rfl ?_
      exact w_iret C F (Nat.le_of_ble_eq_true rfl) (Nat.le_of_ble_eq_true rfl) dL_cassette_18
    · skip
      by_cases e1 : e = "java/lang/IllegalArgumentException"
      · subst e1
        replace hf := m_if0 hf (by decide); replace hf := m_if1 hf rfl
        obtain ⟨rfl, rfl⟩ := m_so2 hf
        refine x_thV C (c_X8_cassette hl h1) rfl w_699 w_700 w_701 w_2 w_702 hd_X8_cassette rfl (by decide) g1 rfl rfl rfl ⟨(Nat.le_of_ble_eq_true rfl), (Nat.le_of_ble_eq_true rfl)⟩ (Nat.le_of_ble_eq_true rfl) ⟨(Nat.le_of_ble_eq_true rfl), (Nat.le_of_ble_eq_true rfl)⟩ dL_cassette_7 rfl rfl [(0, 12, 15, 19), (0, 12, 19, 25)] T ((tableOf [(0, 12, 15, 19), (0, 12, 19, 25)]).take 1) ((tableOf [(0, 12, 15, 19), (0, 12, 19, 25)]).drop 2) ((tableOf [(0, 12, 15, 19), (0, 12, 19, 25)])[1]) rfl (by
          intro z hz
          simp only [tableOf, List.map, List.take, List.mem_cons, List.not_mem_nil, or_false] at hz
          rcases hz with rfl
          · exact Or.inr ⟨by decide, "java/lang/IndexOutOfBoundsException", w_280, by decide +kernel⟩) (by decide) (by decide) w_301 (by decide +kernel) (hpc := 19) rfl (fun q9 => ?_)
        refine r_astore (q := 21) (L' := [(5, .ref q9), (0, .ref a0), (1, .int p1), (2, .int p2), (3, .int p3), (4, .ref o9)]) C dL_cassette_19 rfl (by decide) rfl ?_
        refine r_iconst (q := 22) (v := 2) C dL_cassette_21 (by decide) rfl ?_
        exact w_iret C F (Nat.le_of_ble_eq_true rfl) (Nat.le_of_ble_eq_true rfl) dL_cassette_22
      · skip
        replace hf := m_if0 hf e0; replace hf := m_if0 hf e1; cases hf
  · cases hf
def f_L_content (Z : m_Z) (S : m_S) (a0 : Nat) (p1 : Int32) (p2 : Int32) (o9 : Nat) : Option (Int32 × m_S) := m_gd (m_ok Z a0 8) (match f_X8_content Z S a0 p1 p2 with
  | some (.ok v) => m_gd (m_ok Z o9 12) (m_gd (m_in 0 (Z.2.2 o9)) (some (0, m_pJ S o9 (0 : Int32).toNatClampNeg (v.toInt64))))
  | some (.error e) => (if e = "java/lang/IndexOutOfBoundsException" then some (1, S) else none)
  | none => none)
abbrev rm_L_content : Room := { frames := 8, cells := 1, slots := 6, locals := 125 }
theorem hd_L_content : yL_content.cls ≠ "java/lang/invoke/MethodHandle" ∧ yL_content.cls ≠ "java/lang/invoke/VarHandle" ∧ (parseMethodDescriptor yL_content.desc).map (fun d => d.parameters.length) = some 4 := by decide +kernel
set_option maxHeartbeats 4000000 in
set_option maxRecDepth 100000 in
theorem c_L_content {l : Launch} (hl : l.stackTraces = false) {Z : m_Z} {S S9 : m_S} {a0 : Nat} {p1 : Int32} {p2 : Int32} {o9 : Nat} {r9 : Int32} (hf : f_L_content Z S a0 p1 p2 o9 = some (r9, S9)) : m_Cx l yL_content (.codeWith yL_content cL_content 5 (some .int) [(0, 10, 13, 19)] :: m_ws) rm_L_content 1 6 (fun f => [.ref a0, .int p1, .int p2, .ref o9]) Z S (.ok (some (.int r9))) S9 := by
  unfold f_L_content at hf
  refine m_entW hl (by decide) (fun _ => Nat.le_of_ble_eq_true rfl) (fun x C F T => ?_)
  have C : m_H x l RL cL_content 5 rm_L_content := C
  show m_G x Z S 5 0 0 0 [(0, .ref a0), (1, .int p1), (2, .int p2), (3, .ref o9)] []
  obtain ⟨g1, hf⟩ := m_gd_of hf
  refine r_aload_n (q := 1) C 3 dL_content_0 rfl rfl ?_
  refine r_iconst (q := 2) (v := 0) C dL_content_1 (by decide) rfl ?_
  refine r_aload_n (q := 3) C 0 dL_content_2 rfl rfl ?_
  refine r_iload_n (q := 4) C 1 dL_content_3 rfl rfl ?_
  refine r_iload_n (q := 5) C 2 dL_content_4 rfl rfl ?_
  split at hf
  · rename_i v h1
    obtain ⟨g2, hf⟩ := m_gd_of hf
    obtain ⟨g3, hf⟩ := m_gd_of hf
    obtain ⟨rfl, rfl⟩ := m_so2 hf
    refine x_okV (mcQ := 1) (msQ := 6) (retQ := none) (q := 8) (st1 := [.int v, .int 0, .ref o9]) C (c_X8_content hl h1) rfl w_577 w_578 w_579 w_2 w_580 hd_X8_content rfl (by decide) g1 rfl rfl rfl ⟨(Nat.le_of_ble_eq_true rfl), (Nat.le_of_ble_eq_true rfl)⟩ (Nat.le_of_ble_eq_true rfl) ⟨(Nat.le_of_ble_eq_true rfl), (Nat.le_of_ble_eq_true rfl)⟩ dL_content_5 rfl (Nat.le_of_ble_eq_true rfl) (Nat.le_of_ble_eq_true rfl) rfl ?_
    refine r_i2l (q := 9) C dL_content_8 rfl ?_
    refine r_last (q := 10) C dL_content_9 ⟨g2, g3⟩ rfl ?_
    refine r_goto (t := 17) C dL_content_10 (by decide) ?_
    refine r_iconst (q := 18) (v := 0) C dL_content_17 (by decide) rfl ?_
    exact w_iret C F (Nat.le_of_ble_eq_true rfl) (Nat.le_of_ble_eq_true rfl) dL_content_18
  · rename_i e h1
    by_cases e0 : e = "java/lang/IndexOutOfBoundsException"
    · subst e0
      replace hf := m_if1 hf rfl
      obtain ⟨rfl, rfl⟩ := m_so2 hf
      refine x_thV C (c_X8_content hl h1) rfl w_577 w_578 w_579 w_2 w_580 hd_X8_content rfl (by decide) g1 rfl rfl rfl ⟨(Nat.le_of_ble_eq_true rfl), (Nat.le_of_ble_eq_true rfl)⟩ (Nat.le_of_ble_eq_true rfl) ⟨(Nat.le_of_ble_eq_true rfl), (Nat.le_of_ble_eq_true rfl)⟩ dL_content_5 rfl rfl [(0, 10, 13, 19)] T ((tableOf [(0, 10, 13, 19)]).take 0) ((tableOf [(0, 10, 13, 19)]).drop 1) ((tableOf [(0, 10, 13, 19)])[0]) rfl (fun z hz => nomatch hz) (by decide) (by decide) w_280 (by decide +kernel) (hpc := 13) rfl (fun q9 => ?_)
      refine r_astore (q := 15) (L' := [(4, .ref q9), (0, .ref a0), (1, .int p1), (2, .int p2), (3, .ref o9)]) C dL_content_13 rfl (by decide) rfl ?_
      refine r_iconst (q := 16) (v := 1) C dL_content_15 (by decide) rfl ?_
      exact w_iret C F (Nat.le_of_ble_eq_true rfl) (Nat.le_of_ble_eq_true rfl) dL_content_16
    · skip
      replace hf := m_if0 hf e0; cases hf
  · cases hf
def f_L_displayCase (Z : m_Z) (S : m_S) (a0 : Nat) (p1 : Int32) (p2 : Int32) (o9 : Nat) : Option (Int32 × m_S) := m_gd (m_ok Z a0 8) (match f_X8_displayCase Z S a0 p1 p2 with
  | some (.ok v) => m_gd (m_ok Z o9 12) (m_gd (m_in 0 (Z.2.2 o9)) (some (0, m_pJ S o9 (0 : Int32).toNatClampNeg (v.toInt64))))
  | some (.error e) => (if e = "java/lang/IndexOutOfBoundsException" then some (1, S) else (if e = "java/lang/IllegalArgumentException" then some (2, S) else none))
  | none => none)
abbrev rm_L_displayCase : Room := { frames := 8, cells := 3, slots := 18, locals := 127 }
theorem hd_L_displayCase : yL_displayCase.cls ≠ "java/lang/invoke/MethodHandle" ∧ yL_displayCase.cls ≠ "java/lang/invoke/VarHandle" ∧ (parseMethodDescriptor yL_displayCase.desc).map (fun d => d.parameters.length) = some 4 := by decide +kernel
set_option maxHeartbeats 4000000 in
set_option maxRecDepth 100000 in
theorem c_L_displayCase {l : Launch} (hl : l.stackTraces = false) {Z : m_Z} {S S9 : m_S} {a0 : Nat} {p1 : Int32} {p2 : Int32} {o9 : Nat} {r9 : Int32} (hf : f_L_displayCase Z S a0 p1 p2 o9 = some (r9, S9)) : m_Cx l yL_displayCase (.codeWith yL_displayCase cL_displayCase 5 (some .int) [(0, 10, 13, 19), (0, 10, 17, 25)] :: m_ws) rm_L_displayCase 3 18 (fun f => [.ref a0, .int p1, .int p2, .ref o9]) Z S (.ok (some (.int r9))) S9 := by
  unfold f_L_displayCase at hf
  refine m_entW hl (by decide) (fun _ => Nat.le_of_ble_eq_true rfl) (fun x C F T => ?_)
  have C : m_H x l RL cL_displayCase 5 rm_L_displayCase := C
  show m_G x Z S 5 0 0 0 [(0, .ref a0), (1, .int p1), (2, .int p2), (3, .ref o9)] []
  obtain ⟨g1, hf⟩ := m_gd_of hf
  refine r_aload_n (q := 1) C 3 dL_displayCase_0 rfl rfl ?_
  refine r_iconst (q := 2) (v := 0) C dL_displayCase_1 (by decide) rfl ?_
  refine r_aload_n (q := 3) C 0 dL_displayCase_2 rfl rfl ?_
  refine r_iload_n (q := 4) C 1 dL_displayCase_3 rfl rfl ?_
  refine r_iload_n (q := 5) C 2 dL_displayCase_4 rfl rfl ?_
  split at hf
  · rename_i v h1
    obtain ⟨g2, hf⟩ := m_gd_of hf
    obtain ⟨g3, hf⟩ := m_gd_of hf
    obtain ⟨rfl, rfl⟩ := m_so2 hf
    refine x_okV (mcQ := 3) (msQ := 18) (retQ := none) (q := 8) (st1 := [.int v, .int 0, .ref o9]) C (c_X8_displayCase hl h1) rfl w_595 w_596 w_597 w_2 w_598 hd_X8_displayCase rfl (by decide) g1 rfl rfl rfl ⟨(Nat.le_of_ble_eq_true rfl), (Nat.le_of_ble_eq_true rfl)⟩ (Nat.le_of_ble_eq_true rfl) ⟨(Nat.le_of_ble_eq_true rfl), (Nat.le_of_ble_eq_true rfl)⟩ dL_displayCase_5 rfl (Nat.le_of_ble_eq_true rfl) (Nat.le_of_ble_eq_true rfl) rfl ?_
    refine r_i2l (q := 9) C dL_displayCase_8 rfl ?_
    refine r_last (q := 10) C dL_displayCase_9 ⟨g2, g3⟩ rfl ?_
    refine r_goto (t := 21) C dL_displayCase_10 (by decide) ?_
    refine r_iconst (q := 22) (v := 0) C dL_displayCase_21 (by decide) rfl ?_
    exact w_iret C F (Nat.le_of_ble_eq_true rfl) (Nat.le_of_ble_eq_true rfl) dL_displayCase_22
  · rename_i e h1
    by_cases e0 : e = "java/lang/IndexOutOfBoundsException"
    · subst e0
      replace hf := m_if1 hf rfl
      obtain ⟨rfl, rfl⟩ := m_so2 hf
      refine x_thV C (c_X8_displayCase hl h1) rfl w_595 w_596 w_597 w_2 w_598 hd_X8_displayCase rfl (by decide) g1 rfl rfl rfl ⟨(Nat.le_of_ble_eq_true rfl), (Nat.le_of_ble_eq_true rfl)⟩ (Nat.le_of_ble_eq_true rfl) ⟨(Nat.le_of_ble_eq_true rfl), (Nat.le_of_ble_eq_true rfl)⟩ dL_displayCase_5 rfl rfl [(0, 10, 13, 19), (0, 10, 17, 25)] T ((tableOf [(0, 10, 13, 19), (0, 10, 17, 25)]).take 0) ((tableOf [(0, 10, 13, 19), (0, 10, 17, 25)]).drop 1) ((tableOf [(0, 10, 13, 19), (0, 10, 17, 25)])[0]) rfl (fun z hz => nomatch hz) (by decide) (by decide) w_280 (by decide +kernel) (hpc := 13) rfl (fun q9 => ?_)
      refine r_astore (q := 15) (L' := [(4, .ref q9), (0, .ref a0), (1, .int p1), (2, .int p2), (3, .ref o9)]) C dL_displayCase_13 rfl (by decide) rfl ?_
      refine r_iconst (q := 16) (v := 1) C dL_displayCase_15 (by decide) rfl ?_
      exact w_iret C F (Nat.le_of_ble_eq_true rfl) (Nat.le_of_ble_eq_true rfl) dL_displayCase_16
    · skip
      by_cases e1 : e = "java/lang/IllegalArgumentException"
      · subst e1
        replace hf := m_if0 hf (by decide); replace hf := m_if1 hf rfl
        obtain ⟨rfl, rfl⟩ := m_so2 hf
        refine x_thV C (c_X8_displayCase hl h1) rfl w_595 w_596 w_597 w_2 w_598 hd_X8_displayCase rfl (by decide) g1 rfl rfl rfl ⟨(Nat.le_of_ble_eq_true rfl), (Nat.le_of_ble_eq_true rfl)⟩ (Nat.le_of_ble_eq_true rfl) ⟨(Nat.le_of_ble_eq_true rfl), (Nat.le_of_ble_eq_true rfl)⟩ dL_displayCase_5 rfl rfl [(0, 10, 13, 19), (0, 10, 17, 25)] T ((tableOf [(0, 10, 13, 19), (0, 10, 17, 25)]).take 1) ((tableOf [(0, 10, 13, 19), (0, 10, 17, 25)]).drop 2) ((tableOf [(0, 10, 13, 19), (0, 10, 17, 25)])[1]) rfl (by
          intro z hz
          simp only [tableOf, List.map, List.take, List.mem_cons, List.not_mem_nil, or_false] at hz
          rcases hz with rfl
          · exact Or.inr ⟨by decide, "java/lang/IndexOutOfBoundsException", w_280, by decide +kernel⟩) (by decide) (by decide) w_301 (by decide +kernel) (hpc := 17) rfl (fun q9 => ?_)
        refine r_astore (q := 19) (L' := [(4, .ref q9), (0, .ref a0), (1, .int p1), (2, .int p2), (3, .ref o9)]) C dL_displayCase_17 rfl (by decide) rfl ?_
        refine r_iconst (q := 20) (v := 2) C dL_displayCase_19 (by decide) rfl ?_
        exact w_iret C F (Nat.le_of_ble_eq_true rfl) (Nat.le_of_ble_eq_true rfl) dL_displayCase_20
      · skip
        replace hf := m_if0 hf e0; replace hf := m_if0 hf e1; cases hf
  · cases hf
def f_L_exchange (Z : m_Z) (S : m_S) (a0 : Nat) (p1 : Int32) (p2 : Int32) (o9 : Nat) : Option (Int32 × m_S) := m_gd (m_ok Z a0 8) (match f_X8_exchange Z S a0 p1 p2 with
  | some (.ok v, S1) => m_gd (m_ok Z o9 12) (m_gd (m_in 0 (Z.2.2 o9)) (some (0, m_pJ S1 o9 (0 : Int32).toNatClampNeg (v.toInt64))))
  | some (.error e, S1) => (if e = "java/util/NoSuchElementException" then some (1, S1) else (if e = "java/lang/IllegalArgumentException" then some (2, S1) else none))
  | none => none)
abbrev rm_L_exchange : Room := { frames := 8, cells := 4, slots := 24, locals := 159 }
theorem hd_L_exchange : yL_exchange.cls ≠ "java/lang/invoke/MethodHandle" ∧ yL_exchange.cls ≠ "java/lang/invoke/VarHandle" ∧ (parseMethodDescriptor yL_exchange.desc).map (fun d => d.parameters.length) = some 4 := by decide +kernel
set_option maxHeartbeats 4000000 in
set_option maxRecDepth 100000 in
theorem c_L_exchange {l : Launch} (hl : l.stackTraces = false) {Z : m_Z} {S S9 : m_S} {a0 : Nat} {p1 : Int32} {p2 : Int32} {o9 : Nat} {r9 : Int32} (hf : f_L_exchange Z S a0 p1 p2 o9 = some (r9, S9)) : m_Cx l yL_exchange (.codeWith yL_exchange cL_exchange 5 (some .int) [(0, 10, 13, 53), (0, 10, 17, 25)] :: m_ws) rm_L_exchange 4 24 (fun f => [.ref a0, .int p1, .int p2, .ref o9]) Z S (.ok (some (.int r9))) S9 := by
  unfold f_L_exchange at hf
  refine m_entW hl (by decide) (fun _ => Nat.le_of_ble_eq_true rfl) (fun x C F T => ?_)
  have C : m_H x l RL cL_exchange 5 rm_L_exchange := C
  show m_G x Z S 5 0 0 0 [(0, .ref a0), (1, .int p1), (2, .int p2), (3, .ref o9)] []
  obtain ⟨g1, hf⟩ := m_gd_of hf
  refine r_aload_n (q := 1) C 3 dL_exchange_0 rfl rfl ?_
  refine r_iconst (q := 2) (v := 0) C dL_exchange_1 (by decide) rfl ?_
  refine r_aload_n (q := 3) C 0 dL_exchange_2 rfl rfl ?_
  refine r_iload_n (q := 4) C 1 dL_exchange_3 rfl rfl ?_
  refine r_iload_n (q := 5) C 2 dL_exchange_4 rfl rfl ?_
  split at hf
  · rename_i v S1 h1
    obtain ⟨g2, hf⟩ := m_gd_of hf
    obtain ⟨g3, hf⟩ := m_gd_of hf
    obtain ⟨rfl, rfl⟩ := m_so2 hf
    refine x_okV (mcQ := 4) (msQ := 24) (retQ := none) (q := 8) (st1 := [.int v, .int 0, .ref o9]) C (c_X8_exchange hl h1) rfl w_776 w_777 w_778 w_2 w_779 hd_X8_exchange rfl (by decide) g1 rfl rfl rfl ⟨(Nat.le_of_ble_eq_true rfl), (Nat.le_of_ble_eq_true rfl)⟩ (Nat.le_of_ble_eq_true rfl) ⟨(Nat.le_of_ble_eq_true rfl), (Nat.le_of_ble_eq_true rfl)⟩ dL_exchange_5 rfl (Nat.le_of_ble_eq_true rfl) (Nat.le_of_ble_eq_true rfl) rfl ?_
    refine r_i2l (q := 9) C dL_exchange_8 rfl ?_
    refine r_last (q := 10) C dL_exchange_9 ⟨g2, g3⟩ rfl ?_
    refine r_goto (t := 21) C dL_exchange_10 (by decide) ?_
    refine r_iconst (q := 22) (v := 0) C dL_exchange_21 (by decide) rfl ?_
    exact w_iret C F (Nat.le_of_ble_eq_true rfl) (Nat.le_of_ble_eq_true rfl) dL_exchange_22
  · rename_i e S1 h1
    by_cases e0 : e = "java/util/NoSuchElementException"
    · subst e0
      replace hf := m_if1 hf rfl
      obtain ⟨rfl, rfl⟩ := m_so2 hf
      refine x_thV C (c_X8_exchange hl h1) rfl w_776 w_777 w_778 w_2 w_779 hd_X8_exchange rfl (by decide) g1 rfl rfl rfl ⟨(Nat.le_of_ble_eq_true rfl), (Nat.le_of_ble_eq_true rfl)⟩ (Nat.le_of_ble_eq_true rfl) ⟨(Nat.le_of_ble_eq_true rfl), (Nat.le_of_ble_eq_true rfl)⟩ dL_exchange_5 rfl rfl [(0, 10, 13, 53), (0, 10, 17, 25)] T ((tableOf [(0, 10, 13, 53), (0, 10, 17, 25)]).take 0) ((tableOf [(0, 10, 13, 53), (0, 10, 17, 25)]).drop 1) ((tableOf [(0, 10, 13, 53), (0, 10, 17, 25)])[0]) rfl (fun z hz => nomatch hz) (by decide) (by decide) w_621 (by decide +kernel) (hpc := 13) rfl (fun q9 => ?_)
      refine r_astore (q := 15) (L' := [(4, .ref q9), (0, .ref a0), (1, .int p1), (2, .int p2), (3, .ref o9)]) C dL_exchange_13 rfl (by decide) rfl ?_
      refine r_iconst (q := 16) (v := 1) C dL_exchange_15 (by decide) rfl ?_
      exact w_iret C F (Nat.le_of_ble_eq_true rfl) (Nat.le_of_ble_eq_true rfl) dL_exchange_16
    · skip
      by_cases e1 : e = "java/lang/IllegalArgumentException"
      · subst e1
        replace hf := m_if0 hf (by decide); replace hf := m_if1 hf rfl
        obtain ⟨rfl, rfl⟩ := m_so2 hf
        refine x_thV C (c_X8_exchange hl h1) rfl w_776 w_777 w_778 w_2 w_779 hd_X8_exchange rfl (by decide) g1 rfl rfl rfl ⟨(Nat.le_of_ble_eq_true rfl), (Nat.le_of_ble_eq_true rfl)⟩ (Nat.le_of_ble_eq_true rfl) ⟨(Nat.le_of_ble_eq_true rfl), (Nat.le_of_ble_eq_true rfl)⟩ dL_exchange_5 rfl rfl [(0, 10, 13, 53), (0, 10, 17, 25)] T ((tableOf [(0, 10, 13, 53), (0, 10, 17, 25)]).take 1) ((tableOf [(0, 10, 13, 53), (0, 10, 17, 25)]).drop 2) ((tableOf [(0, 10, 13, 53), (0, 10, 17, 25)])[1]) rfl (by
          intro z hz
          simp only [tableOf, List.map, List.take, List.mem_cons, List.not_mem_nil, or_false] at hz
          rcases hz with rfl
          · exact Or.inr ⟨by decide, "java/util/NoSuchElementException", w_621, by decide +kernel⟩) (by decide) (by decide) w_301 (by decide +kernel) (hpc := 17) rfl (fun q9 => ?_)
        refine r_astore (q := 19) (L' := [(4, .ref q9), (0, .ref a0), (1, .int p1), (2, .int p2), (3, .ref o9)]) C dL_exchange_17 rfl (by decide) rfl ?_
        refine r_iconst (q := 20) (v := 2) C dL_exchange_19 (by decide) rfl ?_
        exact w_iret C F (Nat.le_of_ble_eq_true rfl) (Nat.le_of_ble_eq_true rfl) dL_exchange_20
      · skip
        replace hf := m_if0 hf e0; replace hf := m_if0 hf e1; cases hf
  · cases hf
def f_L_humidityIn (Z : m_Z) (S : m_S) (a0 : Nat) (p1 : Int32) (p2 : Int32) (o9 : Nat) : Option (Int32 × m_S) := m_gd (m_ok Z a0 8) (match f_X8_humidityIn Z S a0 p1 p2 with
  | some (.ok v, S1) => m_gd (m_ok Z o9 12) (m_gd (m_in 0 (Z.2.2 o9)) (some (0, m_pJ S1 o9 (0 : Int32).toNatClampNeg (v.toInt64))))
  | some (.error e, S1) => (if e = "java/lang/IndexOutOfBoundsException" then some (1, S1) else (if e = "java/lang/IllegalArgumentException" then some (2, S1) else none))
  | none => none)
abbrev rm_L_humidityIn : Room := { frames := 8, cells := 2, slots := 12, locals := 140 }
theorem hd_L_humidityIn : yL_humidityIn.cls ≠ "java/lang/invoke/MethodHandle" ∧ yL_humidityIn.cls ≠ "java/lang/invoke/VarHandle" ∧ (parseMethodDescriptor yL_humidityIn.desc).map (fun d => d.parameters.length) = some 4 := by decide +kernel
set_option maxHeartbeats 4000000 in
set_option maxRecDepth 100000 in
theorem c_L_humidityIn {l : Launch} (hl : l.stackTraces = false) {Z : m_Z} {S S9 : m_S} {a0 : Nat} {p1 : Int32} {p2 : Int32} {o9 : Nat} {r9 : Int32} (hf : f_L_humidityIn Z S a0 p1 p2 o9 = some (r9, S9)) : m_Cx l yL_humidityIn (.codeWith yL_humidityIn cL_humidityIn 5 (some .int) [(0, 10, 13, 19), (0, 10, 17, 25)] :: m_ws) rm_L_humidityIn 2 12 (fun f => [.ref a0, .int p1, .int p2, .ref o9]) Z S (.ok (some (.int r9))) S9 := by
  unfold f_L_humidityIn at hf
  refine m_entW hl (by decide) (fun _ => Nat.le_of_ble_eq_true rfl) (fun x C F T => ?_)
  have C : m_H x l RL cL_humidityIn 5 rm_L_humidityIn := C
  show m_G x Z S 5 0 0 0 [(0, .ref a0), (1, .int p1), (2, .int p2), (3, .ref o9)] []
  obtain ⟨g1, hf⟩ := m_gd_of hf
  refine r_aload_n (q := 1) C 3 dL_humidityIn_0 rfl rfl ?_
  refine r_iconst (q := 2) (v := 0) C dL_humidityIn_1 (by decide) rfl ?_
  refine r_aload_n (q := 3) C 0 dL_humidityIn_2 rfl rfl ?_
  refine r_iload_n (q := 4) C 1 dL_humidityIn_3 rfl rfl ?_
  refine r_iload_n (q := 5) C 2 dL_humidityIn_4 rfl rfl ?_
  split at hf
  · rename_i v S1 h1
    obtain ⟨g2, hf⟩ := m_gd_of hf
    obtain ⟨g3, hf⟩ := m_gd_of hf
    obtain ⟨rfl, rfl⟩ := m_so2 hf
    refine x_okV (mcQ := 2) (msQ := 12) (retQ := none) (q := 8) (st1 := [.int v, .int 0, .ref o9]) C (c_X8_humidityIn hl h1) rfl w_845 w_846 w_847 w_2 w_848 hd_X8_humidityIn rfl (by decide) g1 rfl rfl rfl ⟨(Nat.le_of_ble_eq_true rfl), (Nat.le_of_ble_eq_true rfl)⟩ (Nat.le_of_ble_eq_true rfl) ⟨(Nat.le_of_ble_eq_true rfl), (Nat.le_of_ble_eq_true rfl)⟩ dL_humidityIn_5 rfl (Nat.le_of_ble_eq_true rfl) (Nat.le_of_ble_eq_true rfl) rfl ?_
    refine r_i2l (q := 9) C dL_humidityIn_8 rfl ?_
    refine r_last (q := 10) C dL_humidityIn_9 ⟨g2, g3⟩ rfl ?_
    refine r_goto (t := 21) C dL_humidityIn_10 (by decide) ?_
    refine r_iconst (q := 22) (v := 0) C dL_humidityIn_21 (by decide) rfl ?_
    exact w_iret C F (Nat.le_of_ble_eq_true rfl) (Nat.le_of_ble_eq_true rfl) dL_humidityIn_22
  · rename_i e S1 h1
    by_cases e0 : e = "java/lang/IndexOutOfBoundsException"
    · subst e0
      replace hf := m_if1 hf rfl
      obtain ⟨rfl, rfl⟩ := m_so2 hf
      refine x_thV C (c_X8_humidityIn hl h1) rfl w_845 w_846 w_847 w_2 w_848 hd_X8_humidityIn rfl (by decide) g1 rfl rfl rfl ⟨(Nat.le_of_ble_eq_true rfl), (Nat.le_of_ble_eq_true rfl)⟩ (Nat.le_of_ble_eq_true rfl) ⟨(Nat.le_of_ble_eq_true rfl), (Nat.le_of_ble_eq_true rfl)⟩ dL_humidityIn_5 rfl rfl [(0, 10, 13, 19), (0, 10, 17, 25)] T ((tableOf [(0, 10, 13, 19), (0, 10, 17, 25)]).take 0) ((tableOf [(0, 10, 13, 19), (0, 10, 17, 25)]).drop 1) ((tableOf [(0, 10, 13, 19), (0, 10, 17, 25)])[0]) rfl (fun z hz => nomatch hz) (by decide) (by decide) w_280 (by decide +kernel) (hpc := 13) rfl (fun q9 => ?_)
      refine r_astore (q := 15) (L' := [(4, .ref q9), (0, .ref a0), (1, .int p1), (2, .int p2), (3, .ref o9)]) C dL_humidityIn_13 rfl (by decide) rfl ?_
      refine r_iconst (q := 16) (v := 1) C dL_humidityIn_15 (by decide) rfl ?_
      exact w_iret C F (Nat.le_of_ble_eq_true rfl) (Nat.le_of_ble_eq_true rfl) dL_humidityIn_16
    · skip
      by_cases e1 : e = "java/lang/IllegalArgumentException"
      · subst e1
        replace hf := m_if0 hf (by decide); replace hf := m_if1 hf rfl
        obtain ⟨rfl, rfl⟩ := m_so2 hf
        refine x_thV C (c_X8_humidityIn hl h1) rfl w_845 w_846 w_847 w_2 w_848 hd_X8_humidityIn rfl (by decide) g1 rfl rfl rfl ⟨(Nat.le_of_ble_eq_true rfl), (Nat.le_of_ble_eq_true rfl)⟩ (Nat.le_of_ble_eq_true rfl) ⟨(Nat.le_of_ble_eq_true rfl), (Nat.le_of_ble_eq_true rfl)⟩ dL_humidityIn_5 rfl rfl [(0, 10, 13, 19), (0, 10, 17, 25)] T ((tableOf [(0, 10, 13, 19), (0, 10, 17, 25)]).take 1) ((tableOf [(0, 10, 13, 19), (0, 10, 17, 25)]).drop 2) ((tableOf [(0, 10, 13, 19), (0, 10, 17, 25)])[1]) rfl (by
          intro z hz
          simp only [tableOf, List.map, List.take, List.mem_cons, List.not_mem_nil, or_false] at hz
          rcases hz with rfl
          · exact Or.inr ⟨by decide, "java/lang/IndexOutOfBoundsException", w_280, by decide +kernel⟩) (by decide) (by decide) w_301 (by decide +kernel) (hpc := 17) rfl (fun q9 => ?_)
        refine r_astore (q := 19) (L' := [(4, .ref q9), (0, .ref a0), (1, .int p1), (2, .int p2), (3, .ref o9)]) C dL_humidityIn_17 rfl (by decide) rfl ?_
        refine r_iconst (q := 20) (v := 2) C dL_humidityIn_19 (by decide) rfl ?_
        exact w_iret C F (Nat.le_of_ble_eq_true rfl) (Nat.le_of_ble_eq_true rfl) dL_humidityIn_20
      · skip
        replace hf := m_if0 hf e0; replace hf := m_if0 hf e1; cases hf
  · cases hf
def f_L_load (Z : m_Z) (S : m_S) (a0 : Nat) (o9 : Nat) : Option (Int32 × m_S) := m_gd (m_ok Z a0 8) (match f_X8_load Z S a0 with
  | some (.ok v, S1) => m_gd (m_ok Z o9 12) (m_gd (m_in 0 (Z.2.2 o9)) (some (0, m_pJ S1 o9 (0 : Int32).toNatClampNeg (v.toInt64))))
  | some (.error e, S1) => (if e = "java/lang/IllegalArgumentException" then some (1, S1) else none)
  | none => none)
abbrev rm_L_load : Room := { frames := 12, cells := 741, slots := 4446, locals := 254 }
theorem hd_L_load : yL_load.cls ≠ "java/lang/invoke/MethodHandle" ∧ yL_load.cls ≠ "java/lang/invoke/VarHandle" ∧ (parseMethodDescriptor yL_load.desc).map (fun d => d.parameters.length) = some 2 := by decide +kernel
set_option maxHeartbeats 4000000 in
set_option maxRecDepth 100000 in
theorem c_L_load {l : Launch} (hl : l.stackTraces = false) {Z : m_Z} {S S9 : m_S} {a0 : Nat} {o9 : Nat} {r9 : Int32} (hf : f_L_load Z S a0 o9 = some (r9, S9)) : m_Cx l yL_load (.codeWith yL_load cL_load 3 (some .int) [(0, 8, 11, 25)] :: m_ws) rm_L_load 741 4446 (fun f => [.ref a0, .ref o9]) Z S (.ok (some (.int r9))) S9 := by
  unfold f_L_load at hf
  refine m_entW hl (by decide) (fun _ => Nat.le_of_ble_eq_true rfl) (fun x C F T => ?_)
  have C : m_H x l RL cL_load 3 rm_L_load := C
  show m_G x Z S 3 0 0 0 [(0, .ref a0), (1, .ref o9)] []
  obtain ⟨g1, hf⟩ := m_gd_of hf
  refine r_aload_n (q := 1) C 1 dL_load_0 rfl rfl ?_
  refine r_iconst (q := 2) (v := 0) C dL_load_1 (by decide) rfl ?_
  refine r_aload_n (q := 3) C 0 dL_load_2 rfl rfl ?_
  split at hf
  · rename_i v S1 h1
    obtain ⟨g2, hf⟩ := m_gd_of hf
    obtain ⟨g3, hf⟩ := m_gd_of hf
    obtain ⟨rfl, rfl⟩ := m_so2 hf
    refine x_okV (mcQ := 741) (msQ := 4446) (retQ := none) (q := 6) (st1 := [.int v, .int 0, .ref o9]) C (c_X8_load hl h1) rfl w_302 w_303 w_304 w_2 w_305 hd_X8_load rfl (by decide) g1 rfl rfl rfl ⟨(Nat.le_of_ble_eq_true rfl), (Nat.le_of_ble_eq_true rfl)⟩ (Nat.le_of_ble_eq_true rfl) ⟨(Nat.le_of_ble_eq_true rfl), (Nat.le_of_ble_eq_true rfl)⟩ dL_load_3 rfl (Nat.le_of_ble_eq_true rfl) (Nat.le_of_ble_eq_true rfl) rfl ?_
    refine r_i2l (q := 7) C dL_load_6 rfl ?_
    refine r_last (q := 8) C dL_load_7 ⟨g2, g3⟩ rfl ?_
    refine r_goto (t := 14) C dL_load_8 (by decide) ?_
    refine r_iconst (q := 15) (v := 0) C dL_load_14 (by decide) rfl ?_
    exact w_iret C F (Nat.le_of_ble_eq_true rfl) (Nat.le_of_ble_eq_true rfl) dL_load_15
  · rename_i e S1 h1
    by_cases e0 : e = "java/lang/IllegalArgumentException"
    · subst e0
      replace hf := m_if1 hf rfl
      obtain ⟨rfl, rfl⟩ := m_so2 hf
      refine x_thV C (c_X8_load hl h1) rfl w_302 w_303 w_304 w_2 w_305 hd_X8_load rfl (by decide) g1 rfl rfl rfl ⟨(Nat.le_of_ble_eq_true rfl), (Nat.le_of_ble_eq_true rfl)⟩ (Nat.le_of_ble_eq_true rfl) ⟨(Nat.le_of_ble_eq_true rfl), (Nat.le_of_ble_eq_true rfl)⟩ dL_load_3 rfl rfl [(0, 8, 11, 25)] T ((tableOf [(0, 8, 11, 25)]).take 0) ((tableOf [(0, 8, 11, 25)]).drop 1) ((tableOf [(0, 8, 11, 25)])[0]) rfl (fun z hz => nomatch hz) (by decide) (by decide) w_301 (by decide +kernel) (hpc := 11) rfl (fun q9 => ?_)
      refine r_astore_n (q := 12) (L' := [(2, .ref q9), (0, .ref a0), (1, .ref o9)]) C dL_load_11 rfl rfl (by decide) rfl ?_
      refine r_iconst (q := 13) (v := 1) C dL_load_12 (by decide) rfl ?_
      exact w_iret C F (Nat.le_of_ble_eq_true rfl) (Nat.le_of_ble_eq_true rfl) dL_load_13
    · skip
      replace hf := m_if0 hf e0; cases hf
  · cases hf
def f_L_massFor (Z : m_Z) (S : m_S) (a0 : Nat) (p1 : Int32) (p2 : Int32) (p3 : Int32) (p4 : Int32) (o9 : Nat) : Option (Int32 × m_S) := m_gd (m_ok Z a0 8) (match f_X8_massFor Z S a0 p1 p2 p3 p4 with
  | some (.ok v, S1) => m_gd (m_ok Z o9 12) (m_gd (m_in 0 (Z.2.2 o9)) (some (0, m_pJ S1 o9 (0 : Int32).toNatClampNeg (v.toInt64))))
  | some (.error e, S1) => (if e = "java/lang/IndexOutOfBoundsException" then some (1, S1) else (if e = "java/lang/IllegalArgumentException" then some (2, S1) else (if e = "java/util/NoSuchElementException" then some (3, S1) else none)))
  | none => none)
abbrev rm_L_massFor : Room := { frames := 8, cells := 5, slots := 30, locals := 167 }
theorem hd_L_massFor : yL_massFor.cls ≠ "java/lang/invoke/MethodHandle" ∧ yL_massFor.cls ≠ "java/lang/invoke/VarHandle" ∧ (parseMethodDescriptor yL_massFor.desc).map (fun d => d.parameters.length) = some 6 := by decide +kernel
set_option maxHeartbeats 4000000 in
set_option maxRecDepth 100000 in
theorem c_L_massFor {l : Launch} (hl : l.stackTraces = false) {Z : m_Z} {S S9 : m_S} {a0 : Nat} {p1 : Int32} {p2 : Int32} {p3 : Int32} {p4 : Int32} {o9 : Nat} {r9 : Int32} (hf : f_L_massFor Z S a0 p1 p2 p3 p4 o9 = some (r9, S9)) : m_Cx l yL_massFor (.codeWith yL_massFor cL_massFor 7 (some .int) [(0, 14, 17, 19), (0, 14, 21, 25), (0, 14, 25, 53)] :: m_ws) rm_L_massFor 5 30 (fun f => [.ref a0, .int p1, .int p2, .int p3, .int p4, .ref o9]) Z S (.ok (some (.int r9))) S9 := by
  unfold f_L_massFor at hf
  refine m_entW hl (by decide) (fun _ => Nat.le_of_ble_eq_true rfl) (fun x C F T => ?_)
  have C : m_H x l RL cL_massFor 7 rm_L_massFor := C
  show m_G x Z S 7 0 0 0 [(0, .ref a0), (1, .int p1), (2, .int p2), (3, .int p3), (4, .int p4), (5, .ref o9)] []
  obtain ⟨g1, hf⟩ := m_gd_of hf
  refine r_aload (q := 2) C 5 dL_massFor_0 rfl rfl ?_
  refine r_iconst (q := 3) (v := 0) C dL_massFor_2 (by decide) rfl ?_
  refine r_aload_n (q := 4) C 0 dL_massFor_3 rfl rfl ?_
  refine r_iload_n (q := 5) C 1 dL_massFor_4 rfl rfl ?_
  refine r_iload_n (q := 6) C 2 dL_massFor_5 rfl rfl ?_
  refine r_iload_n (q := 7) C 3 dL_massFor_6 rfl rfl ?_
  refine r_iload (q := 9) C 4 dL_massFor_7 rfl rfl ?_
  split at hf
  · rename_i v S1 h1
    obtain ⟨g2, hf⟩ := m_gd_of hf
    obtain ⟨g3, hf⟩ := m_gd_of hf
    obtain ⟨rfl, rfl⟩ := m_so2 hf
    refine x_okV (mcQ := 5) (msQ := 30) (retQ := none) (q := 12) (st1 := [.int v, .int 0, .ref o9]) C (c_X8_massFor hl h1) rfl w_879 w_880 w_881 w_2 w_882 hd_X8_massFor rfl (by decide) g1 rfl rfl rfl ⟨(Nat.le_of_ble_eq_true rfl), (Nat.le_of_ble_eq_true rfl)⟩ (Nat.le_of_ble_eq_true rfl) ⟨(Nat.le_of_ble_eq_true rfl), (Nat.le_of_ble_eq_true rfl)⟩ dL_massFor_9 rfl (Nat.le_of_ble_eq_true rfl) (Nat.le_of_ble_eq_true rfl) rfl ?_
    refine r_i2l (q := 13) C dL_massFor_12 rfl ?_
    refine r_last (q := 14) C dL_massFor_13 ⟨g2, g3⟩ rfl ?_
    refine r_goto (t := 29) C dL_massFor_14 (by decide) ?_
    refine r_iconst (q := 30) (v := 0) C dL_massFor_29 (by decide) rfl ?_
    exact w_iret C F (Nat.le_of_ble_eq_true rfl) (Nat.le_of_ble_eq_true rfl) dL_massFor_30
  · rename_i e S1 h1
    by_cases e0 : e = "java/lang/IndexOutOfBoundsException"
    · subst e0
      replace hf := m_if1 hf rfl
      obtain ⟨rfl, rfl⟩ := m_so2 hf
      refine x_thV C (c_X8_massFor hl h1) rfl w_879 w_880 w_881 w_2 w_882 hd_X8_massFor rfl (by decide) g1 rfl rfl rfl ⟨(Nat.le_of_ble_eq_true rfl), (Nat.le_of_ble_eq_true rfl)⟩ (Nat.le_of_ble_eq_true rfl) ⟨(Nat.le_of_ble_eq_true rfl), (Nat.le_of_ble_eq_true rfl)⟩ dL_massFor_9 rfl rfl [(0, 14, 17, 19), (0, 14, 21, 25), (0, 14, 25, 53)] T ((tableOf [(0, 14, 17, 19), (0, 14, 21, 25), (0, 14, 25, 53)]).take 0) ((tableOf [(0, 14, 17, 19), (0, 14, 21, 25), (0, 14, 25, 53)]).drop 1) ((tableOf [(0, 14, 17, 19), (0, 14, 21, 25), (0, 14, 25, 53)])[0]) rfl (fun z hz => nomatch hz) (by decide) (by decide) w_280 (by decide +kernel) (hpc := 17) rfl (fun q9 => ?_)
      refine r_astore (q := 19) (L' := [(6, .ref q9), (0, .ref a0), (1, .int p1), (2, .int p2), (3, .int p3), (4, .int p4), (5, .ref o9)]) C dL_massFor_17 rfl (by decide) rfl ?_
      refine r_iconst (q := 20) (v := 1) C dL_massFor_19 (by decide) rfl ?_
      exact w_iret C F (Nat.le_of_ble_eq_true rfl) (Nat.le_of_ble_eq_true rfl) dL_massFor_20
    · skip
      by_cases e1 : e = "java/lang/IllegalArgumentException"
      · subst e1
        replace hf := m_if0 hf (by decide); replace hf := m_if1 hf rfl
        obtain ⟨rfl, rfl⟩ := m_so2 hf
        refine x_thV C (c_X8_massFor hl h1) rfl w_879 w_880 w_881 w_2 w_882 hd_X8_massFor rfl (by decide) g1 rfl rfl rfl ⟨(Nat.le_of_ble_eq_true rfl), (Nat.le_of_ble_eq_true rfl)⟩ (Nat.le_of_ble_eq_true rfl) ⟨(Nat.le_of_ble_eq_true rfl), (Nat.le_of_ble_eq_true rfl)⟩ dL_massFor_9 rfl rfl [(0, 14, 17, 19), (0, 14, 21, 25), (0, 14, 25, 53)] T ((tableOf [(0, 14, 17, 19), (0, 14, 21, 25), (0, 14, 25, 53)]).take 1) ((tableOf [(0, 14, 17, 19), (0, 14, 21, 25), (0, 14, 25, 53)]).drop 2) ((tableOf [(0, 14, 17, 19), (0, 14, 21, 25), (0, 14, 25, 53)])[1]) rfl (by
          intro z hz
          simp only [tableOf, List.map, List.take, List.mem_cons, List.not_mem_nil, or_false] at hz
          rcases hz with rfl
          · exact Or.inr ⟨by decide, "java/lang/IndexOutOfBoundsException", w_280, by decide +kernel⟩) (by decide) (by decide) w_301 (by decide +kernel) (hpc := 21) rfl (fun q9 => ?_)
        refine r_astore (q := 23) (L' := [(6, .ref q9), (0, .ref a0), (1, .int p1), (2, .int p2), (3, .int p3), (4, .int p4), (5, .ref o9)]) C dL_massFor_21 rfl (by decide) rfl ?_
        refine r_iconst (q := 24) (v := 2) C dL_massFor_23 (by decide) rfl ?_
        exact w_iret C F (Nat.le_of_ble_eq_true rfl) (Nat.le_of_ble_eq_true rfl) dL_massFor_24
      · skip
        by_cases e2 : e = "java/util/NoSuchElementException"
        · subst e2
          replace hf := m_if0 hf (by decide); replace hf := m_if0 hf (by decide); replace hf := m_if1 hf rfl
          obtain ⟨rfl, rfl⟩ := m_so2 hf
          refine x_thV C (c_X8_massFor hl h1) rfl w_879 w_880 w_881 w_2 w_882 hd_X8_massFor rfl (by decide) g1 rfl rfl rfl ⟨(Nat.le_of_ble_eq_true rfl), (Nat.le_of_ble_eq_true rfl)⟩ (Nat.le_of_ble_eq_true rfl) ⟨(Nat.le_of_ble_eq_true rfl), (Nat.le_of_ble_eq_true rfl)⟩ dL_massFor_9 rfl rfl [(0, 14, 17, 19), (0, 14, 21, 25), (0, 14, 25, 53)] T ((tableOf [(0, 14, 17, 19), (0, 14, 21, 25), (0, 14, 25, 53)]).take 2) ((tableOf [(0, 14, 17, 19), (0, 14, 21, 25), (0, 14, 25, 53)]).drop 3) ((tableOf [(0, 14, 17, 19), (0, 14, 21, 25), (0, 14, 25, 53)])[2]) rfl (by
            intro z hz
            simp only [tableOf, List.map, List.take, List.mem_cons, List.not_mem_nil, or_false] at hz
            rcases hz with rfl | rfl
            · exact Or.inr ⟨by decide, "java/lang/IndexOutOfBoundsException", w_280, by decide +kernel⟩
            · exact Or.inr ⟨by decide, "java/lang/IllegalArgumentException", w_301, by decide +kernel⟩) (by decide) (by decide) w_621 (by decide +kernel) (hpc := 25) rfl (fun q9 => ?_)
          refine r_astore (q := 27) (L' := [(6, .ref q9), (0, .ref a0), (1, .int p1), (2, .int p2), (3, .int p3), (4, .int p4), (5, .ref o9)]) C dL_massFor_25 rfl (by decide) rfl ?_
          refine r_iconst (q := 28) (v := 3) C dL_massFor_27 (by decide) rfl ?_
          exact w_iret C F (Nat.le_of_ble_eq_true rfl) (Nat.le_of_ble_eq_true rfl) dL_massFor_28
        · skip
          replace hf := m_if0 hf e0; replace hf := m_if0 hf e1; replace hf := m_if0 hf e2; cases hf
  · cases hf
def f_L_mean (Z : m_Z) (S : m_S) (a0 : Nat) (p1 : Int32) (o9 : Nat) : Option (Int32 × m_S) := m_gd (m_ok Z a0 8) (match f_X8_mean Z S a0 p1 with
  | some (.ok v) => m_gd (m_ok Z o9 19) (m_gd (m_in 0 (Z.2.2 o9)) (some (0, m_pJ S o9 (0 : Int32).toNatClampNeg (v.toInt64))))
  | some (.error e) => (if e = "java/lang/IndexOutOfBoundsException" then some (1, S) else (if e = "java/util/NoSuchElementException" then some (2, S) else none))
  | none => none)
abbrev rm_L_mean : Room := { frames := 8, cells := 2, slots := 12, locals := 125 }
theorem hd_L_mean : yL_mean.cls ≠ "java/lang/invoke/MethodHandle" ∧ yL_mean.cls ≠ "java/lang/invoke/VarHandle" ∧ (parseMethodDescriptor yL_mean.desc).map (fun d => d.parameters.length) = some 3 := by decide +kernel
set_option maxHeartbeats 4000000 in
set_option maxRecDepth 100000 in
theorem c_L_mean {l : Launch} (hl : l.stackTraces = false) {Z : m_Z} {S S9 : m_S} {a0 : Nat} {p1 : Int32} {o9 : Nat} {r9 : Int32} (hf : f_L_mean Z S a0 p1 o9 = some (r9, S9)) : m_Cx l yL_mean (.codeWith yL_mean cL_mean 4 (some .int) [(0, 8, 11, 19), (0, 8, 14, 53)] :: m_ws) rm_L_mean 2 12 (fun f => [.ref a0, .int p1, .ref o9]) Z S (.ok (some (.int r9))) S9 := by
  unfold f_L_mean at hf
  refine m_entW hl (by decide) (fun _ => Nat.le_of_ble_eq_true rfl) (fun x C F T => ?_)
  have C : m_H x l RL cL_mean 4 rm_L_mean := C
  show m_G x Z S 4 0 0 0 [(0, .ref a0), (1, .int p1), (2, .ref o9)] []
  obtain ⟨g1, hf⟩ := m_gd_of hf
  refine r_aload_n (q := 1) C 2 dL_mean_0 rfl rfl ?_
  refine r_iconst (q := 2) (v := 0) C dL_mean_1 (by decide) rfl ?_
  refine r_aload_n (q := 3) C 0 dL_mean_2 rfl rfl ?_
  refine r_iload_n (q := 4) C 1 dL_mean_3 rfl rfl ?_
  split at hf
  · rename_i v h1
    obtain ⟨g2, hf⟩ := m_gd_of hf
    obtain ⟨g3, hf⟩ := m_gd_of hf
    obtain ⟨rfl, rfl⟩ := m_so2 hf
    refine x_okV (mcQ := 2) (msQ := 12) (retQ := none) (q := 7) (st1 := [.double v, .int 0, .ref o9]) C (c_X8_mean hl h1) rfl w_660 w_661 w_662 w_2 w_663 hd_X8_mean rfl (by decide) g1 rfl rfl rfl ⟨(Nat.le_of_ble_eq_true rfl), (Nat.le_of_ble_eq_true rfl)⟩ (Nat.le_of_ble_eq_true rfl) ⟨(Nat.le_of_ble_eq_true rfl), (Nat.le_of_ble_eq_true rfl)⟩ dL_mean_4 rfl (Nat.le_of_ble_eq_true rfl) (Nat.le_of_ble_eq_true rfl) rfl ?_
    refine r_dast (q := 8) C dL_mean_7 ⟨g2, g3⟩ rfl ?_
    refine r_goto (t := 17) C dL_mean_8 (by decide) ?_
    refine r_iconst (q := 18) (v := 0) C dL_mean_17 (by decide) rfl ?_
    exact w_iret C F (Nat.le_of_ble_eq_true rfl) (Nat.le_of_ble_eq_true rfl) dL_mean_18
  · rename_i e h1
    by_cases e0 : e = "java/lang/IndexOutOfBoundsException"
    · subst e0
      replace hf := m_if1 hf rfl
      obtain ⟨rfl, rfl⟩ := m_so2 hf
      refine x_thV C (c_X8_mean hl h1) rfl w_660 w_661 w_662 w_2 w_663 hd_X8_mean rfl (by decide) g1 rfl rfl rfl ⟨(Nat.le_of_ble_eq_true rfl), (Nat.le_of_ble_eq_true rfl)⟩ (Nat.le_of_ble_eq_true rfl) ⟨(Nat.le_of_ble_eq_true rfl), (Nat.le_of_ble_eq_true rfl)⟩ dL_mean_4 rfl rfl [(0, 8, 11, 19), (0, 8, 14, 53)] T ((tableOf [(0, 8, 11, 19), (0, 8, 14, 53)]).take 0) ((tableOf [(0, 8, 11, 19), (0, 8, 14, 53)]).drop 1) ((tableOf [(0, 8, 11, 19), (0, 8, 14, 53)])[0]) rfl (fun z hz => nomatch hz) (by decide) (by decide) w_280 (by decide +kernel) (hpc := 11) rfl (fun q9 => ?_)
      refine r_astore_n (q := 12) (L' := [(3, .ref q9), (0, .ref a0), (1, .int p1), (2, .ref o9)]) C dL_mean_11 rfl rfl (by decide) rfl ?_
      refine r_iconst (q := 13) (v := 1) C dL_mean_12 (by decide) rfl ?_
      exact w_iret C F (Nat.le_of_ble_eq_true rfl) (Nat.le_of_ble_eq_true rfl) dL_mean_13
    · skip
      by_cases e1 : e = "java/util/NoSuchElementException"
      · subst e1
        replace hf := m_if0 hf (by decide); replace hf := m_if1 hf rfl
        obtain ⟨rfl, rfl⟩ := m_so2 hf
        refine x_thV C (c_X8_mean hl h1) rfl w_660 w_661 w_662 w_2 w_663 hd_X8_mean rfl (by decide) g1 rfl rfl rfl ⟨(Nat.le_of_ble_eq_true rfl), (Nat.le_of_ble_eq_true rfl)⟩ (Nat.le_of_ble_eq_true rfl) ⟨(Nat.le_of_ble_eq_true rfl), (Nat.le_of_ble_eq_true rfl)⟩ dL_mean_4 rfl rfl [(0, 8, 11, 19), (0, 8, 14, 53)] T ((tableOf [(0, 8, 11, 19), (0, 8, 14, 53)]).take 1) ((tableOf [(0, 8, 11, 19), (0, 8, 14, 53)]).drop 2) ((tableOf [(0, 8, 11, 19), (0, 8, 14, 53)])[1]) rfl (by
          intro z hz
          simp only [tableOf, List.map, List.take, List.mem_cons, List.not_mem_nil, or_false] at hz
          rcases hz with rfl
          · exact Or.inr ⟨by decide, "java/lang/IndexOutOfBoundsException", w_280, by decide +kernel⟩) (by decide) (by decide) w_621 (by decide +kernel) (hpc := 14) rfl (fun q9 => ?_)
        refine r_astore_n (q := 15) (L' := [(3, .ref q9), (0, .ref a0), (1, .int p1), (2, .ref o9)]) C dL_mean_14 rfl rfl (by decide) rfl ?_
        refine r_iconst (q := 16) (v := 2) C dL_mean_15 (by decide) rfl ?_
        exact w_iret C F (Nat.le_of_ble_eq_true rfl) (Nat.le_of_ble_eq_true rfl) dL_mean_16
      · skip
        replace hf := m_if0 hf e0; replace hf := m_if0 hf e1; cases hf
  · cases hf
def f_L_move (Z : m_Z) (S : m_S) (a0 : Nat) (p1 : Int32) (p2 : Int32) (o9 : Nat) : Option (Int32 × m_S) := m_gd (m_ok Z a0 8) (match f_X8_move Z S a0 p1 p2 with
  | some (.ok v, S1) => m_gd (m_ok Z o9 12) (m_gd (m_in 0 (Z.2.2 o9)) (some (0, m_pJ S1 o9 (0 : Int32).toNatClampNeg (v.toInt64))))
  | some (.error e, S1) => (if e = "java/util/NoSuchElementException" then some (1, S1) else (if e = "java/lang/IndexOutOfBoundsException" then some (2, S1) else (if e = "java/lang/IllegalStateException" then some (3, S1) else none)))
  | none => none)
abbrev rm_L_move : Room := { frames := 8, cells := 5, slots := 30, locals := 131 }
theorem hd_L_move : yL_move.cls ≠ "java/lang/invoke/MethodHandle" ∧ yL_move.cls ≠ "java/lang/invoke/VarHandle" ∧ (parseMethodDescriptor yL_move.desc).map (fun d => d.parameters.length) = some 4 := by decide +kernel
set_option maxHeartbeats 4000000 in
set_option maxRecDepth 100000 in
theorem c_L_move {l : Launch} (hl : l.stackTraces = false) {Z : m_Z} {S S9 : m_S} {a0 : Nat} {p1 : Int32} {p2 : Int32} {o9 : Nat} {r9 : Int32} (hf : f_L_move Z S a0 p1 p2 o9 = some (r9, S9)) : m_Cx l yL_move (.codeWith yL_move cL_move 5 (some .int) [(0, 10, 13, 53), (0, 10, 17, 19), (0, 10, 21, 13)] :: m_ws) rm_L_move 5 30 (fun f => [.ref a0, .int p1, .int p2, .ref o9]) Z S (.ok (some (.int r9))) S9 := by
  unfold f_L_move at hf
  refine m_entW hl (by decide) (fun _ => Nat.le_of_ble_eq_true rfl) (fun x C F T => ?_)
  have C : m_H x l RL cL_move 5 rm_L_move := C
  show m_G x Z S 5 0 0 0 [(0, .ref a0), (1, .int p1), (2, .int p2), (3, .ref o9)] []
  obtain ⟨g1, hf⟩ := m_gd_of hf
  refine r_aload_n (q := 1) C 3 dL_move_0 rfl rfl ?_
  refine r_iconst (q := 2) (v := 0) C dL_move_1 (by decide) rfl ?_
  refine r_aload_n (q := 3) C 0 dL_move_2 rfl rfl ?_
  refine r_iload_n (q := 4) C 1 dL_move_3 rfl rfl ?_
  refine r_iload_n (q := 5) C 2 dL_move_4 rfl rfl ?_
  split at hf
  · rename_i v S1 h1
    obtain ⟨g2, hf⟩ := m_gd_of hf
    obtain ⟨g3, hf⟩ := m_gd_of hf
    obtain ⟨rfl, rfl⟩ := m_so2 hf
    refine x_okV (mcQ := 5) (msQ := 30) (retQ := none) (q := 8) (st1 := [.int v, .int 0, .ref o9]) C (c_X8_move hl h1) rfl w_765 w_766 w_767 w_2 w_768 hd_X8_move rfl (by decide) g1 rfl rfl rfl ⟨(Nat.le_of_ble_eq_true rfl), (Nat.le_of_ble_eq_true rfl)⟩ (Nat.le_of_ble_eq_true rfl) ⟨(Nat.le_of_ble_eq_true rfl), (Nat.le_of_ble_eq_true rfl)⟩ dL_move_5 rfl (Nat.le_of_ble_eq_true rfl) (Nat.le_of_ble_eq_true rfl) rfl ?_
    refine r_i2l (q := 9) C dL_move_8 rfl ?_
    refine r_last (q := 10) C dL_move_9 ⟨g2, g3⟩ rfl ?_
    refine r_goto (t := 25) C dL_move_10 (by decide) ?_
    refine r_iconst (q := 26) (v := 0) C dL_move_25 (by decide) rfl ?_
    exact w_iret C F (Nat.le_of_ble_eq_true rfl) (Nat.le_of_ble_eq_true rfl) dL_move_26
  · rename_i e S1 h1
    by_cases e0 : e = "java/util/NoSuchElementException"
    · subst e0
      replace hf := m_if1 hf rfl
      obtain ⟨rfl, rfl⟩ := m_so2 hf
      refine x_thV C (c_X8_move hl h1) rfl w_765 w_766 w_767 w_2 w_768 hd_X8_move rfl (by decide) g1 rfl rfl rfl ⟨(Nat.le_of_ble_eq_true rfl), (Nat.le_of_ble_eq_true rfl)⟩ (Nat.le_of_ble_eq_true rfl) ⟨(Nat.le_of_ble_eq_true rfl), (Nat.le_of_ble_eq_true rfl)⟩ dL_move_5 rfl rfl [(0, 10, 13, 53), (0, 10, 17, 19), (0, 10, 21, 13)] T ((tableOf [(0, 10, 13, 53), (0, 10, 17, 19), (0, 10, 21, 13)]).take 0) ((tableOf [(0, 10, 13, 53), (0, 10, 17, 19), (0, 10, 21, 13)]).drop 1) ((tableOf [(0, 10, 13, 53), (0, 10, 17, 19), (0, 10, 21, 13)])[0]) rfl (fun z hz => nomatch hz) (by decide) (by decide) w_621 (by decide +kernel) (hpc := 13) rfl (fun q9 => ?_)
      refine r_astore (q := 15) (L' := [(4, .ref q9), (0, .ref a0), (1, .int p1), (2, .int p2), (3, .ref o9)]) C dL_move_13 rfl (by decide) rfl ?_
      refine r_iconst (q := 16) (v := 1) C dL_move_15 (by decide) rfl ?_
      exact w_iret C F (Nat.le_of_ble_eq_true rfl) (Nat.le_of_ble_eq_true rfl) dL_move_16
    · skip
      by_cases e1 : e = "java/lang/IndexOutOfBoundsException"
      · subst e1
        replace hf := m_if0 hf (by decide); replace hf := m_if1 hf rfl
        obtain ⟨rfl, rfl⟩ := m_so2 hf
        refine x_thV C (c_X8_move hl h1) rfl w_765 w_766 w_767 w_2 w_768 hd_X8_move rfl (by decide) g1 rfl rfl rfl ⟨(Nat.le_of_ble_eq_true rfl), (Nat.le_of_ble_eq_true rfl)⟩ (Nat.le_of_ble_eq_true rfl) ⟨(Nat.le_of_ble_eq_true rfl), (Nat.le_of_ble_eq_true rfl)⟩ dL_move_5 rfl rfl [(0, 10, 13, 53), (0, 10, 17, 19), (0, 10, 21, 13)] T ((tableOf [(0, 10, 13, 53), (0, 10, 17, 19), (0, 10, 21, 13)]).take 1) ((tableOf [(0, 10, 13, 53), (0, 10, 17, 19), (0, 10, 21, 13)]).drop 2) ((tableOf [(0, 10, 13, 53), (0, 10, 17, 19), (0, 10, 21, 13)])[1]) rfl (by
          intro z hz
          simp only [tableOf, List.map, List.take, List.mem_cons, List.not_mem_nil, or_false] at hz
          rcases hz with rfl
          · exact Or.inr ⟨by decide, "java/util/NoSuchElementException", w_621, by decide +kernel⟩) (by decide) (by decide) w_280 (by decide +kernel) (hpc := 17) rfl (fun q9 => ?_)
        refine r_astore (q := 19) (L' := [(4, .ref q9), (0, .ref a0), (1, .int p1), (2, .int p2), (3, .ref o9)]) C dL_move_17 rfl (by decide) rfl ?_
        refine r_iconst (q := 20) (v := 2) C dL_move_19 (by decide) rfl ?_
        exact w_iret C F (Nat.le_of_ble_eq_true rfl) (Nat.le_of_ble_eq_true rfl) dL_move_20
      · skip
        by_cases e2 : e = "java/lang/IllegalStateException"
        · subst e2
          replace hf := m_if0 hf (by decide); replace hf := m_if0 hf (by decide); replace hf := m_if1 hf rfl
          obtain ⟨rfl, rfl⟩ := m_so2 hf
          refine x_thV C (c_X8_move hl h1) rfl w_765 w_766 w_767 w_2 w_768 hd_X8_move rfl (by decide) g1 rfl rfl rfl ⟨(Nat.le_of_ble_eq_true rfl), (Nat.le_of_ble_eq_true rfl)⟩ (Nat.le_of_ble_eq_true rfl) ⟨(Nat.le_of_ble_eq_true rfl), (Nat.le_of_ble_eq_true rfl)⟩ dL_move_5 rfl rfl [(0, 10, 13, 53), (0, 10, 17, 19), (0, 10, 21, 13)] T ((tableOf [(0, 10, 13, 53), (0, 10, 17, 19), (0, 10, 21, 13)]).take 2) ((tableOf [(0, 10, 13, 53), (0, 10, 17, 19), (0, 10, 21, 13)]).drop 3) ((tableOf [(0, 10, 13, 53), (0, 10, 17, 19), (0, 10, 21, 13)])[2]) rfl (by
            intro z hz
            simp only [tableOf, List.map, List.take, List.mem_cons, List.not_mem_nil, or_false] at hz
            rcases hz with rfl | rfl
            · exact Or.inr ⟨by decide, "java/util/NoSuchElementException", w_621, by decide +kernel⟩
            · exact Or.inr ⟨by decide, "java/lang/IndexOutOfBoundsException", w_280, by decide +kernel⟩) (by decide) (by decide) w_221 (by decide +kernel) (hpc := 21) rfl (fun q9 => ?_)
          refine r_astore (q := 23) (L' := [(4, .ref q9), (0, .ref a0), (1, .int p1), (2, .int p2), (3, .ref o9)]) C dL_move_21 rfl (by decide) rfl ?_
          refine r_iconst (q := 24) (v := 3) C dL_move_23 (by decide) rfl ?_
          exact w_iret C F (Nat.le_of_ble_eq_true rfl) (Nat.le_of_ble_eq_true rfl) dL_move_24
        · skip
          replace hf := m_if0 hf e0; replace hf := m_if0 hf e1; replace hf := m_if0 hf e2; cases hf
  · cases hf
def f_L_open (Z : m_Z) (S : m_S) (a0 : Nat) (p1 : Int32) (o9 : Nat) : Option (Int32 × m_S) := m_gd (m_ok Z a0 8) (match f_X8_open Z S a0 p1 with
  | some (.ok v, S1) => m_gd (m_ok Z o9 12) (m_gd (m_in 0 (Z.2.2 o9)) (some (0, m_pJ S1 o9 (0 : Int32).toNatClampNeg (v.toInt64))))
  | some (.error e, S1) => (if e = "java/lang/IndexOutOfBoundsException" then some (1, S1) else none)
  | none => none)
abbrev rm_L_open : Room := { frames := 8, cells := 2, slots := 12, locals := 127 }
theorem hd_L_open : yL_open.cls ≠ "java/lang/invoke/MethodHandle" ∧ yL_open.cls ≠ "java/lang/invoke/VarHandle" ∧ (parseMethodDescriptor yL_open.desc).map (fun d => d.parameters.length) = some 3 := by decide +kernel
set_option maxHeartbeats 4000000 in
set_option maxRecDepth 100000 in
theorem c_L_open {l : Launch} (hl : l.stackTraces = false) {Z : m_Z} {S S9 : m_S} {a0 : Nat} {p1 : Int32} {o9 : Nat} {r9 : Int32} (hf : f_L_open Z S a0 p1 o9 = some (r9, S9)) : m_Cx l yL_open (.codeWith yL_open cL_open 4 (some .int) [(0, 9, 12, 19)] :: m_ws) rm_L_open 2 12 (fun f => [.ref a0, .int p1, .ref o9]) Z S (.ok (some (.int r9))) S9 := by
  unfold f_L_open at hf
  refine m_entW hl (by decide) (fun _ => Nat.le_of_ble_eq_true rfl) (fun x C F T => ?_)
  have C : m_H x l RL cL_open 4 rm_L_open := C
  show m_G x Z S 4 0 0 0 [(0, .ref a0), (1, .int p1), (2, .ref o9)] []
  obtain ⟨g1, hf⟩ := m_gd_of hf
  refine r_aload_n (q := 1) C 2 dL_open_0 rfl rfl ?_
  refine r_iconst (q := 2) (v := 0) C dL_open_1 (by decide) rfl ?_
  refine r_aload_n (q := 3) C 0 dL_open_2 rfl rfl ?_
  refine r_iload_n (q := 4) C 1 dL_open_3 rfl rfl ?_
  split at hf
  · rename_i v S1 h1
    obtain ⟨g2, hf⟩ := m_gd_of hf
    obtain ⟨g3, hf⟩ := m_gd_of hf
    obtain ⟨rfl, rfl⟩ := m_so2 hf
    refine x_okV (mcQ := 2) (msQ := 12) (retQ := none) (q := 7) (st1 := [.int v, .int 0, .ref o9]) C (c_X8_open hl h1) rfl w_691 w_692 w_693 w_2 w_694 hd_X8_open rfl (by decide) g1 rfl rfl rfl ⟨(Nat.le_of_ble_eq_true rfl), (Nat.le_of_ble_eq_true rfl)⟩ (Nat.le_of_ble_eq_true rfl) ⟨(Nat.le_of_ble_eq_true rfl), (Nat.le_of_ble_eq_true rfl)⟩ dL_open_4 rfl (Nat.le_of_ble_eq_true rfl) (Nat.le_of_ble_eq_true rfl) rfl ?_
    refine r_i2l (q := 8) C dL_open_7 rfl ?_
    refine r_last (q := 9) C dL_open_8 ⟨g2, g3⟩ rfl ?_
    refine r_goto (t := 15) C dL_open_9 (by decide) ?_
    refine r_iconst (q := 16) (v := 0) C dL_open_15 (by decide) rfl ?_
    exact w_iret C F (Nat.le_of_ble_eq_true rfl) (Nat.le_of_ble_eq_true rfl) dL_open_16
  · rename_i e S1 h1
    by_cases e0 : e = "java/lang/IndexOutOfBoundsException"
    · subst e0
      replace hf := m_if1 hf rfl
      obtain ⟨rfl, rfl⟩ := m_so2 hf
      refine x_thV C (c_X8_open hl h1) rfl w_691 w_692 w_693 w_2 w_694 hd_X8_open rfl (by decide) g1 rfl rfl rfl ⟨(Nat.le_of_ble_eq_true rfl), (Nat.le_of_ble_eq_true rfl)⟩ (Nat.le_of_ble_eq_true rfl) ⟨(Nat.le_of_ble_eq_true rfl), (Nat.le_of_ble_eq_true rfl)⟩ dL_open_4 rfl rfl [(0, 9, 12, 19)] T ((tableOf [(0, 9, 12, 19)]).take 0) ((tableOf [(0, 9, 12, 19)]).drop 1) ((tableOf [(0, 9, 12, 19)])[0]) rfl (fun z hz => nomatch hz) (by decide) (by decide) w_280 (by decide +kernel) (hpc := 12) rfl (fun q9 => ?_)
      refine r_astore_n (q := 13) (L' := [(3, .ref q9), (0, .ref a0), (1, .int p1), (2, .ref o9)]) C dL_open_12 rfl rfl (by decide) rfl ?_
      refine r_iconst (q := 14) (v := 1) C dL_open_13 (by decide) rfl ?_
      exact w_iret C F (Nat.le_of_ble_eq_true rfl) (Nat.le_of_ble_eq_true rfl) dL_open_14
    · skip
      replace hf := m_if0 hf e0; cases hf
  · cases hf
def f_L_recorded (Z : m_Z) (S : m_S) (a0 : Nat) (p1 : Int32) (p2 : Int32) (o9 : Nat) : Option (Int32 × m_S) := m_gd (m_ok Z a0 8) (match f_X8_recorded Z S a0 p1 p2 with
  | some (.ok v) => m_gd (m_ok Z o9 12) (m_gd (m_in 0 (Z.2.2 o9)) (some (0, m_pJ S o9 (0 : Int32).toNatClampNeg (v.toInt64))))
  | some (.error e) => (if e = "java/lang/IndexOutOfBoundsException" then some (1, S) else (if e = "java/lang/IllegalArgumentException" then some (2, S) else (if e = "java/util/NoSuchElementException" then some (3, S) else none)))
  | none => none)
abbrev rm_L_recorded : Room := { frames := 8, cells := 2, slots := 12, locals := 126 }
theorem hd_L_recorded : yL_recorded.cls ≠ "java/lang/invoke/MethodHandle" ∧ yL_recorded.cls ≠ "java/lang/invoke/VarHandle" ∧ (parseMethodDescriptor yL_recorded.desc).map (fun d => d.parameters.length) = some 4 := by decide +kernel
set_option maxHeartbeats 4000000 in
set_option maxRecDepth 100000 in
theorem c_L_recorded {l : Launch} (hl : l.stackTraces = false) {Z : m_Z} {S S9 : m_S} {a0 : Nat} {p1 : Int32} {p2 : Int32} {o9 : Nat} {r9 : Int32} (hf : f_L_recorded Z S a0 p1 p2 o9 = some (r9, S9)) : m_Cx l yL_recorded (.codeWith yL_recorded cL_recorded 5 (some .int) [(0, 10, 13, 19), (0, 10, 17, 25), (0, 10, 21, 53)] :: m_ws) rm_L_recorded 2 12 (fun f => [.ref a0, .int p1, .int p2, .ref o9]) Z S (.ok (some (.int r9))) S9 := by
  unfold f_L_recorded at hf
  refine m_entW hl (by decide) (fun _ => Nat.le_of_ble_eq_true rfl) (fun x C F T => ?_)
  have C : m_H x l RL cL_recorded 5 rm_L_recorded := C
  show m_G x Z S 5 0 0 0 [(0, .ref a0), (1, .int p1), (2, .int p2), (3, .ref o9)] []
  obtain ⟨g1, hf⟩ := m_gd_of hf
  refine r_aload_n (q := 1) C 3 dL_recorded_0 rfl rfl ?_
  refine r_iconst (q := 2) (v := 0) C dL_recorded_1 (by decide) rfl ?_
  refine r_aload_n (q := 3) C 0 dL_recorded_2 rfl rfl ?_
  refine r_iload_n (q := 4) C 1 dL_recorded_3 rfl rfl ?_
  refine r_iload_n (q := 5) C 2 dL_recorded_4 rfl rfl ?_
  split at hf
  · rename_i v h1
    obtain ⟨g2, hf⟩ := m_gd_of hf
    obtain ⟨g3, hf⟩ := m_gd_of hf
    obtain ⟨rfl, rfl⟩ := m_so2 hf
    refine x_okV (mcQ := 2) (msQ := 12) (retQ := none) (q := 8) (st1 := [.int v, .int 0, .ref o9]) C (c_X8_recorded hl h1) rfl w_622 w_623 w_624 w_2 w_625 hd_X8_recorded rfl (by decide) g1 rfl rfl rfl ⟨(Nat.le_of_ble_eq_true rfl), (Nat.le_of_ble_eq_true rfl)⟩ (Nat.le_of_ble_eq_true rfl) ⟨(Nat.le_of_ble_eq_true rfl), (Nat.le_of_ble_eq_true rfl)⟩ dL_recorded_5 rfl (Nat.le_of_ble_eq_true rfl) (Nat.le_of_ble_eq_true rfl) rfl ?_
    refine r_i2l (q := 9) C dL_recorded_8 rfl ?_
    refine r_last (q := 10) C dL_recorded_9 ⟨g2, g3⟩ rfl ?_
    refine r_goto (t := 25) C dL_recorded_10 (by decide) ?_
    refine r_iconst (q := 26) (v := 0) C dL_recorded_25 (by decide) rfl ?_
    exact w_iret C F (Nat.le_of_ble_eq_true rfl) (Nat.le_of_ble_eq_true rfl) dL_recorded_26
  · rename_i e h1
    by_cases e0 : e = "java/lang/IndexOutOfBoundsException"
    · subst e0
      replace hf := m_if1 hf rfl
      obtain ⟨rfl, rfl⟩ := m_so2 hf
      refine x_thV C (c_X8_recorded hl h1) rfl w_622 w_623 w_624 w_2 w_625 hd_X8_recorded rfl (by decide) g1 rfl rfl rfl ⟨(Nat.le_of_ble_eq_true rfl), (Nat.le_of_ble_eq_true rfl)⟩ (Nat.le_of_ble_eq_true rfl) ⟨(Nat.le_of_ble_eq_true rfl), (Nat.le_of_ble_eq_true rfl)⟩ dL_recorded_5 rfl rfl [(0, 10, 13, 19), (0, 10, 17, 25), (0, 10, 21, 53)] T ((tableOf [(0, 10, 13, 19), (0, 10, 17, 25), (0, 10, 21, 53)]).take 0) ((tableOf [(0, 10, 13, 19), (0, 10, 17, 25), (0, 10, 21, 53)]).drop 1) ((tableOf [(0, 10, 13, 19), (0, 10, 17, 25), (0, 10, 21, 53)])[0]) rfl (fun z hz => nomatch hz) (by decide) (by decide) w_280 (by decide +kernel) (hpc := 13) rfl (fun q9 => ?_)
      refine r_astore (q := 15) (L' := [(4, .ref q9), (0, .ref a0), (1, .int p1), (2, .int p2), (3, .ref o9)]) C dL_recorded_13 rfl (by decide) rfl ?_
      refine r_iconst (q := 16) (v := 1) C dL_recorded_15 (by decide) rfl ?_
      exact w_iret C F (Nat.le_of_ble_eq_true rfl) (Nat.le_of_ble_eq_true rfl) dL_recorded_16
    · skip
      by_cases e1 : e = "java/lang/IllegalArgumentException"
      · subst e1
        replace hf := m_if0 hf (by decide); replace hf := m_if1 hf rfl
        obtain ⟨rfl, rfl⟩ := m_so2 hf
        refine x_thV C (c_X8_recorded hl h1) rfl w_622 w_623 w_624 w_2 w_625 hd_X8_recorded rfl (by decide) g1 rfl rfl rfl ⟨(Nat.le_of_ble_eq_true rfl), (Nat.le_of_ble_eq_true rfl)⟩ (Nat.le_of_ble_eq_true rfl) ⟨(Nat.le_of_ble_eq_true rfl), (Nat.le_of_ble_eq_true rfl)⟩ dL_recorded_5 rfl rfl [(0, 10, 13, 19), (0, 10, 17, 25), (0, 10, 21, 53)] T ((tableOf [(0, 10, 13, 19), (0, 10, 17, 25), (0, 10, 21, 53)]).take 1) ((tableOf [(0, 10, 13, 19), (0, 10, 17, 25), (0, 10, 21, 53)]).drop 2) ((tableOf [(0, 10, 13, 19), (0, 10, 17, 25), (0, 10, 21, 53)])[1]) rfl (by
          intro z hz
          simp only [tableOf, List.map, List.take, List.mem_cons, List.not_mem_nil, or_false] at hz
          rcases hz with rfl
          · exact Or.inr ⟨by decide, "java/lang/IndexOutOfBoundsException", w_280, by decide +kernel⟩) (by decide) (by decide) w_301 (by decide +kernel) (hpc := 17) rfl (fun q9 => ?_)
        refine r_astore (q := 19) (L' := [(4, .ref q9), (0, .ref a0), (1, .int p1), (2, .int p2), (3, .ref o9)]) C dL_recorded_17 rfl (by decide) rfl ?_
        refine r_iconst (q := 20) (v := 2) C dL_recorded_19 (by decide) rfl ?_
        exact w_iret C F (Nat.le_of_ble_eq_true rfl) (Nat.le_of_ble_eq_true rfl) dL_recorded_20
      · skip
        by_cases e2 : e = "java/util/NoSuchElementException"
        · subst e2
          replace hf := m_if0 hf (by decide); replace hf := m_if0 hf (by decide); replace hf := m_if1 hf rfl
          obtain ⟨rfl, rfl⟩ := m_so2 hf
          refine x_thV C (c_X8_recorded hl h1) rfl w_622 w_623 w_624 w_2 w_625 hd_X8_recorded rfl (by decide) g1 rfl rfl rfl ⟨(Nat.le_of_ble_eq_true rfl), (Nat.le_of_ble_eq_true rfl)⟩ (Nat.le_of_ble_eq_true rfl) ⟨(Nat.le_of_ble_eq_true rfl), (Nat.le_of_ble_eq_true rfl)⟩ dL_recorded_5 rfl rfl [(0, 10, 13, 19), (0, 10, 17, 25), (0, 10, 21, 53)] T ((tableOf [(0, 10, 13, 19), (0, 10, 17, 25), (0, 10, 21, 53)]).take 2) ((tableOf [(0, 10, 13, 19), (0, 10, 17, 25), (0, 10, 21, 53)]).drop 3) ((tableOf [(0, 10, 13, 19), (0, 10, 17, 25), (0, 10, 21, 53)])[2]) rfl (by
            intro z hz
            simp only [tableOf, List.map, List.take, List.mem_cons, List.not_mem_nil, or_false] at hz
            rcases hz with rfl | rfl
            · exact Or.inr ⟨by decide, "java/lang/IndexOutOfBoundsException", w_280, by decide +kernel⟩
            · exact Or.inr ⟨by decide, "java/lang/IllegalArgumentException", w_301, by decide +kernel⟩) (by decide) (by decide) w_621 (by decide +kernel) (hpc := 21) rfl (fun q9 => ?_)
          refine r_astore (q := 23) (L' := [(4, .ref q9), (0, .ref a0), (1, .int p1), (2, .int p2), (3, .ref o9)]) C dL_recorded_21 rfl (by decide) rfl ?_
          refine r_iconst (q := 24) (v := 3) C dL_recorded_23 (by decide) rfl ?_
          exact w_iret C F (Nat.le_of_ble_eq_true rfl) (Nat.le_of_ble_eq_true rfl) dL_recorded_24
        · skip
          replace hf := m_if0 hf e0; replace hf := m_if0 hf e1; replace hf := m_if0 hf e2; cases hf
  · cases hf
def f_L_remove (Z : m_Z) (S : m_S) (a0 : Nat) (p1 : Int32) (o9 : Nat) : Option (Int32 × m_S) := m_gd (m_ok Z a0 8) (match f_X8_remove Z S a0 p1 with
  | some (.ok v, S1) => m_gd (m_ok Z o9 12) (m_gd (m_in 0 (Z.2.2 o9)) (some (0, m_pJ S1 o9 (0 : Int32).toNatClampNeg (v.toInt64))))
  | some (.error e, S1) => (if e = "java/util/NoSuchElementException" then some (1, S1) else none)
  | none => none)
abbrev rm_L_remove : Room := { frames := 8, cells := 3, slots := 18, locals := 129 }
theorem hd_L_remove : yL_remove.cls ≠ "java/lang/invoke/MethodHandle" ∧ yL_remove.cls ≠ "java/lang/invoke/VarHandle" ∧ (parseMethodDescriptor yL_remove.desc).map (fun d => d.parameters.length) = some 3 := by decide +kernel
set_option maxHeartbeats 4000000 in
set_option maxRecDepth 100000 in
theorem c_L_remove {l : Launch} (hl : l.stackTraces = false) {Z : m_Z} {S S9 : m_S} {a0 : Nat} {p1 : Int32} {o9 : Nat} {r9 : Int32} (hf : f_L_remove Z S a0 p1 o9 = some (r9, S9)) : m_Cx l yL_remove (.codeWith yL_remove cL_remove 4 (some .int) [(0, 9, 12, 53)] :: m_ws) rm_L_remove 3 18 (fun f => [.ref a0, .int p1, .ref o9]) Z S (.ok (some (.int r9))) S9 := by
  unfold f_L_remove at hf
  refine m_entW hl (by decide) (fun _ => Nat.le_of_ble_eq_true rfl) (fun x C F T => ?_)
  have C : m_H x l RL cL_remove 4 rm_L_remove := C
  show m_G x Z S 4 0 0 0 [(0, .ref a0), (1, .int p1), (2, .ref o9)] []
  obtain ⟨g1, hf⟩ := m_gd_of hf
  refine r_aload_n (q := 1) C 2 dL_remove_0 rfl rfl ?_
  refine r_iconst (q := 2) (v := 0) C dL_remove_1 (by decide) rfl ?_
  refine r_aload_n (q := 3) C 0 dL_remove_2 rfl rfl ?_
  refine r_iload_n (q := 4) C 1 dL_remove_3 rfl rfl ?_
  split at hf
  · rename_i v S1 h1
    obtain ⟨g2, hf⟩ := m_gd_of hf
    obtain ⟨g3, hf⟩ := m_gd_of hf
    obtain ⟨rfl, rfl⟩ := m_so2 hf
    refine x_okV (mcQ := 3) (msQ := 18) (retQ := none) (q := 7) (st1 := [.int v, .int 0, .ref o9]) C (c_X8_remove hl h1) rfl w_748 w_749 w_750 w_2 w_751 hd_X8_remove rfl (by decide) g1 rfl rfl rfl ⟨(Nat.le_of_ble_eq_true rfl), (Nat.le_of_ble_eq_true rfl)⟩ (Nat.le_of_ble_eq_true rfl) ⟨(Nat.le_of_ble_eq_true rfl), (Nat.le_of_ble_eq_true rfl)⟩ dL_remove_4 rfl (Nat.le_of_ble_eq_true rfl) (Nat.le_of_ble_eq_true rfl) rfl ?_
    refine r_i2l (q := 8) C dL_remove_7 rfl ?_
    refine r_last (q := 9) C dL_remove_8 ⟨g2, g3⟩ rfl ?_
    refine r_goto (t := 15) C dL_remove_9 (by decide) ?_
    refine r_iconst (q := 16) (v := 0) C dL_remove_15 (by decide) rfl ?_
    exact w_iret C F (Nat.le_of_ble_eq_true rfl) (Nat.le_of_ble_eq_true rfl) dL_remove_16
  · rename_i e S1 h1
    by_cases e0 : e = "java/util/NoSuchElementException"
    · subst e0
      replace hf := m_if1 hf rfl
      obtain ⟨rfl, rfl⟩ := m_so2 hf
      refine x_thV C (c_X8_remove hl h1) rfl w_748 w_749 w_750 w_2 w_751 hd_X8_remove rfl (by decide) g1 rfl rfl rfl ⟨(Nat.le_of_ble_eq_true rfl), (Nat.le_of_ble_eq_true rfl)⟩ (Nat.le_of_ble_eq_true rfl) ⟨(Nat.le_of_ble_eq_true rfl), (Nat.le_of_ble_eq_true rfl)⟩ dL_remove_4 rfl rfl [(0, 9, 12, 53)] T ((tableOf [(0, 9, 12, 53)]).take 0) ((tableOf [(0, 9, 12, 53)]).drop 1) ((tableOf [(0, 9, 12, 53)])[0]) rfl (fun z hz => nomatch hz) (by decide) (by decide) w_621 (by decide +kernel) (hpc := 12) rfl (fun q9 => ?_)
      refine r_astore_n (q := 13) (L' := [(3, .ref q9), (0, .ref a0), (1, .int p1), (2, .ref o9)]) C dL_remove_12 rfl rfl (by decide) rfl ?_
      refine r_iconst (q := 14) (v := 1) C dL_remove_13 (by decide) rfl ?_
      exact w_iret C F (Nat.le_of_ble_eq_true rfl) (Nat.le_of_ble_eq_true rfl) dL_remove_14
    · skip
      replace hf := m_if0 hf e0; cases hf
  · cases hf
def f_L_report (Z : m_Z) (S : m_S) (a0 : Nat) (p1 : Int32) (o9 : Nat) : Option (Int32 × m_S) := m_gd (m_ok Z a0 8) (match f_X8_report Z S a0 p1 with
  | some (.ok v) => m_gd (m_ok Z o9 12) (m_gd (m_in 0 (Z.2.2 o9)) (some (0, m_pJ S o9 (0 : Int32).toNatClampNeg (v.toInt64))))
  | some (.error e) => (if e = "java/lang/IllegalArgumentException" then some (1, S) else none)
  | none => none)
abbrev rm_L_report : Room := { frames := 7, cells := 1, slots := 6, locals := 103 }
theorem hd_L_report : yL_report.cls ≠ "java/lang/invoke/MethodHandle" ∧ yL_report.cls ≠ "java/lang/invoke/VarHandle" ∧ (parseMethodDescriptor yL_report.desc).map (fun d => d.parameters.length) = some 3 := by decide +kernel
set_option maxHeartbeats 4000000 in
set_option maxRecDepth 100000 in
theorem c_L_report {l : Launch} (hl : l.stackTraces = false) {Z : m_Z} {S S9 : m_S} {a0 : Nat} {p1 : Int32} {o9 : Nat} {r9 : Int32} (hf : f_L_report Z S a0 p1 o9 = some (r9, S9)) : m_Cx l yL_report (.codeWith yL_report cL_report 4 (some .int) [(0, 9, 12, 25)] :: m_ws) rm_L_report 1 6 (fun f => [.ref a0, .int p1, .ref o9]) Z S (.ok (some (.int r9))) S9 := by
  unfold f_L_report at hf
  refine m_entW hl (by decide) (fun _ => Nat.le_of_ble_eq_true rfl) (fun x C F T => ?_)
  have C : m_H x l RL cL_report 4 rm_L_report := C
  show m_G x Z S 4 0 0 0 [(0, .ref a0), (1, .int p1), (2, .ref o9)] []
  obtain ⟨g1, hf⟩ := m_gd_of hf
  refine r_aload_n (q := 1) C 2 dL_report_0 rfl rfl ?_
  refine r_iconst (q := 2) (v := 0) C dL_report_1 (by decide) rfl ?_
  refine r_aload_n (q := 3) C 0 dL_report_2 rfl rfl ?_
  refine r_iload_n (q := 4) C 1 dL_report_3 rfl rfl ?_
  split at hf
  · rename_i v h1
    obtain ⟨g2, hf⟩ := m_gd_of hf
    obtain ⟨g3, hf⟩ := m_gd_of hf
    obtain ⟨rfl, rfl⟩ := m_so2 hf
    refine x_okV (mcQ := 1) (msQ := 6) (retQ := none) (q := 7) (st1 := [.int v, .int 0, .ref o9]) C (c_X8_report hl h1) rfl w_528 w_529 w_530 w_2 w_531 hd_X8_report rfl (by decide) g1 rfl rfl rfl ⟨(Nat.le_of_ble_eq_true rfl), (Nat.le_of_ble_eq_true rfl)⟩ (Nat.le_of_ble_eq_true rfl) ⟨(Nat.le_of_ble_eq_true rfl), (Nat.le_of_ble_eq_true rfl)⟩ dL_report_4 rfl (Nat.le_of_ble_eq_true rfl) (Nat.le_of_ble_eq_true rfl) rfl ?_
    refine r_i2l (q := 8) C dL_report_7 rfl ?_
    refine r_last (q := 9) C dL_report_8 ⟨g2, g3⟩ rfl ?_
    refine r_goto (t := 15) C dL_report_9 (by decide) ?_
    refine r_iconst (q := 16) (v := 0) C dL_report_15 (by decide) rfl ?_
    exact w_iret C F (Nat.le_of_ble_eq_true rfl) (Nat.le_of_ble_eq_true rfl) dL_report_16
  · rename_i e h1
    by_cases e0 : e = "java/lang/IllegalArgumentException"
    · subst e0
      replace hf := m_if1 hf rfl
      obtain ⟨rfl, rfl⟩ := m_so2 hf
      refine x_thV C (c_X8_report hl h1) rfl w_528 w_529 w_530 w_2 w_531 hd_X8_report rfl (by decide) g1 rfl rfl rfl ⟨(Nat.le_of_ble_eq_true rfl), (Nat.le_of_ble_eq_true rfl)⟩ (Nat.le_of_ble_eq_true rfl) ⟨(Nat.le_of_ble_eq_true rfl), (Nat.le_of_ble_eq_true rfl)⟩ dL_report_4 rfl rfl [(0, 9, 12, 25)] T ((tableOf [(0, 9, 12, 25)]).take 0) ((tableOf [(0, 9, 12, 25)]).drop 1) ((tableOf [(0, 9, 12, 25)])[0]) rfl (fun z hz => nomatch hz) (by decide) (by decide) w_301 (by decide +kernel) (hpc := 12) rfl (fun q9 => ?_)
      refine r_astore_n (q := 13) (L' := [(3, .ref q9), (0, .ref a0), (1, .int p1), (2, .ref o9)]) C dL_report_12 rfl rfl (by decide) rfl ?_
      refine r_iconst (q := 14) (v := 1) C dL_report_13 (by decide) rfl ?_
      exact w_iret C F (Nat.le_of_ble_eq_true rfl) (Nat.le_of_ble_eq_true rfl) dL_report_14
    · skip
      replace hf := m_if0 hf e0; cases hf
  · cases hf
def f_L_restOf (Z : m_Z) (S : m_S) (a0 : Nat) (p1 : Int32) (o9 : Nat) : Option (Int32 × m_S) := m_gd (m_ok Z a0 8) (match f_X8_restOf Z S a0 p1 with
  | some (.ok v) => m_gd (m_ok Z o9 12) (m_gd (m_in 0 (Z.2.2 o9)) (some (0, m_pJ S o9 (0 : Int32).toNatClampNeg (v.toInt64))))
  | some (.error e) => (if e = "java/lang/IndexOutOfBoundsException" then some (1, S) else (if e = "java/util/NoSuchElementException" then some (2, S) else none))
  | none => none)
abbrev rm_L_restOf : Room := { frames := 8, cells := 2, slots := 12, locals := 157 }
theorem hd_L_restOf : yL_restOf.cls ≠ "java/lang/invoke/MethodHandle" ∧ yL_restOf.cls ≠ "java/lang/invoke/VarHandle" ∧ (parseMethodDescriptor yL_restOf.desc).map (fun d => d.parameters.length) = some 3 := by decide +kernel
set_option maxHeartbeats 4000000 in
set_option maxRecDepth 100000 in
theorem c_L_restOf {l : Launch} (hl : l.stackTraces = false) {Z : m_Z} {S S9 : m_S} {a0 : Nat} {p1 : Int32} {o9 : Nat} {r9 : Int32} (hf : f_L_restOf Z S a0 p1 o9 = some (r9, S9)) : m_Cx l yL_restOf (.codeWith yL_restOf cL_restOf 4 (some .int) [(0, 9, 12, 19), (0, 9, 15, 53)] :: m_ws) rm_L_restOf 2 12 (fun f => [.ref a0, .int p1, .ref o9]) Z S (.ok (some (.int r9))) S9 := by
  unfold f_L_restOf at hf
  refine m_entW hl (by decide) (fun _ => Nat.le_of_ble_eq_true rfl) (fun x C F T => ?_)
  have C : m_H x l RL cL_restOf 4 rm_L_restOf := C
  show m_G x Z S 4 0 0 0 [(0, .ref a0), (1, .int p1), (2, .ref o9)] []
  obtain ⟨g1, hf⟩ := m_gd_of hf
  refine r_aload_n (q := 1) C 2 dL_restOf_0 rfl rfl ?_
  refine r_iconst (q := 2) (v := 0) C dL_restOf_1 (by decide) rfl ?_
  refine r_aload_n (q := 3) C 0 dL_restOf_2 rfl rfl ?_
  refine r_iload_n (q := 4) C 1 dL_restOf_3 rfl rfl ?_
  split at hf
  · rename_i v h1
    obtain ⟨g2, hf⟩ := m_gd_of hf
    obtain ⟨g3, hf⟩ := m_gd_of hf
    obtain ⟨rfl, rfl⟩ := m_so2 hf
    refine x_okV (mcQ := 2) (msQ := 12) (retQ := none) (q := 7) (st1 := [.int v, .int 0, .ref o9]) C (c_X8_restOf hl h1) rfl w_862 w_863 w_864 w_2 w_865 hd_X8_restOf rfl (by decide) g1 rfl rfl rfl ⟨(Nat.le_of_ble_eq_true rfl), (Nat.le_of_ble_eq_true rfl)⟩ (Nat.le_of_ble_eq_true rfl) ⟨(Nat.le_of_ble_eq_true rfl), (Nat.le_of_ble_eq_true rfl)⟩ dL_restOf_4 rfl (Nat.le_of_ble_eq_true rfl) (Nat.le_of_ble_eq_true rfl) rfl ?_
    refine r_i2l (q := 8) C dL_restOf_7 rfl ?_
    refine r_last (q := 9) C dL_restOf_8 ⟨g2, g3⟩ rfl ?_
    refine r_goto (t := 18) C dL_restOf_9 (by decide) ?_
    refine r_iconst (q := 19) (v := 0) C dL_restOf_18 (by decide) rfl ?_
    exact w_iret C F (Nat.le_of_ble_eq_true rfl) (Nat.le_of_ble_eq_true rfl) dL_restOf_19
  · rename_i e h1
    by_cases e0 : e = "java/lang/IndexOutOfBoundsException"
    · subst e0
      replace hf := m_if1 hf rfl
      obtain ⟨rfl, rfl⟩ := m_so2 hf
      refine x_thV C (c_X8_restOf hl h1) rfl w_862 w_863 w_864 w_2 w_865 hd_X8_restOf rfl (by decide) g1 rfl rfl rfl ⟨(Nat.le_of_ble_eq_true rfl), (Nat.le_of_ble_eq_true rfl)⟩ (Nat.le_of_ble_eq_true rfl) ⟨(Nat.le_of_ble_eq_true rfl), (Nat.le_of_ble_eq_true rfl)⟩ dL_restOf_4 rfl rfl [(0, 9, 12, 19), (0, 9, 15, 53)] T ((tableOf [(0, 9, 12, 19), (0, 9, 15, 53)]).take 0) ((tableOf [(0, 9, 12, 19), (0, 9, 15, 53)]).drop 1) ((tableOf [(0, 9, 12, 19), (0, 9, 15, 53)])[0]) rfl (fun z hz => nomatch hz) (by decide) (by decide) w_280 (by decide +kernel) (hpc := 12) rfl (fun q9 => ?_)
      refine r_astore_n (q := 13) (L' := [(3, .ref q9), (0, .ref a0), (1, .int p1), (2, .ref o9)]) C dL_restOf_12 rfl rfl (by decide) rfl ?_
      refine r_iconst (q := 14) (v := 1) C dL_restOf_13 (by decide) rfl ?_
      exact w_iret C F (Nat.le_of_ble_eq_true rfl) (Nat.le_of_ble_eq_true rfl) dL_restOf_14
    · skip
      by_cases e1 : e = "java/util/NoSuchElementException"
      · subst e1
        replace hf := m_if0 hf (by decide); replace hf := m_if1 hf rfl
        obtain ⟨rfl, rfl⟩ := m_so2 hf
        refine x_thV C (c_X8_restOf hl h1) rfl w_862 w_863 w_864 w_2 w_865 hd_X8_restOf rfl (by decide) g1 rfl rfl rfl ⟨(Nat.le_of_ble_eq_true rfl), (Nat.le_of_ble_eq_true rfl)⟩ (Nat.le_of_ble_eq_true rfl) ⟨(Nat.le_of_ble_eq_true rfl), (Nat.le_of_ble_eq_true rfl)⟩ dL_restOf_4 rfl rfl [(0, 9, 12, 19), (0, 9, 15, 53)] T ((tableOf [(0, 9, 12, 19), (0, 9, 15, 53)]).take 1) ((tableOf [(0, 9, 12, 19), (0, 9, 15, 53)]).drop 2) ((tableOf [(0, 9, 12, 19), (0, 9, 15, 53)])[1]) rfl (by
          intro z hz
          simp only [tableOf, List.map, List.take, List.mem_cons, List.not_mem_nil, or_false] at hz
          rcases hz with rfl
          · exact Or.inr ⟨by decide, "java/lang/IndexOutOfBoundsException", w_280, by decide +kernel⟩) (by decide) (by decide) w_621 (by decide +kernel) (hpc := 15) rfl (fun q9 => ?_)
        refine r_astore_n (q := 16) (L' := [(3, .ref q9), (0, .ref a0), (1, .int p1), (2, .ref o9)]) C dL_restOf_15 rfl rfl (by decide) rfl ?_
        refine r_iconst (q := 17) (v := 2) C dL_restOf_16 (by decide) rfl ?_
        exact w_iret C F (Nat.le_of_ble_eq_true rfl) (Nat.le_of_ble_eq_true rfl) dL_restOf_17
      · skip
        replace hf := m_if0 hf e0; replace hf := m_if0 hf e1; cases hf
  · cases hf
def f_L_restore (Z : m_Z) (S : m_S) (a0 : Nat) (p1 : Int32) : Option (Int32 × m_S) := m_gd (m_ok Z a0 8) (match f_X8_restore Z S a0 p1 with
  | some (.ok v, S1) => some (0, S1)
  | some (.error e, S1) => (if e = "java/lang/IndexOutOfBoundsException" then some (1, S1) else (if e = "java/util/NoSuchElementException" then some (2, S1) else none))
  | none => none)
abbrev rm_L_restore : Room := { frames := 8, cells := 2, slots := 12, locals := 124 }
theorem hd_L_restore : yL_restore.cls ≠ "java/lang/invoke/MethodHandle" ∧ yL_restore.cls ≠ "java/lang/invoke/VarHandle" ∧ (parseMethodDescriptor yL_restore.desc).map (fun d => d.parameters.length) = some 2 := by decide +kernel
set_option maxHeartbeats 4000000 in
set_option maxRecDepth 100000 in
theorem c_L_restore {l : Launch} (hl : l.stackTraces = false) {Z : m_Z} {S S9 : m_S} {a0 : Nat} {p1 : Int32} {r9 : Int32} (hf : f_L_restore Z S a0 p1 = some (r9, S9)) : m_Cx l yL_restore (.codeWith yL_restore cL_restore 3 (some .int) [(0, 5, 8, 19), (0, 5, 11, 53)] :: m_ws) rm_L_restore 2 12 (fun f => [.ref a0, .int p1]) Z S (.ok (some (.int r9))) S9 := by
  unfold f_L_restore at hf
  refine m_entW hl (by decide) (fun _ => Nat.le_of_ble_eq_true rfl) (fun x C F T => ?_)
  have C : m_H x l RL cL_restore 3 rm_L_restore := C
  show m_G x Z S 3 0 0 0 [(0, .ref a0), (1, .int p1)] []
  obtain ⟨g1, hf⟩ := m_gd_of hf
  refine r_aload_n (q := 1) C 0 dL_restore_0 rfl rfl ?_
  refine r_iload_n (q := 2) C 1 dL_restore_1 rfl rfl ?_
  split at hf
  · rename_i v S1 h1
    obtain ⟨rfl, rfl⟩ := m_so2 hf
    refine x_okV (mcQ := 2) (msQ := 12) (retQ := none) (q := 5) (st1 := []) C (c_X8_restore hl h1) rfl w_921 w_922 w_923 w_2 w_924 hd_X8_restore rfl (by decide) g1 rfl rfl rfl ⟨(Nat.le_of_ble_eq_true rfl), (Nat.le_of_ble_eq_true rfl)⟩ (Nat.le_of_ble_eq_true rfl) ⟨(Nat.le_of_ble_eq_true rfl), (Nat.le_of_ble_eq_true rfl)⟩ dL_restore_2 rfl (Nat.le_of_ble_eq_true rfl) (Nat.le_of_ble_eq_true rfl) rfl ?_
    refine r_goto (t := 14) C dL_restore_5 (by decide) ?_
    refine r_iconst (q := 15) (v := 0) C dL_restore_14 (by decide) rfl ?_
    exact w_iret C F (Nat.le_of_ble_eq_true rfl) (Nat.le_of_ble_eq_true rfl) dL_restore_15
  · rename_i e S1 h1
    by_cases e0 : e = "java/lang/IndexOutOfBoundsException"
    · subst e0
      replace hf := m_if1 hf rfl
      obtain ⟨rfl, rfl⟩ := m_so2 hf
      refine x_thV C (c_X8_restore hl h1) rfl w_921 w_922 w_923 w_2 w_924 hd_X8_restore rfl (by decide) g1 rfl rfl rfl ⟨(Nat.le_of_ble_eq_true rfl), (Nat.le_of_ble_eq_true rfl)⟩ (Nat.le_of_ble_eq_true rfl) ⟨(Nat.le_of_ble_eq_true rfl), (Nat.le_of_ble_eq_true rfl)⟩ dL_restore_2 rfl rfl [(0, 5, 8, 19), (0, 5, 11, 53)] T ((tableOf [(0, 5, 8, 19), (0, 5, 11, 53)]).take 0) ((tableOf [(0, 5, 8, 19), (0, 5, 11, 53)]).drop 1) ((tableOf [(0, 5, 8, 19), (0, 5, 11, 53)])[0]) rfl (fun z hz => nomatch hz) (by decide) (by decide) w_280 (by decide +kernel) (hpc := 8) rfl (fun q9 => ?_)
      refine r_astore_n (q := 9) (L' := [(2, .ref q9), (0, .ref a0), (1, .int p1)]) C dL_restore_8 rfl rfl (by decide) rfl ?_
      refine r_iconst (q := 10) (v := 1) C dL_restore_9 (by decide) rfl ?_
      exact w_iret C F (Nat.le_of_ble_eq_true rfl) (Nat.le_of_ble_eq_true rfl) dL_restore_10
    · skip
      by_cases e1 : e = "java/util/NoSuchElementException"
      · subst e1
        replace hf := m_if0 hf (by decide); replace hf := m_if1 hf rfl
        obtain ⟨rfl, rfl⟩ := m_so2 hf
        refine x_thV C (c_X8_restore hl h1) rfl w_921 w_922 w_923 w_2 w_924 hd_X8_restore rfl (by decide) g1 rfl rfl rfl ⟨(Nat.le_of_ble_eq_true rfl), (Nat.le_of_ble_eq_true rfl)⟩ (Nat.le_of_ble_eq_true rfl) ⟨(Nat.le_of_ble_eq_true rfl), (Nat.le_of_ble_eq_true rfl)⟩ dL_restore_2 rfl rfl [(0, 5, 8, 19), (0, 5, 11, 53)] T ((tableOf [(0, 5, 8, 19), (0, 5, 11, 53)]).take 1) ((tableOf [(0, 5, 8, 19), (0, 5, 11, 53)]).drop 2) ((tableOf [(0, 5, 8, 19), (0, 5, 11, 53)])[1]) rfl (by
          intro z hz
          simp only [tableOf, List.map, List.take, List.mem_cons, List.not_mem_nil, or_false] at hz
          rcases hz with rfl
          · exact Or.inr ⟨by decide, "java/lang/IndexOutOfBoundsException", w_280, by decide +kernel⟩) (by decide) (by decide) w_621 (by decide +kernel) (hpc := 11) rfl (fun q9 => ?_)
        refine r_astore_n (q := 12) (L' := [(2, .ref q9), (0, .ref a0), (1, .int p1)]) C dL_restore_11 rfl rfl (by decide) rfl ?_
        refine r_iconst (q := 13) (v := 2) C dL_restore_12 (by decide) rfl ?_
        exact w_iret C F (Nat.le_of_ble_eq_true rfl) (Nat.le_of_ble_eq_true rfl) dL_restore_13
      · skip
        replace hf := m_if0 hf e0; replace hf := m_if0 hf e1; cases hf
  · cases hf
def f_L_roomIn (Z : m_Z) (S : m_S) (a0 : Nat) (p1 : Int32) (o9 : Nat) : Option (Int32 × m_S) := m_gd (m_ok Z a0 8) (match f_X8_roomIn Z S a0 p1 with
  | some (.ok v, S1) => m_gd (m_ok Z o9 12) (m_gd (m_in 0 (Z.2.2 o9)) (some (0, m_pJ S1 o9 (0 : Int32).toNatClampNeg (v.toInt64))))
  | some (.error e, S1) => (if e = "java/lang/IllegalArgumentException" then some (1, S1) else none)
  | none => none)
abbrev rm_L_roomIn : Room := { frames := 8, cells := 1, slots := 6, locals := 128 }
theorem hd_L_roomIn : yL_roomIn.cls ≠ "java/lang/invoke/MethodHandle" ∧ yL_roomIn.cls ≠ "java/lang/invoke/VarHandle" ∧ (parseMethodDescriptor yL_roomIn.desc).map (fun d => d.parameters.length) = some 3 := by decide +kernel
set_option maxHeartbeats 4000000 in
set_option maxRecDepth 100000 in
theorem c_L_roomIn {l : Launch} (hl : l.stackTraces = false) {Z : m_Z} {S S9 : m_S} {a0 : Nat} {p1 : Int32} {o9 : Nat} {r9 : Int32} (hf : f_L_roomIn Z S a0 p1 o9 = some (r9, S9)) : m_Cx l yL_roomIn (.codeWith yL_roomIn cL_roomIn 4 (some .int) [(0, 9, 12, 25)] :: m_ws) rm_L_roomIn 1 6 (fun f => [.ref a0, .int p1, .ref o9]) Z S (.ok (some (.int r9))) S9 := by
  unfold f_L_roomIn at hf
  refine m_entW hl (by decide) (fun _ => Nat.le_of_ble_eq_true rfl) (fun x C F T => ?_)
  have C : m_H x l RL cL_roomIn 4 rm_L_roomIn := C
  show m_G x Z S 4 0 0 0 [(0, .ref a0), (1, .int p1), (2, .ref o9)] []
  obtain ⟨g1, hf⟩ := m_gd_of hf
  refine r_aload_n (q := 1) C 2 dL_roomIn_0 rfl rfl ?_
  refine r_iconst (q := 2) (v := 0) C dL_roomIn_1 (by decide) rfl ?_
  refine r_aload_n (q := 3) C 0 dL_roomIn_2 rfl rfl ?_
  refine r_iload_n (q := 4) C 1 dL_roomIn_3 rfl rfl ?_
  split at hf
  · rename_i v S1 h1
    obtain ⟨g2, hf⟩ := m_gd_of hf
    obtain ⟨g3, hf⟩ := m_gd_of hf
    obtain ⟨rfl, rfl⟩ := m_so2 hf
    refine x_okV (mcQ := 1) (msQ := 6) (retQ := none) (q := 7) (st1 := [.int v, .int 0, .ref o9]) C (c_X8_roomIn hl h1) rfl w_833 w_834 w_835 w_2 w_836 hd_X8_roomIn rfl (by decide) g1 rfl rfl rfl ⟨(Nat.le_of_ble_eq_true rfl), (Nat.le_of_ble_eq_true rfl)⟩ (Nat.le_of_ble_eq_true rfl) ⟨(Nat.le_of_ble_eq_true rfl), (Nat.le_of_ble_eq_true rfl)⟩ dL_roomIn_4 rfl (Nat.le_of_ble_eq_true rfl) (Nat.le_of_ble_eq_true rfl) rfl ?_
    refine r_i2l (q := 8) C dL_roomIn_7 rfl ?_
    refine r_last (q := 9) C dL_roomIn_8 ⟨g2, g3⟩ rfl ?_
    refine r_goto (t := 15) C dL_roomIn_9 (by decide) ?_
    refine r_iconst (q := 16) (v := 0) C dL_roomIn_15 (by decide) rfl ?_
    exact w_iret C F (Nat.le_of_ble_eq_true rfl) (Nat.le_of_ble_eq_true rfl) dL_roomIn_16
  · rename_i e S1 h1
    by_cases e0 : e = "java/lang/IllegalArgumentException"
    · subst e0
      replace hf := m_if1 hf rfl
      obtain ⟨rfl, rfl⟩ := m_so2 hf
      refine x_thV C (c_X8_roomIn hl h1) rfl w_833 w_834 w_835 w_2 w_836 hd_X8_roomIn rfl (by decide) g1 rfl rfl rfl ⟨(Nat.le_of_ble_eq_true rfl), (Nat.le_of_ble_eq_true rfl)⟩ (Nat.le_of_ble_eq_true rfl) ⟨(Nat.le_of_ble_eq_true rfl), (Nat.le_of_ble_eq_true rfl)⟩ dL_roomIn_4 rfl rfl [(0, 9, 12, 25)] T ((tableOf [(0, 9, 12, 25)]).take 0) ((tableOf [(0, 9, 12, 25)]).drop 1) ((tableOf [(0, 9, 12, 25)])[0]) rfl (fun z hz => nomatch hz) (by decide) (by decide) w_301 (by decide +kernel) (hpc := 12) rfl (fun q9 => ?_)
      refine r_astore_n (q := 13) (L' := [(3, .ref q9), (0, .ref a0), (1, .int p1), (2, .ref o9)]) C dL_roomIn_12 rfl rfl (by decide) rfl ?_
      refine r_iconst (q := 14) (v := 1) C dL_roomIn_13 (by decide) rfl ?_
      exact w_iret C F (Nat.le_of_ble_eq_true rfl) (Nat.le_of_ble_eq_true rfl) dL_roomIn_14
    · skip
      replace hf := m_if0 hf e0; cases hf
  · cases hf
def f_L_save (Z : m_Z) (S : m_S) (a0 : Nat) (p1 : Int32) : Option (Int32 × m_S) := m_gd (m_ok Z a0 8) (match f_X8_save Z S a0 p1 with
  | some (.ok v, S1) => some (0, S1)
  | some (.error e, S1) => (if e = "java/lang/IndexOutOfBoundsException" then some (1, S1) else none)
  | none => none)
abbrev rm_L_save : Room := { frames := 8, cells := 1, slots := 6, locals := 124 }
theorem hd_L_save : yL_save.cls ≠ "java/lang/invoke/MethodHandle" ∧ yL_save.cls ≠ "java/lang/invoke/VarHandle" ∧ (parseMethodDescriptor yL_save.desc).map (fun d => d.parameters.length) = some 2 := by decide +kernel
set_option maxHeartbeats 4000000 in
set_option maxRecDepth 100000 in
theorem c_L_save {l : Launch} (hl : l.stackTraces = false) {Z : m_Z} {S S9 : m_S} {a0 : Nat} {p1 : Int32} {r9 : Int32} (hf : f_L_save Z S a0 p1 = some (r9, S9)) : m_Cx l yL_save (.codeWith yL_save cL_save 3 (some .int) [(0, 5, 8, 19)] :: m_ws) rm_L_save 1 6 (fun f => [.ref a0, .int p1]) Z S (.ok (some (.int r9))) S9 := by
  unfold f_L_save at hf
  refine m_entW hl (by decide) (fun _ => Nat.le_of_ble_eq_true rfl) (fun x C F T => ?_)
  have C : m_H x l RL cL_save 3 rm_L_save := C
  show m_G x Z S 3 0 0 0 [(0, .ref a0), (1, .int p1)] []
  obtain ⟨g1, hf⟩ := m_gd_of hf
  refine r_aload_n (q := 1) C 0 dL_save_0 rfl rfl ?_
  refine r_iload_n (q := 2) C 1 dL_save_1 rfl rfl ?_
  split at hf
  · rename_i v S1 h1
    obtain ⟨rfl, rfl⟩ := m_so2 hf
    refine x_okV (mcQ := 1) (msQ := 6) (retQ := none) (q := 5) (st1 := []) C (c_X8_save hl h1) rfl w_899 w_900 w_901 w_2 w_902 hd_X8_save rfl (by decide) g1 rfl rfl rfl ⟨(Nat.le_of_ble_eq_true rfl), (Nat.le_of_ble_eq_true rfl)⟩ (Nat.le_of_ble_eq_true rfl) ⟨(Nat.le_of_ble_eq_true rfl), (Nat.le_of_ble_eq_true rfl)⟩ dL_save_2 rfl (Nat.le_of_ble_eq_true rfl) (Nat.le_of_ble_eq_true rfl) rfl ?_
    refine r_goto (t := 11) C dL_save_5 (by decide) ?_
    refine r_iconst (q := 12) (v := 0) C dL_save_11 (by decide) rfl ?_
    exact w_iret C F (Nat.le_of_ble_eq_true rfl) (Nat.le_of_ble_eq_true rfl) dL_save_12
  · rename_i e S1 h1
    by_cases e0 : e = "java/lang/IndexOutOfBoundsException"
    · subst e0
      replace hf := m_if1 hf rfl
      obtain ⟨rfl, rfl⟩ := m_so2 hf
      refine x_thV C (c_X8_save hl h1) rfl w_899 w_900 w_901 w_2 w_902 hd_X8_save rfl (by decide) g1 rfl rfl rfl ⟨(Nat.le_of_ble_eq_true rfl), (Nat.le_of_ble_eq_true rfl)⟩ (Nat.le_of_ble_eq_true rfl) ⟨(Nat.le_of_ble_eq_true rfl), (Nat.le_of_ble_eq_true rfl)⟩ dL_save_2 rfl rfl [(0, 5, 8, 19)] T ((tableOf [(0, 5, 8, 19)]).take 0) ((tableOf [(0, 5, 8, 19)]).drop 1) ((tableOf [(0, 5, 8, 19)])[0]) rfl (fun z hz => nomatch hz) (by decide) (by decide) w_280 (by decide +kernel) (hpc := 8) rfl (fun q9 => ?_)
      refine r_astore_n (q := 9) (L' := [(2, .ref q9), (0, .ref a0), (1, .int p1)]) C dL_save_8 rfl rfl (by decide) rfl ?_
      refine r_iconst (q := 10) (v := 1) C dL_save_9 (by decide) rfl ?_
      exact w_iret C F (Nat.le_of_ble_eq_true rfl) (Nat.le_of_ble_eq_true rfl) dL_save_10
    · skip
      replace hf := m_if0 hf e0; cases hf
  · cases hf
def f_L_setLeak (Z : m_Z) (S : m_S) (a0 : Nat) (p1 : Int32) (p2 : Int32) (o9 : Nat) : Option (Int32 × m_S) := m_gd (m_ok Z a0 8) (match f_X8_setLeak Z S a0 p1 p2 with
  | some (.ok v, S1) => m_gd (m_ok Z o9 12) (m_gd (m_in 0 (Z.2.2 o9)) (some (0, m_pJ S1 o9 (0 : Int32).toNatClampNeg (v.toInt64))))
  | some (.error e, S1) => (if e = "java/lang/IndexOutOfBoundsException" then some (1, S1) else (if e = "java/lang/IllegalArgumentException" then some (2, S1) else none))
  | none => none)
abbrev rm_L_setLeak : Room := { frames := 8, cells := 2, slots := 12, locals := 127 }
theorem hd_L_setLeak : yL_setLeak.cls ≠ "java/lang/invoke/MethodHandle" ∧ yL_setLeak.cls ≠ "java/lang/invoke/VarHandle" ∧ (parseMethodDescriptor yL_setLeak.desc).map (fun d => d.parameters.length) = some 4 := by decide +kernel
set_option maxHeartbeats 4000000 in
set_option maxRecDepth 100000 in
theorem c_L_setLeak {l : Launch} (hl : l.stackTraces = false) {Z : m_Z} {S S9 : m_S} {a0 : Nat} {p1 : Int32} {p2 : Int32} {o9 : Nat} {r9 : Int32} (hf : f_L_setLeak Z S a0 p1 p2 o9 = some (r9, S9)) : m_Cx l yL_setLeak (.codeWith yL_setLeak cL_setLeak 5 (some .int) [(0, 10, 13, 19), (0, 10, 17, 25)] :: m_ws) rm_L_setLeak 2 12 (fun f => [.ref a0, .int p1, .int p2, .ref o9]) Z S (.ok (some (.int r9))) S9 := by
  unfold f_L_setLeak at hf
  refine m_entW hl (by decide) (fun _ => Nat.le_of_ble_eq_true rfl) (fun x C F T => ?_)
  have C : m_H x l RL cL_setLeak 5 rm_L_setLeak := C
  show m_G x Z S 5 0 0 0 [(0, .ref a0), (1, .int p1), (2, .int p2), (3, .ref o9)] []
  obtain ⟨g1, hf⟩ := m_gd_of hf
  refine r_aload_n (q := 1) C 3 dL_setLeak_0 rfl rfl ?_
  refine r_iconst (q := 2) (v := 0) C dL_setLeak_1 (by decide) rfl ?_
  refine r_aload_n (q := 3) C 0 dL_setLeak_2 rfl rfl ?_
  refine r_iload_n (q := 4) C 1 dL_setLeak_3 rfl rfl ?_
  refine r_iload_n (q := 5) C 2 dL_setLeak_4 rfl rfl ?_
  split at hf
  · rename_i v S1 h1
    obtain ⟨g2, hf⟩ := m_gd_of hf
    obtain ⟨g3, hf⟩ := m_gd_of hf
    obtain ⟨rfl, rfl⟩ := m_so2 hf
    refine x_okV (mcQ := 2) (msQ := 12) (retQ := none) (q := 8) (st1 := [.int v, .int 0, .ref o9]) C (c_X8_setLeak hl h1) rfl w_674 w_675 w_676 w_2 w_677 hd_X8_setLeak rfl (by decide) g1 rfl rfl rfl ⟨(Nat.le_of_ble_eq_true rfl), (Nat.le_of_ble_eq_true rfl)⟩ (Nat.le_of_ble_eq_true rfl) ⟨(Nat.le_of_ble_eq_true rfl), (Nat.le_of_ble_eq_true rfl)⟩ dL_setLeak_5 rfl (Nat.le_of_ble_eq_true rfl) (Nat.le_of_ble_eq_true rfl) rfl ?_
    refine r_i2l (q := 9) C dL_setLeak_8 rfl ?_
    refine r_last (q := 10) C dL_setLeak_9 ⟨g2, g3⟩ rfl ?_
    refine r_goto (t := 21) C dL_setLeak_10 (by decide) ?_
    refine r_iconst (q := 22) (v := 0) C dL_setLeak_21 (by decide) rfl ?_
    exact w_iret C F (Nat.le_of_ble_eq_true rfl) (Nat.le_of_ble_eq_true rfl) dL_setLeak_22
  · rename_i e S1 h1
    by_cases e0 : e = "java/lang/IndexOutOfBoundsException"
    · subst e0
      replace hf := m_if1 hf rfl
      obtain ⟨rfl, rfl⟩ := m_so2 hf
      refine x_thV C (c_X8_setLeak hl h1) rfl w_674 w_675 w_676 w_2 w_677 hd_X8_setLeak rfl (by decide) g1 rfl rfl rfl ⟨(Nat.le_of_ble_eq_true rfl), (Nat.le_of_ble_eq_true rfl)⟩ (Nat.le_of_ble_eq_true rfl) ⟨(Nat.le_of_ble_eq_true rfl), (Nat.le_of_ble_eq_true rfl)⟩ dL_setLeak_5 rfl rfl [(0, 10, 13, 19), (0, 10, 17, 25)] T ((tableOf [(0, 10, 13, 19), (0, 10, 17, 25)]).take 0) ((tableOf [(0, 10, 13, 19), (0, 10, 17, 25)]).drop 1) ((tableOf [(0, 10, 13, 19), (0, 10, 17, 25)])[0]) rfl (fun z hz => nomatch hz) (by decide) (by decide) w_280 (by decide +kernel) (hpc := 13) rfl (fun q9 => ?_)
      refine r_astore (q := 15) (L' := [(4, .ref q9), (0, .ref a0), (1, .int p1), (2, .int p2), (3, .ref o9)]) C dL_setLeak_13 rfl (by decide) rfl ?_
      refine r_iconst (q := 16) (v := 1) C dL_setLeak_15 (by decide) rfl ?_
      exact w_iret C F (Nat.le_of_ble_eq_true rfl) (Nat.le_of_ble_eq_true rfl) dL_setLeak_16
    · skip
      by_cases e1 : e = "java/lang/IllegalArgumentException"
      · subst e1
        replace hf := m_if0 hf (by decide); replace hf := m_if1 hf rfl
        obtain ⟨rfl, rfl⟩ := m_so2 hf
        refine x_thV C (c_X8_setLeak hl h1) rfl w_674 w_675 w_676 w_2 w_677 hd_X8_setLeak rfl (by decide) g1 rfl rfl rfl ⟨(Nat.le_of_ble_eq_true rfl), (Nat.le_of_ble_eq_true rfl)⟩ (Nat.le_of_ble_eq_true rfl) ⟨(Nat.le_of_ble_eq_true rfl), (Nat.le_of_ble_eq_true rfl)⟩ dL_setLeak_5 rfl rfl [(0, 10, 13, 19), (0, 10, 17, 25)] T ((tableOf [(0, 10, 13, 19), (0, 10, 17, 25)]).take 1) ((tableOf [(0, 10, 13, 19), (0, 10, 17, 25)]).drop 2) ((tableOf [(0, 10, 13, 19), (0, 10, 17, 25)])[1]) rfl (by
          intro z hz
          simp only [tableOf, List.map, List.take, List.mem_cons, List.not_mem_nil, or_false] at hz
          rcases hz with rfl
          · exact Or.inr ⟨by decide, "java/lang/IndexOutOfBoundsException", w_280, by decide +kernel⟩) (by decide) (by decide) w_301 (by decide +kernel) (hpc := 17) rfl (fun q9 => ?_)
        refine r_astore (q := 19) (L' := [(4, .ref q9), (0, .ref a0), (1, .int p1), (2, .int p2), (3, .ref o9)]) C dL_setLeak_17 rfl (by decide) rfl ?_
        refine r_iconst (q := 20) (v := 2) C dL_setLeak_19 (by decide) rfl ?_
        exact w_iret C F (Nat.le_of_ble_eq_true rfl) (Nat.le_of_ble_eq_true rfl) dL_setLeak_20
      · skip
        replace hf := m_if0 hf e0; replace hf := m_if0 hf e1; cases hf
  · cases hf
def f_L_setPoint (Z : m_Z) (S : m_S) (a0 : Nat) (p1 : Int32) (o9 : Nat) : Option (Int32 × m_S) := m_gd (m_ok Z a0 8) (match f_X8_setPoint Z S a0 p1 with
  | some (.ok v) => m_gd (m_ok Z o9 12) (m_gd (m_in 0 (Z.2.2 o9)) (some (0, m_pJ S o9 (0 : Int32).toNatClampNeg (v.toInt64))))
  | some (.error e) => (if e = "java/lang/IllegalArgumentException" then some (1, S) else none)
  | none => none)
abbrev rm_L_setPoint : Room := { frames := 7, cells := 1, slots := 6, locals := 103 }
theorem hd_L_setPoint : yL_setPoint.cls ≠ "java/lang/invoke/MethodHandle" ∧ yL_setPoint.cls ≠ "java/lang/invoke/VarHandle" ∧ (parseMethodDescriptor yL_setPoint.desc).map (fun d => d.parameters.length) = some 3 := by decide +kernel
set_option maxHeartbeats 4000000 in
set_option maxRecDepth 100000 in
theorem c_L_setPoint {l : Launch} (hl : l.stackTraces = false) {Z : m_Z} {S S9 : m_S} {a0 : Nat} {p1 : Int32} {o9 : Nat} {r9 : Int32} (hf : f_L_setPoint Z S a0 p1 o9 = some (r9, S9)) : m_Cx l yL_setPoint (.codeWith yL_setPoint cL_setPoint 4 (some .int) [(0, 9, 12, 25)] :: m_ws) rm_L_setPoint 1 6 (fun f => [.ref a0, .int p1, .ref o9]) Z S (.ok (some (.int r9))) S9 := by
  unfold f_L_setPoint at hf
  refine m_entW hl (by decide) (fun _ => Nat.le_of_ble_eq_true rfl) (fun x C F T => ?_)
  have C : m_H x l RL cL_setPoint 4 rm_L_setPoint := C
  show m_G x Z S 4 0 0 0 [(0, .ref a0), (1, .int p1), (2, .ref o9)] []
  obtain ⟨g1, hf⟩ := m_gd_of hf
  refine r_aload_n (q := 1) C 2 dL_setPoint_0 rfl rfl ?_
  refine r_iconst (q := 2) (v := 0) C dL_setPoint_1 (by decide) rfl ?_
  refine r_aload_n (q := 3) C 0 dL_setPoint_2 rfl rfl ?_
  refine r_iload_n (q := 4) C 1 dL_setPoint_3 rfl rfl ?_
  split at hf
  · rename_i v h1
    obtain ⟨g2, hf⟩ := m_gd_of hf
    obtain ⟨g3, hf⟩ := m_gd_of hf
    obtain ⟨rfl, rfl⟩ := m_so2 hf
    refine x_okV (mcQ := 1) (msQ := 6) (retQ := none) (q := 7) (st1 := [.int v, .int 0, .ref o9]) C (c_X8_setPoint hl h1) rfl w_558 w_559 w_560 w_2 w_561 hd_X8_setPoint rfl (by decide) g1 rfl rfl rfl ⟨(Nat.le_of_ble_eq_true rfl), (Nat.le_of_ble_eq_true rfl)⟩ (Nat.le_of_ble_eq_true rfl) ⟨(Nat.le_of_ble_eq_true rfl), (Nat.le_of_ble_eq_true rfl)⟩ dL_setPoint_4 rfl (Nat.le_of_ble_eq_true rfl) (Nat.le_of_ble_eq_true rfl) rfl ?_
    refine r_i2l (q := 8) C dL_setPoint_7 rfl ?_
    refine r_last (q := 9) C dL_setPoint_8 ⟨g2, g3⟩ rfl ?_
    refine r_goto (t := 15) C dL_setPoint_9 (by decide) ?_
    refine r_iconst (q := 16) (v := 0) C dL_setPoint_15 (by decide) rfl ?_
    exact w_iret C F (Nat.le_of_ble_eq_true rfl) (Nat.le_of_ble_eq_true rfl) dL_setPoint_16
  · rename_i e h1
    by_cases e0 : e = "java/lang/IllegalArgumentException"
    · subst e0
      replace hf := m_if1 hf rfl
      obtain ⟨rfl, rfl⟩ := m_so2 hf
      refine x_thV C (c_X8_setPoint hl h1) rfl w_558 w_559 w_560 w_2 w_561 hd_X8_setPoint rfl (by decide) g1 rfl rfl rfl ⟨(Nat.le_of_ble_eq_true rfl), (Nat.le_of_ble_eq_true rfl)⟩ (Nat.le_of_ble_eq_true rfl) ⟨(Nat.le_of_ble_eq_true rfl), (Nat.le_of_ble_eq_true rfl)⟩ dL_setPoint_4 rfl rfl [(0, 9, 12, 25)] T ((tableOf [(0, 9, 12, 25)]).take 0) ((tableOf [(0, 9, 12, 25)]).drop 1) ((tableOf [(0, 9, 12, 25)])[0]) rfl (fun z hz => nomatch hz) (by decide) (by decide) w_301 (by decide +kernel) (hpc := 12) rfl (fun q9 => ?_)
      refine r_astore_n (q := 13) (L' := [(3, .ref q9), (0, .ref a0), (1, .int p1), (2, .ref o9)]) C dL_setPoint_12 rfl rfl (by decide) rfl ?_
      refine r_iconst (q := 14) (v := 1) C dL_setPoint_13 (by decide) rfl ?_
      exact w_iret C F (Nat.le_of_ble_eq_true rfl) (Nat.le_of_ble_eq_true rfl) dL_setPoint_14
    · skip
      replace hf := m_if0 hf e0; cases hf
  · cases hf
def f_L_setSafe (Z : m_Z) (S : m_S) (a0 : Nat) (p1 : Int32) (p2 : Int32) (p3 : Int32) : Option (Int32 × m_S) := m_gd (m_ok Z a0 8) (match f_X8_setSafe Z S a0 p1 p2 p3 with
  | some (.ok v, S1) => some (0, S1)
  | some (.error e, S1) => (if e = "java/lang/IndexOutOfBoundsException" then some (1, S1) else (if e = "java/lang/IllegalArgumentException" then some (2, S1) else none))
  | none => none)
abbrev rm_L_setSafe : Room := { frames := 8, cells := 4, slots := 24, locals := 127 }
theorem hd_L_setSafe : yL_setSafe.cls ≠ "java/lang/invoke/MethodHandle" ∧ yL_setSafe.cls ≠ "java/lang/invoke/VarHandle" ∧ (parseMethodDescriptor yL_setSafe.desc).map (fun d => d.parameters.length) = some 4 := by decide +kernel
set_option maxHeartbeats 4000000 in
set_option maxRecDepth 100000 in
theorem c_L_setSafe {l : Launch} (hl : l.stackTraces = false) {Z : m_Z} {S S9 : m_S} {a0 : Nat} {p1 : Int32} {p2 : Int32} {p3 : Int32} {r9 : Int32} (hf : f_L_setSafe Z S a0 p1 p2 p3 = some (r9, S9)) : m_Cx l yL_setSafe (.codeWith yL_setSafe cL_setSafe 5 (some .int) [(0, 7, 10, 19), (0, 7, 14, 25)] :: m_ws) rm_L_setSafe 4 24 (fun f => [.ref a0, .int p1, .int p2, .int p3]) Z S (.ok (some (.int r9))) S9 := by
  unfold f_L_setSafe at hf
  refine m_entW hl (by decide) (fun _ => Nat.le_of_ble_eq_true rfl) (fun x C F T => ?_)
  have C : m_H x l RL cL_setSafe 5 rm_L_setSafe := C
  show m_G x Z S 5 0 0 0 [(0, .ref a0), (1, .int p1), (2, .int p2), (3, .int p3)] []
  obtain ⟨g1, hf⟩ := m_gd_of hf
  refine r_aload_n (q := 1) C 0 dL_setSafe_0 rfl rfl ?_
  refine r_iload_n (q := 2) C 1 dL_setSafe_1 rfl rfl ?_
  refine r_iload_n (q := 3) C 2 dL_setSafe_2 rfl rfl ?_
  refine r_iload_n (q := 4) C 3 dL_setSafe_3 rfl rfl ?_
  split at hf
  · rename_i v S1 h1
    obtain ⟨rfl, rfl⟩ := m_so2 hf
    refine x_okV (mcQ := 4) (msQ := 24) (retQ := none) (q := 7) (st1 := []) C (c_X8_setSafe hl h1) rfl w_681 w_682 w_683 w_2 w_684 hd_X8_setSafe rfl (by decide) g1 rfl rfl rfl ⟨(Nat.le_of_ble_eq_true rfl), (Nat.le_of_ble_eq_true rfl)⟩ (Nat.le_of_ble_eq_true rfl) ⟨(Nat.le_of_ble_eq_true rfl), (Nat.le_of_ble_eq_true rfl)⟩ dL_setSafe_4 rfl (Nat.le_of_ble_eq_true rfl) (Nat.le_of_ble_eq_true rfl) rfl ?_
    refine r_goto (t := 18) C dL_setSafe_7 (by decide) ?_
    refine r_iconst (q := 19) (v := 0) C dL_setSafe_18 (by decide) rfl ?_
    exact w_iret C F (Nat.le_of_ble_eq_true rfl) (Nat.le_of_ble_eq_true rfl) dL_setSafe_19
  · rename_i e S1 h1
    by_cases e0 : e = "java/lang/IndexOutOfBoundsException"
    · subst e0
      replace hf := m_if1 hf rfl
      obtain ⟨rfl, rfl⟩ := m_so2 hf
      refine x_thV C (c_X8_setSafe hl h1) rfl w_681 w_682 w_683 w_2 w_684 hd_X8_setSafe rfl (by decide) g1 rfl rfl rfl ⟨(Nat.le_of_ble_eq_true rfl), (Nat.le_of_ble_eq_true rfl)⟩ (Nat.le_of_ble_eq_true rfl) ⟨(Nat.le_of_ble_eq_true rfl), (Nat.le_of_ble_eq_true rfl)⟩ dL_setSafe_4 rfl rfl [(0, 7, 10, 19), (0, 7, 14, 25)] T ((tableOf [(0, 7, 10, 19), (0, 7, 14, 25)]).take 0) ((tableOf [(0, 7, 10, 19), (0, 7, 14, 25)]).drop 1) ((tableOf [(0, 7, 10, 19), (0, 7, 14, 25)])[0]) rfl (fun z hz => nomatch hz) (by decide) (by decide) w_280 (by decide +kernel) (hpc := 10) rfl (fun q9 => ?_)
      refine r_astore (q := 12) (L' := [(4, .ref q9), (0, .ref a0), (1, .int p1), (2, .int p2), (3, .int p3)]) C dL_setSafe_10 rfl (by decide) rfl ?_
      refine r_iconst (q := 13) (v := 1) C dL_setSafe_12 (by decide) rfl ?_
      exact w_iret C F (Nat.le_of_ble_eq_true rfl) (Nat.le_of_ble_eq_true rfl) dL_setSafe_13
    · skip
      by_cases e1 : e = "java/lang/IllegalArgumentException"
      · subst e1
        replace hf := m_if0 hf (by decide); replace hf := m_if1 hf rfl
        obtain ⟨rfl, rfl⟩ := m_so2 hf
        refine x_thV C (c_X8_setSafe hl h1) rfl w_681 w_682 w_683 w_2 w_684 hd_X8_setSafe rfl (by decide) g1 rfl rfl rfl ⟨(Nat.le_of_ble_eq_true rfl), (Nat.le_of_ble_eq_true rfl)⟩ (Nat.le_of_ble_eq_true rfl) ⟨(Nat.le_of_ble_eq_true rfl), (Nat.le_of_ble_eq_true rfl)⟩ dL_setSafe_4 rfl rfl [(0, 7, 10, 19), (0, 7, 14, 25)] T ((tableOf [(0, 7, 10, 19), (0, 7, 14, 25)]).take 1) ((tableOf [(0, 7, 10, 19), (0, 7, 14, 25)]).drop 2) ((tableOf [(0, 7, 10, 19), (0, 7, 14, 25)])[1]) rfl (by
          intro z hz
          simp only [tableOf, List.map, List.take, List.mem_cons, List.not_mem_nil, or_false] at hz
          rcases hz with rfl
          · exact Or.inr ⟨by decide, "java/lang/IndexOutOfBoundsException", w_280, by decide +kernel⟩) (by decide) (by decide) w_301 (by decide +kernel) (hpc := 14) rfl (fun q9 => ?_)
        refine r_astore (q := 16) (L' := [(4, .ref q9), (0, .ref a0), (1, .int p1), (2, .int p2), (3, .int p3)]) C dL_setSafe_14 rfl (by decide) rfl ?_
        refine r_iconst (q := 17) (v := 2) C dL_setSafe_16 (by decide) rfl ?_
        exact w_iret C F (Nat.le_of_ble_eq_true rfl) (Nat.le_of_ble_eq_true rfl) dL_setSafe_17
      · skip
        replace hf := m_if0 hf e0; replace hf := m_if0 hf e1; cases hf
  · cases hf
def f_L_swing (Z : m_Z) (S : m_S) (a0 : Nat) (p1 : Int32) (o9 : Nat) : Option (Int32 × m_S) := m_gd (m_ok Z a0 8) (match f_X8_swing Z S a0 p1 with
  | some (.ok v) => m_gd (m_ok Z o9 12) (m_gd (m_in 0 (Z.2.2 o9)) (some (0, m_pJ S o9 (0 : Int32).toNatClampNeg (v.toInt64))))
  | some (.error e) => (if e = "java/lang/IndexOutOfBoundsException" then some (1, S) else (if e = "java/util/NoSuchElementException" then some (2, S) else none))
  | none => none)
abbrev rm_L_swing : Room := { frames := 8, cells := 2, slots := 12, locals := 125 }
theorem hd_L_swing : yL_swing.cls ≠ "java/lang/invoke/MethodHandle" ∧ yL_swing.cls ≠ "java/lang/invoke/VarHandle" ∧ (parseMethodDescriptor yL_swing.desc).map (fun d => d.parameters.length) = some 3 := by decide +kernel
set_option maxHeartbeats 4000000 in
set_option maxRecDepth 100000 in
theorem c_L_swing {l : Launch} (hl : l.stackTraces = false) {Z : m_Z} {S S9 : m_S} {a0 : Nat} {p1 : Int32} {o9 : Nat} {r9 : Int32} (hf : f_L_swing Z S a0 p1 o9 = some (r9, S9)) : m_Cx l yL_swing (.codeWith yL_swing cL_swing 4 (some .int) [(0, 9, 12, 19), (0, 9, 15, 53)] :: m_ws) rm_L_swing 2 12 (fun f => [.ref a0, .int p1, .ref o9]) Z S (.ok (some (.int r9))) S9 := by
  unfold f_L_swing at hf
  refine m_entW hl (by decide) (fun _ => Nat.le_of_ble_eq_true rfl) (fun x C F T => ?_)
  have C : m_H x l RL cL_swing 4 rm_L_swing := C
  show m_G x Z S 4 0 0 0 [(0, .ref a0), (1, .int p1), (2, .ref o9)] []
  obtain ⟨g1, hf⟩ := m_gd_of hf
  refine r_aload_n (q := 1) C 2 dL_swing_0 rfl rfl ?_
  refine r_iconst (q := 2) (v := 0) C dL_swing_1 (by decide) rfl ?_
  refine r_aload_n (q := 3) C 0 dL_swing_2 rfl rfl ?_
  refine r_iload_n (q := 4) C 1 dL_swing_3 rfl rfl ?_
  split at hf
  · rename_i v h1
    obtain ⟨g2, hf⟩ := m_gd_of hf
    obtain ⟨g3, hf⟩ := m_gd_of hf
    obtain ⟨rfl, rfl⟩ := m_so2 hf
    refine x_okV (mcQ := 2) (msQ := 12) (retQ := none) (q := 7) (st1 := [.int v, .int 0, .ref o9]) C (c_X8_swing hl h1) rfl w_646 w_647 w_648 w_2 w_649 hd_X8_swing rfl (by decide) g1 rfl rfl rfl ⟨(Nat.le_of_ble_eq_true rfl), (Nat.le_of_ble_eq_true rfl)⟩ (Nat.le_of_ble_eq_true rfl) ⟨(Nat.le_of_ble_eq_true rfl), (Nat.le_of_ble_eq_true rfl)⟩ dL_swing_4 rfl (Nat.le_of_ble_eq_true rfl) (Nat.le_of_ble_eq_true rfl) rfl ?_
    refine r_i2l (q := 8) C dL_swing_7 rfl ?_
    refine r_last (q := 9) C dL_swing_8 ⟨g2, g3⟩ rfl ?_
    refine r_goto (t := 18) C dL_swing_9 (by decide) ?_
    refine r_iconst (q := 19) (v := 0) C dL_swing_18 (by decide) rfl ?_
    exact w_iret C F (Nat.le_of_ble_eq_true rfl) (Nat.le_of_ble_eq_true rfl) dL_swing_19
  · rename_i e h1
    by_cases e0 : e = "java/lang/IndexOutOfBoundsException"
    · subst e0
      replace hf := m_if1 hf rfl
      obtain ⟨rfl, rfl⟩ := m_so2 hf
      refine x_thV C (c_X8_swing hl h1) rfl w_646 w_647 w_648 w_2 w_649 hd_X8_swing rfl (by decide) g1 rfl rfl rfl ⟨(Nat.le_of_ble_eq_true rfl), (Nat.le_of_ble_eq_true rfl)⟩ (Nat.le_of_ble_eq_true rfl) ⟨(Nat.le_of_ble_eq_true rfl), (Nat.le_of_ble_eq_true rfl)⟩ dL_swing_4 rfl rfl [(0, 9, 12, 19), (0, 9, 15, 53)] T ((tableOf [(0, 9, 12, 19), (0, 9, 15, 53)]).take 0) ((tableOf [(0, 9, 12, 19), (0, 9, 15, 53)]).drop 1) ((tableOf [(0, 9, 12, 19), (0, 9, 15, 53)])[0]) rfl (fun z hz => nomatch hz) (by decide) (by decide) w_280 (by decide +kernel) (hpc := 12) rfl (fun q9 => ?_)
      refine r_astore_n (q := 13) (L' := [(3, .ref q9), (0, .ref a0), (1, .int p1), (2, .ref o9)]) C dL_swing_12 rfl rfl (by decide) rfl ?_
      refine r_iconst (q := 14) (v := 1) C dL_swing_13 (by decide) rfl ?_
      exact w_iret C F (Nat.le_of_ble_eq_true rfl) (Nat.le_of_ble_eq_true rfl) dL_swing_14
    · skip
      by_cases e1 : e = "java/util/NoSuchElementException"
      · subst e1
        replace hf := m_if0 hf (by decide); replace hf := m_if1 hf rfl
        obtain ⟨rfl, rfl⟩ := m_so2 hf
        refine x_thV C (c_X8_swing hl h1) rfl w_646 w_647 w_648 w_2 w_649 hd_X8_swing rfl (by decide) g1 rfl rfl rfl ⟨(Nat.le_of_ble_eq_true rfl), (Nat.le_of_ble_eq_true rfl)⟩ (Nat.le_of_ble_eq_true rfl) ⟨(Nat.le_of_ble_eq_true rfl), (Nat.le_of_ble_eq_true rfl)⟩ dL_swing_4 rfl rfl [(0, 9, 12, 19), (0, 9, 15, 53)] T ((tableOf [(0, 9, 12, 19), (0, 9, 15, 53)]).take 1) ((tableOf [(0, 9, 12, 19), (0, 9, 15, 53)]).drop 2) ((tableOf [(0, 9, 12, 19), (0, 9, 15, 53)])[1]) rfl (by
          intro z hz
          simp only [tableOf, List.map, List.take, List.mem_cons, List.not_mem_nil, or_false] at hz
          rcases hz with rfl
          · exact Or.inr ⟨by decide, "java/lang/IndexOutOfBoundsException", w_280, by decide +kernel⟩) (by decide) (by decide) w_621 (by decide +kernel) (hpc := 15) rfl (fun q9 => ?_)
        refine r_astore_n (q := 16) (L' := [(3, .ref q9), (0, .ref a0), (1, .int p1), (2, .ref o9)]) C dL_swing_15 rfl rfl (by decide) rfl ?_
        refine r_iconst (q := 17) (v := 2) C dL_swing_16 (by decide) rfl ?_
        exact w_iret C F (Nat.le_of_ble_eq_true rfl) (Nat.le_of_ble_eq_true rfl) dL_swing_17
      · skip
        replace hf := m_if0 hf e0; replace hf := m_if0 hf e1; cases hf
  · cases hf
def f_L_truncate (Z : m_Z) (S : m_S) (a0 : Nat) (p1 : Int32) (o9 : Nat) : Option (Int32 × m_S) := m_gd (m_ok Z a0 8) (match f_X8_truncate Z S a0 p1 with
  | some (.ok v, S1) => m_gd (m_ok Z o9 12) (m_gd (m_in 0 (Z.2.2 o9)) (some (0, m_pJ S1 o9 (0 : Int32).toNatClampNeg (v.toInt64))))
  | some (.error e, S1) => (if e = "java/lang/IndexOutOfBoundsException" then some (1, S1) else none)
  | none => none)
abbrev rm_L_truncate : Room := { frames := 7, cells := 1, slots := 6, locals := 103 }
theorem hd_L_truncate : yL_truncate.cls ≠ "java/lang/invoke/MethodHandle" ∧ yL_truncate.cls ≠ "java/lang/invoke/VarHandle" ∧ (parseMethodDescriptor yL_truncate.desc).map (fun d => d.parameters.length) = some 3 := by decide +kernel
set_option maxHeartbeats 4000000 in
set_option maxRecDepth 100000 in
theorem c_L_truncate {l : Launch} (hl : l.stackTraces = false) {Z : m_Z} {S S9 : m_S} {a0 : Nat} {p1 : Int32} {o9 : Nat} {r9 : Int32} (hf : f_L_truncate Z S a0 p1 o9 = some (r9, S9)) : m_Cx l yL_truncate (.codeWith yL_truncate cL_truncate 4 (some .int) [(0, 9, 12, 19)] :: m_ws) rm_L_truncate 1 6 (fun f => [.ref a0, .int p1, .ref o9]) Z S (.ok (some (.int r9))) S9 := by
  unfold f_L_truncate at hf
  refine m_entW hl (by decide) (fun _ => Nat.le_of_ble_eq_true rfl) (fun x C F T => ?_)
  have C : m_H x l RL cL_truncate 4 rm_L_truncate := C
  show m_G x Z S 4 0 0 0 [(0, .ref a0), (1, .int p1), (2, .ref o9)] []
  obtain ⟨g1, hf⟩ := m_gd_of hf
  refine r_aload_n (q := 1) C 2 dL_truncate_0 rfl rfl ?_
  refine r_iconst (q := 2) (v := 0) C dL_truncate_1 (by decide) rfl ?_
  refine r_aload_n (q := 3) C 0 dL_truncate_2 rfl rfl ?_
  refine r_iload_n (q := 4) C 1 dL_truncate_3 rfl rfl ?_
  split at hf
  · rename_i v S1 h1
    obtain ⟨g2, hf⟩ := m_gd_of hf
    obtain ⟨g3, hf⟩ := m_gd_of hf
    obtain ⟨rfl, rfl⟩ := m_so2 hf
    refine x_okV (mcQ := 1) (msQ := 6) (retQ := none) (q := 7) (st1 := [.int v, .int 0, .ref o9]) C (c_X8_truncate hl h1) rfl w_281 w_282 w_283 w_2 w_284 hd_X8_truncate rfl (by decide) g1 rfl rfl rfl ⟨(Nat.le_of_ble_eq_true rfl), (Nat.le_of_ble_eq_true rfl)⟩ (Nat.le_of_ble_eq_true rfl) ⟨(Nat.le_of_ble_eq_true rfl), (Nat.le_of_ble_eq_true rfl)⟩ dL_truncate_4 rfl (Nat.le_of_ble_eq_true rfl) (Nat.le_of_ble_eq_true rfl) rfl ?_
    refine r_i2l (q := 8) C dL_truncate_7 rfl ?_
    refine r_last (q := 9) C dL_truncate_8 ⟨g2, g3⟩ rfl ?_
    refine r_goto (t := 15) C dL_truncate_9 (by decide) ?_
    refine r_iconst (q := 16) (v := 0) C dL_truncate_15 (by decide) rfl ?_
    exact w_iret C F (Nat.le_of_ble_eq_true rfl) (Nat.le_of_ble_eq_true rfl) dL_truncate_16
  · rename_i e S1 h1
    by_cases e0 : e = "java/lang/IndexOutOfBoundsException"
    · subst e0
      replace hf := m_if1 hf rfl
      obtain ⟨rfl, rfl⟩ := m_so2 hf
      refine x_thV C (c_X8_truncate hl h1) rfl w_281 w_282 w_283 w_2 w_284 hd_X8_truncate rfl (by decide) g1 rfl rfl rfl ⟨(Nat.le_of_ble_eq_true rfl), (Nat.le_of_ble_eq_true rfl)⟩ (Nat.le_of_ble_eq_true rfl) ⟨(Nat.le_of_ble_eq_true rfl), (Nat.le_of_ble_eq_true rfl)⟩ dL_truncate_4 rfl rfl [(0, 9, 12, 19)] T ((tableOf [(0, 9, 12, 19)]).take 0) ((tableOf [(0, 9, 12, 19)]).drop 1) ((tableOf [(0, 9, 12, 19)])[0]) rfl (fun z hz => nomatch hz) (by decide) (by decide) w_280 (by decide +kernel) (hpc := 12) rfl (fun q9 => ?_)
      refine r_astore_n (q := 13) (L' := [(3, .ref q9), (0, .ref a0), (1, .int p1), (2, .ref o9)]) C dL_truncate_12 rfl rfl (by decide) rfl ?_
      refine r_iconst (q := 14) (v := 1) C dL_truncate_13 (by decide) rfl ?_
      exact w_iret C F (Nat.le_of_ble_eq_true rfl) (Nat.le_of_ble_eq_true rfl) dL_truncate_14
    · skip
      replace hf := m_if0 hf e0; cases hf
  · cases hf
def f_L_unsafeIn (Z : m_Z) (S : m_S) (a0 : Nat) (p1 : Int32) (o9 : Nat) : Option (Int32 × m_S) := m_gd (m_ok Z a0 8) (match f_X8_unsafeIn Z S a0 p1 with
  | some (.ok v, S1) => m_gd (m_ok Z o9 12) (m_gd (m_in 0 (Z.2.2 o9)) (some (0, m_pJ S1 o9 (0 : Int32).toNatClampNeg (v.toInt64))))
  | some (.error e, S1) => (if e = "java/lang/IndexOutOfBoundsException" then some (1, S1) else none)
  | none => none)
abbrev rm_L_unsafeIn : Room := { frames := 8, cells := 1, slots := 6, locals := 138 }
theorem hd_L_unsafeIn : yL_unsafeIn.cls ≠ "java/lang/invoke/MethodHandle" ∧ yL_unsafeIn.cls ≠ "java/lang/invoke/VarHandle" ∧ (parseMethodDescriptor yL_unsafeIn.desc).map (fun d => d.parameters.length) = some 3 := by decide +kernel
set_option maxHeartbeats 4000000 in
set_option maxRecDepth 100000 in
theorem c_L_unsafeIn {l : Launch} (hl : l.stackTraces = false) {Z : m_Z} {S S9 : m_S} {a0 : Nat} {p1 : Int32} {o9 : Nat} {r9 : Int32} (hf : f_L_unsafeIn Z S a0 p1 o9 = some (r9, S9)) : m_Cx l yL_unsafeIn (.codeWith yL_unsafeIn cL_unsafeIn 4 (some .int) [(0, 9, 12, 19)] :: m_ws) rm_L_unsafeIn 1 6 (fun f => [.ref a0, .int p1, .ref o9]) Z S (.ok (some (.int r9))) S9 := by
  unfold f_L_unsafeIn at hf
  refine m_entW hl (by decide) (fun _ => Nat.le_of_ble_eq_true rfl) (fun x C F T => ?_)
  have C : m_H x l RL cL_unsafeIn 4 rm_L_unsafeIn := C
  show m_G x Z S 4 0 0 0 [(0, .ref a0), (1, .int p1), (2, .ref o9)] []
  obtain ⟨g1, hf⟩ := m_gd_of hf
  refine r_aload_n (q := 1) C 2 dL_unsafeIn_0 rfl rfl ?_
  refine r_iconst (q := 2) (v := 0) C dL_unsafeIn_1 (by decide) rfl ?_
  refine r_aload_n (q := 3) C 0 dL_unsafeIn_2 rfl rfl ?_
  refine r_iload_n (q := 4) C 1 dL_unsafeIn_3 rfl rfl ?_
  split at hf
  · rename_i v S1 h1
    obtain ⟨g2, hf⟩ := m_gd_of hf
    obtain ⟨g3, hf⟩ := m_gd_of hf
    obtain ⟨rfl, rfl⟩ := m_so2 hf
    refine x_okV (mcQ := 1) (msQ := 6) (retQ := none) (q := 7) (st1 := [.int v, .int 0, .ref o9]) C (c_X8_unsafeIn hl h1) rfl w_854 w_855 w_856 w_2 w_857 hd_X8_unsafeIn rfl (by decide) g1 rfl rfl rfl ⟨(Nat.le_of_ble_eq_true rfl), (Nat.le_of_ble_eq_true rfl)⟩ (Nat.le_of_ble_eq_true rfl) ⟨(Nat.le_of_ble_eq_true rfl), (Nat.le_of_ble_eq_true rfl)⟩ dL_unsafeIn_4 rfl (Nat.le_of_ble_eq_true rfl) (Nat.le_of_ble_eq_true rfl) rfl ?_
    refine r_i2l (q := 8) C dL_unsafeIn_7 rfl ?_
    refine r_last (q := 9) C dL_unsafeIn_8 ⟨g2, g3⟩ rfl ?_
    refine r_goto (t := 15) C dL_unsafeIn_9 (by decide) ?_
    refine r_iconst (q := 16) (v := 0) C dL_unsafeIn_15 (by decide) rfl ?_
    exact w_iret C F (Nat.le_of_ble_eq_true rfl) (Nat.le_of_ble_eq_true rfl) dL_unsafeIn_16
  · rename_i e S1 h1
    by_cases e0 : e = "java/lang/IndexOutOfBoundsException"
    · subst e0
      replace hf := m_if1 hf rfl
      obtain ⟨rfl, rfl⟩ := m_so2 hf
      refine x_thV C (c_X8_unsafeIn hl h1) rfl w_854 w_855 w_856 w_2 w_857 hd_X8_unsafeIn rfl (by decide) g1 rfl rfl rfl ⟨(Nat.le_of_ble_eq_true rfl), (Nat.le_of_ble_eq_true rfl)⟩ (Nat.le_of_ble_eq_true rfl) ⟨(Nat.le_of_ble_eq_true rfl), (Nat.le_of_ble_eq_true rfl)⟩ dL_unsafeIn_4 rfl rfl [(0, 9, 12, 19)] T ((tableOf [(0, 9, 12, 19)]).take 0) ((tableOf [(0, 9, 12, 19)]).drop 1) ((tableOf [(0, 9, 12, 19)])[0]) rfl (fun z hz => nomatch hz) (by decide) (by decide) w_280 (by decide +kernel) (hpc := 12) rfl (fun q9 => ?_)
      refine r_astore_n (q := 13) (L' := [(3, .ref q9), (0, .ref a0), (1, .int p1), (2, .ref o9)]) C dL_unsafeIn_12 rfl rfl (by decide) rfl ?_
      refine r_iconst (q := 14) (v := 1) C dL_unsafeIn_13 (by decide) rfl ?_
      exact w_iret C F (Nat.le_of_ble_eq_true rfl) (Nat.le_of_ble_eq_true rfl) dL_unsafeIn_14
    · skip
      replace hf := m_if0 hf e0; cases hf
  · cases hf
def f_L_visitors (Z : m_Z) (S : m_S) (a0 : Nat) (p1 : Int32) (o9 : Nat) : Option (Int32 × m_S) := m_gd (m_ok Z a0 8) (match f_X8_visitors Z S a0 p1 with
  | some (.ok v) => m_gd (m_ok Z o9 12) (m_gd (m_in 0 (Z.2.2 o9)) (some (0, m_pJ S o9 (0 : Int32).toNatClampNeg (v.toInt64))))
  | some (.error e) => (if e = "java/lang/IllegalArgumentException" then some (1, S) else none)
  | none => none)
abbrev rm_L_visitors : Room := { frames := 7, cells := 1, slots := 6, locals := 103 }
theorem hd_L_visitors : yL_visitors.cls ≠ "java/lang/invoke/MethodHandle" ∧ yL_visitors.cls ≠ "java/lang/invoke/VarHandle" ∧ (parseMethodDescriptor yL_visitors.desc).map (fun d => d.parameters.length) = some 3 := by decide +kernel
set_option maxHeartbeats 4000000 in
set_option maxRecDepth 100000 in
theorem c_L_visitors {l : Launch} (hl : l.stackTraces = false) {Z : m_Z} {S S9 : m_S} {a0 : Nat} {p1 : Int32} {o9 : Nat} {r9 : Int32} (hf : f_L_visitors Z S a0 p1 o9 = some (r9, S9)) : m_Cx l yL_visitors (.codeWith yL_visitors cL_visitors 4 (some .int) [(0, 9, 12, 25)] :: m_ws) rm_L_visitors 1 6 (fun f => [.ref a0, .int p1, .ref o9]) Z S (.ok (some (.int r9))) S9 := by
  unfold f_L_visitors at hf
  refine m_entW hl (by decide) (fun _ => Nat.le_of_ble_eq_true rfl) (fun x C F T => ?_)
  have C : m_H x l RL cL_visitors 4 rm_L_visitors := C
  show m_G x Z S 4 0 0 0 [(0, .ref a0), (1, .int p1), (2, .ref o9)] []
  obtain ⟨g1, hf⟩ := m_gd_of hf
  refine r_aload_n (q := 1) C 2 dL_visitors_0 rfl rfl ?_
  refine r_iconst (q := 2) (v := 0) C dL_visitors_1 (by decide) rfl ?_
  refine r_aload_n (q := 3) C 0 dL_visitors_2 rfl rfl ?_
  refine r_iload_n (q := 4) C 1 dL_visitors_3 rfl rfl ?_
  split at hf
  · rename_i v h1
    obtain ⟨g2, hf⟩ := m_gd_of hf
    obtain ⟨g3, hf⟩ := m_gd_of hf
    obtain ⟨rfl, rfl⟩ := m_so2 hf
    refine x_okV (mcQ := 1) (msQ := 6) (retQ := none) (q := 7) (st1 := [.int v, .int 0, .ref o9]) C (c_X8_visitors hl h1) rfl w_566 w_567 w_568 w_2 w_569 hd_X8_visitors rfl (by decide) g1 rfl rfl rfl ⟨(Nat.le_of_ble_eq_true rfl), (Nat.le_of_ble_eq_true rfl)⟩ (Nat.le_of_ble_eq_true rfl) ⟨(Nat.le_of_ble_eq_true rfl), (Nat.le_of_ble_eq_true rfl)⟩ dL_visitors_4 rfl (Nat.le_of_ble_eq_true rfl) (Nat.le_of_ble_eq_true rfl) rfl ?_
    refine r_i2l (q := 8) C dL_visitors_7 rfl ?_
    refine r_last (q := 9) C dL_visitors_8 ⟨g2, g3⟩ rfl ?_
    refine r_goto (t := 15) C dL_visitors_9 (by decide) ?_
    refine r_iconst (q := 16) (v := 0) C dL_visitors_15 (by decide) rfl ?_
    exact w_iret C F (Nat.le_of_ble_eq_true rfl) (Nat.le_of_ble_eq_true rfl) dL_visitors_16
  · rename_i e h1
    by_cases e0 : e = "java/lang/IllegalArgumentException"
    · subst e0
      replace hf := m_if1 hf rfl
      obtain ⟨rfl, rfl⟩ := m_so2 hf
      refine x_thV C (c_X8_visitors hl h1) rfl w_566 w_567 w_568 w_2 w_569 hd_X8_visitors rfl (by decide) g1 rfl rfl rfl ⟨(Nat.le_of_ble_eq_true rfl), (Nat.le_of_ble_eq_true rfl)⟩ (Nat.le_of_ble_eq_true rfl) ⟨(Nat.le_of_ble_eq_true rfl), (Nat.le_of_ble_eq_true rfl)⟩ dL_visitors_4 rfl rfl [(0, 9, 12, 25)] T ((tableOf [(0, 9, 12, 25)]).take 0) ((tableOf [(0, 9, 12, 25)]).drop 1) ((tableOf [(0, 9, 12, 25)])[0]) rfl (fun z hz => nomatch hz) (by decide) (by decide) w_301 (by decide +kernel) (hpc := 12) rfl (fun q9 => ?_)
      refine r_astore_n (q := 13) (L' := [(3, .ref q9), (0, .ref a0), (1, .int p1), (2, .ref o9)]) C dL_visitors_12 rfl rfl (by decide) rfl ?_
      refine r_iconst (q := 14) (v := 1) C dL_visitors_13 (by decide) rfl ?_
      exact w_iret C F (Nat.le_of_ble_eq_true rfl) (Nat.le_of_ble_eq_true rfl) dL_visitors_14
    · skip
      replace hf := m_if0 hf e0; cases hf
  · cases hf
