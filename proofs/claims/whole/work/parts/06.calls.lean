section RUNS
variable {p : Program} {l : Launch} {e : Env} {R : Room} {s : State} {m : MethodId} {args : Array Value} {below : List Frame} {meth : Method} {c : Code} {H : Heap} {locs : List Loc} {cells slots : Nat} {Q : State → Prop}
variable {pc : Nat} {ls : Array Slot} {rest st0 : List Value} {a : Array Value} {A0 A1 : Nat → Prop} {H0 : Heap} {mc ms : Nat} {free : Addr → Prop}
/-- behind a call that returns -/
theorem m_run {E : m_E} {v : Option Value} {Z : m_Z} {S : m_S} (hr : va_Run p l e R s m args below meth c H locs cells slots mc ms (F0 m pc ls st0) rest (m_post E v Z S H.size a) free) (hS : va_S A0 H0 H locs) (hA : ∀ q, q < H.size → m_A Z H.size q → A0 q) (hf : ∀ q, free q → A0 q)
    (kk : ∀ (H1 : Heap) (locs1 : List Loc), va_P E.1 vwCl (m_w E Z S) H1 → va_S A0 H0 H1 locs1 → W p l e R s m args below meth c H1 locs1 (cells + mc) (slots + ms) Q (F0 m (pc + 3) ls (v.toList ++ rest))) : W p l e R s m args below meth c H locs cells slots Q (F0 m pc ls st0) := by
  intro T hT X
  obtain ⟨v', st₀, t, T', L, h0, X', hL, e1, e2, ⟨⟨hv, hb⟩, hz, hk⟩, st⟩ := hr T hT X
  cases hv
  rw [h0] at hz hk
  obtain ⟨t2, a1, b1⟩ := kk T'.heap (locs ++ L) (by rw [e1]; exact hb)
    ⟨Nat.le_trans hS.1 (by rw [e1]; exact hz), fun q h1 h2 => by rw [e1, hk q (Nat.lt_of_lt_of_le h1 hS.1) (fun z => h2 (hA q (Nat.lt_of_lt_of_le h1 hS.1) z))]; exact hS.2.1 q h1 h2, fun q hq => by
      rcases List.mem_append.mp hq with h | h
      · exact hS.2.2 q h
      · exact hf _ (hL q h)⟩ T' rfl X'
  exact ⟨t2, st t2 a1, b1⟩
/-- behind a call that may throw -/
theorem m_runX {E : m_E} {r : Except String (Option Value)} {Z : m_Z} {S : m_S} (hr : vx_Run p l e R s m args below meth c H locs cells slots mc ms (F0 m pc ls st0) rest (fun st o t => ∃ v, r = .ok v ∧ m_post E v Z S H.size a st o t) (fun X st t => ∃ e, r = .error e ∧ m_XC E e Z S H.size X st t) free) (hS : va_S A0 H0 H locs) (hA : ∀ q, q < H.size → m_A Z H.size q → A0 q) (hf : ∀ q, free q → A0 q)
    (kx : ∀ (X : String) (ce : Cell) (q9 : Addr) (H1 : Heap) (locs1 : List Loc), r = .error X → va_P E.1 vwCl (m_w E Z S) H1 → va_S A0 H0 H1 locs1 → H1[q9]? = some ce → ce.vm = .none → s.vm.findClass X = some ce.cls → vx_W p l e R s m args below meth c H1 locs1 (cells + mc) (slots + ms) Q (F0 m pc ls rest) q9)
    (kk : ∀ (v : Option Value) (H1 : Heap) (locs1 : List Loc), r = .ok v → va_P E.1 vwCl (m_w E Z S) H1 → va_S A0 H0 H1 locs1 → W p l e R s m args below meth c H1 locs1 (cells + mc) (slots + ms) Q (F0 m (pc + 3) ls (v.toList ++ rest))) : W p l e R s m args below meth c H locs cells slots Q (F0 m pc ls st0) := by
  intro T hT X
  have keep : ∀ (t T' : State) (L : List Loc) (st₀ : State), st₀.heap = H → T'.heap = t.heap → (∀ q ∈ L, free q.base) → va_F (m_A Z H.size) st₀ t → va_S A0 H0 T'.heap (locs ++ L) := fun t T' L st₀ h0 e1 hL hF => (vx_keep h0 e1 hS hA hf hL hF).2.2
  rcases hr T hT X with ⟨v', st₀, t, T', L, h0, X', hL, e1, e2, ⟨v, hv, ⟨hv2, hb⟩, hF⟩, st⟩ | ⟨q, st₀, t, T', L, X9, ce, h0, X', hL, e1, e2, ⟨e9, he9, ⟨hX9, hb⟩, hF⟩, hce, hcv, hcl, st⟩
  · cases hv2
    obtain ⟨t2, a1, b1⟩ := kk v' T'.heap (locs ++ L) hv (by rw [e1]; exact hb) (keep t T' L st₀ h0 e1 hL hF) T' rfl X'
    exact ⟨t2, st t2 a1, b1⟩
  · subst hX9
    obtain ⟨t2, a1, b1⟩ := kx X9 ce q T'.heap (locs ++ L) he9 (by rw [e1]; exact hb) (keep t T' L st₀ h0 e1 hL hF) (by rw [e1]; exact hce) hcv hcl T' rfl X'
    exact ⟨t2, st.trans a1, b1⟩
end RUNS
theorem m_goodV {own C : String} {idx : Nat} {y : MethodName} {cd : Cond} (w1 : Cond.methodLink own idx y ∈ m_ws) (w2 : Cond.instanceMethod y ∈ m_ws) (w3 : Cond.selects C y y ∈ m_ws) (w4 : Cond.initialized C ∈ m_ws) (w5 : cd ∈ m_ws) : GoodIn m_ws (wsV own idx C y (cd :: m_ws)) := by
  intro w h
  unfold wsV at h
  simp only [List.cons_append, List.nil_append, List.mem_cons] at h
  rcases h with rfl | rfl | rfl | rfl | rfl | h
  · exact m_ws_good w1
  · exact m_ws_good w2
  · exact m_ws_good w3
  · exact m_ws_good w4
  · exact m_ws_good w5
  · exact m_ws_good h
theorem m_goodS {own : String} {idx : Nat} {y : MethodName} {cd : Cond} (w1 : Cond.methodLink own idx y ∈ m_ws) (w2 : Cond.static y ∈ m_ws) (w4 : Cond.initialized y.cls ∈ m_ws) (w5 : cd ∈ m_ws) : GoodIn m_ws (va_wsS own idx y (cd :: m_ws)) := by
  intro w h
  unfold va_wsS at h
  simp only [List.cons_append, List.nil_append, List.mem_cons] at h
  rcases h with rfl | rfl | rfl | rfl | h
  · exact m_ws_good w1
  · exact m_ws_good w2
  · exact m_ws_good w4
  · exact m_ws_good w5
  · exact m_ws_good h
theorem m_goodC {cd : Cond} (w5 : cd ∈ m_ws) : GoodIn m_ws (cd :: m_ws) := by
  intro w h
  rcases List.mem_cons.mp h with rfl | h
  · exact m_ws_good w5
  · exact m_ws_good h
theorem m_Asub {Z : m_Z} {A : Nat → Prop} {s : State} {H : Heap} {locs : List Loc} {f : Nat → va_E} (hA : ∀ q, s.heap.size ≤ q → A q) (hD : va_D A (va_pl Z.1 f)) (hS : va_S A s.heap H locs) : ∀ q, m_A Z H.size q → A q := by
  intro q h
  rcases h with h | h
  · obtain ⟨i, hi⟩ := List.getElem?_of_mem (show (q, f q) ∈ va_pl Z.1 f from List.mem_map.mpr ⟨q, h, rfl⟩)
    exact hD.2 i _ hi
  · exact hA q (Nat.le_trans hS.1 h)

/-- what a walk comes to: the method returns v and leaves S -/
def m_F (x : m_X) (Z : m_Z) (ret : Option FieldType) (v : Option Value) (S : m_S) : Prop := match x with
  | (p, l, e, R, s, m, args, below, meth, c, E, A, Q) => Q = MQ below (m_post E v Z S s.heap.size) args s 0 0 (m_A Z s.heap.size) ∧ A = m_A Z s.heap.size ∧ meth.sig.returnType = ret
/-- .. of a method that may throw: r is what it comes to -/
def m_FX (x : m_X) (Z : m_Z) (ret : Option FieldType) (r : Except String (Option Value)) (S : m_S) (mc ms : Nat) : Prop := match x with
  | (p, l, e, R, s, m, args, below, meth, c, E, A, Q) => Q = vx_MQ below (fun a st o t => ∃ v, r = .ok v ∧ m_post E v Z S s.heap.size a st o t) (fun X st t => ∃ e, r = .error e ∧ m_XC E e Z S s.heap.size X st t) args s mc ms (m_A Z s.heap.size) ∧ A = m_A Z s.heap.size ∧ meth.sig.returnType = ret ∧ ∀ z ∈ c.exceptionTable.toList, False

theorem r_callV {x : m_X} {l9 : Launch} {own : String} {cc : ByteArray} {nL : Nat} {rm9 : Room} {Z : m_Z} {S : m_S} {k n pc q : Nat} {L : List (Nat × Value)} {st st0 st1 : List Value} {y : MethodName} {bytes : ByteArray} {maxL idx mc ms : Nat} {ret : Option FieldType} {rm : Room} {As : List Value} {S' : m_S} {cargs : (Nat → Nat) → List Value} {v : Option Value} {C9 : String} {T9 : u_T} {N9 ci b : Nat} (C : m_H x l9 own cc nL rm9) (hM : m_Ct l9 y (.code y bytes maxL ret :: m_ws) rm cargs Z S v S') (hargs : cargs (m_K x) = .ref b :: As) (w1 : Cond.methodLink own idx y ∈ m_ws) (w2 : Cond.instanceMethod y ∈ m_ws) (w3 : Cond.selects C9 y y ∈ m_ws) (w4 : Cond.initialized C9 ∈ m_ws) (w5 : Cond.code y bytes maxL ret ∈ m_ws) (hd : y.cls = C9 ∧ y.cls ≠ "java/lang/invoke/MethodHandle" ∧ y.cls ≠ "java/lang/invoke/VarHandle" ∧ (parseMethodDescriptor y.desc).map (fun d => d.parameters.length) = some As.length) (hc : vwCl[ci]? = some (C9, T9, N9)) (h10 : ci < 10) (g : m_ok Z b ci) (hs : st0 = As.reverse ++ .ref b :: st) (hrc : rm.cells = 0) (hrs : rm.slots = 0) (hRm : rm.frames + 1 ≤ rm9.frames ∧ 8 + (maxL + 11) + rm.locals ≤ rm9.locals) (hst8 : (st.map fun v => v.category).sum ≤ 8) (hroom : k ≤ rm9.cells ∧ n ≤ rm9.slots) (d : decode cc pc = .ok (.invokevirtual idx, 3)) (hq : pc + 3 = q) (hs1 : v.toList ++ st = st1) (h : m_G x Z S' nL k n q L st1) : m_G x Z S nL k n pc L st0 := by
  subst hq; subst hs; subst hs1; obtain ⟨p, l, e, R, s, m, args9, below, meth, c, E, A, Q⟩ := x; obtain ⟨hx, hb, hml, hown, hts, hK, hA, hE, hlk, hR, hst, hl9⟩ := C; subst hb; subst hR; subst hl9
  intro H locs ls hP hD hS hl
  have hsub := m_Asub hA hD hS
  have hM9 := hM E H.size
  rw [show cargs E.2.2.1 = _ from hargs] at hM9
  have hpre : ∀ U : State, U.heap = H → s.WarmedH U.vm → m_pre E (.ref b :: As) Z S H.size (Array.mk (.ref b :: As)) U := fun U hU hW => ⟨rfl, by rw [hU], by rw [hU]; exact hP, ⟨hD.1, fun _ _ _ => trivial⟩, va_K.moved hW.alike hK, by rw [hU]; exact hE.go hW hS.2.1 hsub⟩
  obtain ⟨i, hi⟩ := m_at (E := E) (S := S) g.1
  rw [m_cO g.2 h10] at hi
  exact m_run (va_runV (C := C9) (As := As) (rest := st) ⟨hx, rfl, hml, hown, hts⟩ hM9 (cwV As.length hts (m_goodV w1 w2 w3 w4 w5) rfl hrc hrs hd hRm) ⟨m_pre.blind, va_recv hK hP (q0 := i) (ci := ci) hc hi, hpre⟩ rfl rfl hl.1 rfl (lv_room hst8) d hroom) hS (fun q _ h => hsub q h) (fun q h => hsub q h) (fun H1 locs1 h1 h2 => h H1 locs1 ls h1 (m_D hD) h2 hl)
theorem r_callS {x : m_X} {l9 : Launch} {own : String} {cc : ByteArray} {nL : Nat} {rm9 : Room} {Z : m_Z} {S : m_S} {k n pc q : Nat} {L : List (Nat × Value)} {st st0 st1 : List Value} {y : MethodName} {bytes : ByteArray} {maxL idx mc ms : Nat} {ret : Option FieldType} {rm : Room} {As : List Value} {S' : m_S} {cargs : (Nat → Nat) → List Value} {v : Option Value} (C : m_H x l9 own cc nL rm9) (hM : m_Ct l9 y (.code y bytes maxL ret :: m_ws) rm cargs Z S v S') (hargs : cargs (m_K x) = As) (w1 : Cond.methodLink own idx y ∈ m_ws) (w2 : Cond.static y ∈ m_ws) (w4 : Cond.initialized y.cls ∈ m_ws) (w5 : Cond.code y bytes maxL ret ∈ m_ws) (hd : y.cls ≠ "java/lang/invoke/MethodHandle" ∧ y.cls ≠ "java/lang/invoke/VarHandle" ∧ (parseMethodDescriptor y.desc).map (fun d => d.parameters.length) = some As.length) (hs : st0 = As.reverse ++ st) (hrc : rm.cells = 0) (hrs : rm.slots = 0) (hRm : rm.frames + 1 ≤ rm9.frames ∧ 8 + (maxL + 11) + rm.locals ≤ rm9.locals) (hst8 : (st.map fun v => v.category).sum ≤ 8) (hroom : k ≤ rm9.cells ∧ n ≤ rm9.slots) (d : decode cc pc = .ok (.invokestatic idx, 3)) (hq : pc + 3 = q) (hs1 : v.toList ++ st = st1) (h : m_G x Z S' nL k n q L st1) : m_G x Z S nL k n pc L st0 := by
  subst hq; subst hs; subst hs1; obtain ⟨p, l, e, R, s, m, args9, below, meth, c, E, A, Q⟩ := x; obtain ⟨hx, hb, hml, hown, hts, hK, hA, hE, hlk, hR, hst, hl9⟩ := C; subst hb; subst hR; subst hl9
  intro H locs ls hP hD hS hl
  have hsub := m_Asub hA hD hS
  have hM9 := hM E H.size
  rw [show cargs E.2.2.1 = _ from hargs] at hM9
  have hpre : ∀ U : State, U.heap = H → s.WarmedH U.vm → m_pre E As Z S H.size (Array.mk As) U := fun U hU hW => ⟨rfl, by rw [hU], by rw [hU]; exact hP, ⟨hD.1, fun _ _ _ => trivial⟩, va_K.moved hW.alike hK, by rw [hU]; exact hE.go hW hS.2.1 hsub⟩
  exact m_run (va_runS (As := As) (rest := st) ⟨hx, rfl, hml, hown, hts⟩ hM9 (va_cwS As.length hts (m_goodS w1 w2 w4 w5) rfl hrc hrs hd hRm) ⟨m_pre.blind, hpre⟩ rfl rfl hl.1 rfl (lv_room hst8) d hroom) hS (fun q _ h => hsub q h) (fun q h => hsub q h) (fun H1 locs1 h1 h2 => h H1 locs1 ls h1 (m_D hD) h2 hl)
theorem r_callSN {x : m_X} {l9 : Launch} {own : String} {cc : ByteArray} {nL : Nat} {rm9 : Room} {Z : m_Z} {S : m_S} {k n pc q : Nat} {L : List (Nat × Value)} {st st0 st1 : List Value} {y : MethodName} {bytes : ByteArray} {maxL idx mc ms : Nat} {ret : Option FieldType} {rm : Room} {As : List Value} {S' : m_S} {cargs : (Nat → Nat) → List Value} {v : Option Value} (C : m_H x l9 own cc nL rm9) (hM : m_Ct l9 y (.code y bytes maxL ret :: m_ws) rm cargs Z S v S') (hargs : cargs (m_K x) = As) (w1 : (own, idx, y) ∈ m_NM) (w2 : Cond.static y ∈ m_ws) (w4 : Cond.initialized y.cls ∈ m_ws) (w5 : Cond.code y bytes maxL ret ∈ m_ws) (hd : y.cls ≠ "java/lang/invoke/MethodHandle" ∧ y.cls ≠ "java/lang/invoke/VarHandle" ∧ (parseMethodDescriptor y.desc).map (fun d => d.parameters.length) = some As.length) (hs : st0 = As.reverse ++ st) (hrc : rm.cells = 0) (hrs : rm.slots = 0) (hRm : rm.frames + 1 ≤ rm9.frames ∧ 8 + (maxL + 11) + rm.locals ≤ rm9.locals) (hst8 : (st.map fun v => v.category).sum ≤ 8) (hroom : k ≤ rm9.cells ∧ n ≤ rm9.slots) (d : decode cc pc = .ok (.invokestatic idx, 3)) (hq : pc + 3 = q) (hs1 : v.toList ++ st = st1) (h : m_G x Z S' nL k n q L st1) : m_G x Z S nL k n pc L st0 := by
  subst hq; subst hs; subst hs1; obtain ⟨p, l, e, R, s, m, args9, below, meth, c, E, A, Q⟩ := x; obtain ⟨hx, hb, hml, hown, hts, hK, hA, hE, hlk, hR, hst, hl9⟩ := C; subst hb; subst hR; subst hl9
  intro H locs ls hP hD hS hl
  have hsub := m_Asub hA hD hS
  have hM9 := hM E H.size
  rw [show cargs E.2.2.1 = _ from hargs] at hM9
  have hpre : ∀ U : State, U.heap = H → s.WarmedH U.vm → m_pre E As Z S H.size (Array.mk As) U := fun U hU hW => ⟨rfl, by rw [hU], by rw [hU]; exact hP, ⟨hD.1, fun _ _ _ => trivial⟩, va_K.moved hW.alike hK, by rw [hU]; exact hE.go hW hS.2.1 hsub⟩
  exact m_run (va_runSN (As := As) (rest := st) ⟨hx, rfl, hml, hown, hts⟩ hM9 ⟨va_cnB As.length hts (m_goodC w5) rfl hrc hrs (hE.2.1 _ w1) (hts _ w4) hd hRm, hts _ w2, trivial⟩ ⟨m_pre.blind, hpre⟩ rfl rfl hl.1 rfl (lv_room hst8) d hroom) hS (fun q _ h => hsub q h) (fun q h => hsub q h) (fun H1 locs1 h1 h2 => h H1 locs1 ls h1 (m_D hD) h2 hl)
theorem x_callV {x : m_X} {l9 : Launch} {own : String} {cc : ByteArray} {nL : Nat} {rm9 : Room} {Z : m_Z} {S : m_S} {k n pc q : Nat} {L : List (Nat × Value)} {st st0 : List Value} {y : MethodName} {bytes : ByteArray} {maxL idx mc ms : Nat} {ret : Option FieldType} {rm : Room} {As : List Value} {S' : m_S} {cargs : (Nat → Nat) → List Value} {r : Except String (Option Value)} {retQ : Option FieldType} {mcQ msQ : Nat} {C9 : String} {T9 : u_T} {N9 ci b : Nat} (C : m_H x l9 own cc nL rm9) (hM : m_Cx l9 y (.code y bytes maxL ret :: m_ws) rm mc ms cargs Z S r S') (hargs : cargs (m_K x) = .ref b :: As) (w1 : Cond.methodLink own idx y ∈ m_ws) (w2 : Cond.instanceMethod y ∈ m_ws) (w3 : Cond.selects C9 y y ∈ m_ws) (w4 : Cond.initialized C9 ∈ m_ws) (w5 : Cond.code y bytes maxL ret ∈ m_ws) (hd : y.cls = C9 ∧ y.cls ≠ "java/lang/invoke/MethodHandle" ∧ y.cls ≠ "java/lang/invoke/VarHandle" ∧ (parseMethodDescriptor y.desc).map (fun d => d.parameters.length) = some As.length) (hc : vwCl[ci]? = some (C9, T9, N9)) (h10 : ci < 10) (g : m_ok Z b ci) (hs : st0 = As.reverse ++ .ref b :: st) (hrc : rm.cells = mc) (hrs : rm.slots = ms) (hRm : rm.frames + 1 ≤ rm9.frames ∧ 8 + (maxL + 11) + rm.locals ≤ rm9.locals) (hst8 : (st.map fun v => v.category).sum ≤ 8) (hroom : k + mc ≤ rm9.cells ∧ n + ms ≤ rm9.slots) (d : decode cc pc = .ok (.invokevirtual idx, 3)) (hq : pc + 3 = q) (hk : k + mc ≤ mcQ) (hn : n + ms ≤ msQ) (hkx : ∀ e, r = .error e → m_FX x Z retQ (.error e) S' mcQ msQ) (h : ∀ v, r = .ok v → m_G x Z S' nL (k + mc) (n + ms) q L (v.toList ++ st)) : m_G x Z S nL k n pc L st0 := by
  subst hq; subst hs; obtain ⟨p, l, e, R, s, m, args9, below, meth, c, E, A, Q⟩ := x; obtain ⟨hx, hb, hml, hown, hts, hK, hA, hE, hlk, hR, hst, hl9⟩ := C; subst hb; subst hR; subst hl9
  intro H locs ls hP hD hS hl
  have hsub := m_Asub hA hD hS
  have hM9 := hM E H.size
  rw [show cargs E.2.2.1 = _ from hargs] at hM9
  have hpre : ∀ U : State, U.heap = H → s.WarmedH U.vm → m_pre E (.ref b :: As) Z S H.size (Array.mk (.ref b :: As)) U := fun U hU hW => ⟨rfl, by rw [hU], by rw [hU]; exact hP, ⟨hD.1, fun _ _ _ => trivial⟩, va_K.moved hW.alike hK, by rw [hU]; exact hE.go hW hS.2.1 hsub⟩
  obtain ⟨i, hi⟩ := m_at (E := E) (S := S) g.1
  rw [m_cO g.2 h10] at hi
  refine m_runX (vx_runV (C := C9) (As := As) (rest := st) ⟨hx, rfl, hml, hown, hts⟩ hM9 (cwV As.length hts (m_goodV w1 w2 w3 w4 w5) rfl hrc hrs hd hRm) ⟨m_pre.blind, va_recv hK hP (q0 := i) (ci := ci) hc hi, hpre⟩ rfl rfl hl.1 rfl (lv_room hst8) d hroom) hS (fun q _ h => hsub q h) (fun q h => hsub q h) (fun X ce q9 H1 locs1 hr h1 h2 h3 h4 h5 => ?_) (fun v H1 locs1 hr h1 h2 => h v hr H1 locs1 ls h1 (m_D hD) h2 hl)
  obtain ⟨rfl, rfl, -, hT⟩ := hkx X hr
  exact vx_out (fun z hz => (hT z hz).elim) hlk h3 h4 h5 (fun t ht hv => ⟨X, rfl, ⟨rfl, by rw [ht]; exact h1⟩, h2.F ht⟩) h2.2.2 hk hn
theorem x_callS {x : m_X} {l9 : Launch} {own : String} {cc : ByteArray} {nL : Nat} {rm9 : Room} {Z : m_Z} {S : m_S} {k n pc q : Nat} {L : List (Nat × Value)} {st st0 : List Value} {y : MethodName} {bytes : ByteArray} {maxL idx mc ms : Nat} {ret : Option FieldType} {rm : Room} {As : List Value} {S' : m_S} {cargs : (Nat → Nat) → List Value} {r : Except String (Option Value)} {retQ : Option FieldType} {mcQ msQ : Nat} (C : m_H x l9 own cc nL rm9) (hM : m_Cx l9 y (.code y bytes maxL ret :: m_ws) rm mc ms cargs Z S r S') (hargs : cargs (m_K x) = As) (w1 : Cond.methodLink own idx y ∈ m_ws) (w2 : Cond.static y ∈ m_ws) (w4 : Cond.initialized y.cls ∈ m_ws) (w5 : Cond.code y bytes maxL ret ∈ m_ws) (hd : y.cls ≠ "java/lang/invoke/MethodHandle" ∧ y.cls ≠ "java/lang/invoke/VarHandle" ∧ (parseMethodDescriptor y.desc).map (fun d => d.parameters.length) = some As.length) (hs : st0 = As.reverse ++ st) (hrc : rm.cells = mc) (hrs : rm.slots = ms) (hRm : rm.frames + 1 ≤ rm9.frames ∧ 8 + (maxL + 11) + rm.locals ≤ rm9.locals) (hst8 : (st.map fun v => v.category).sum ≤ 8) (hroom : k + mc ≤ rm9.cells ∧ n + ms ≤ rm9.slots) (d : decode cc pc = .ok (.invokestatic idx, 3)) (hq : pc + 3 = q) (hk : k + mc ≤ mcQ) (hn : n + ms ≤ msQ) (hkx : ∀ e, r = .error e → m_FX x Z retQ (.error e) S' mcQ msQ) (h : ∀ v, r = .ok v → m_G x Z S' nL (k + mc) (n + ms) q L (v.toList ++ st)) : m_G x Z S nL k n pc L st0 := by
  subst hq; subst hs; obtain ⟨p, l, e, R, s, m, args9, below, meth, c, E, A, Q⟩ := x; obtain ⟨hx, hb, hml, hown, hts, hK, hA, hE, hlk, hR, hst, hl9⟩ := C; subst hb; subst hR; subst hl9
  intro H locs ls hP hD hS hl
  have hsub := m_Asub hA hD hS
  have hM9 := hM E H.size
  rw [show cargs E.2.2.1 = _ from hargs] at hM9
  have hpre : ∀ U : State, U.heap = H → s.WarmedH U.vm → m_pre E As Z S H.size (Array.mk As) U := fun U hU hW => ⟨rfl, by rw [hU], by rw [hU]; exact hP, ⟨hD.1, fun _ _ _ => trivial⟩, va_K.moved hW.alike hK, by rw [hU]; exact hE.go hW hS.2.1 hsub⟩
  refine m_runX (vx_runS (As := As) (rest := st) ⟨hx, rfl, hml, hown, hts⟩ hM9 (va_cwS As.length hts (m_goodS w1 w2 w4 w5) rfl hrc hrs hd hRm) ⟨m_pre.blind, hpre⟩ rfl rfl hl.1 rfl (lv_room hst8) d hroom) hS (fun q _ h => hsub q h) (fun q h => hsub q h) (fun X ce q9 H1 locs1 hr h1 h2 h3 h4 h5 => ?_) (fun v H1 locs1 hr h1 h2 => h v hr H1 locs1 ls h1 (m_D hD) h2 hl)
  obtain ⟨rfl, rfl, -, hT⟩ := hkx X hr
  exact vx_out (fun z hz => (hT z hz).elim) hlk h3 h4 h5 (fun t ht hv => ⟨X, rfl, ⟨rfl, by rw [ht]; exact h1⟩, h2.F ht⟩) h2.2.2 hk hn
theorem r_iret {x : m_X} {l9 : Launch} {own : String} {cc : ByteArray} {nL : Nat} {rm9 : Room} {Z : m_Z} {S : m_S} {pc : Nat} {L : List (Nat × Value)} {v : Int32} (C : m_H x l9 own cc nL rm9) (F : m_F x Z (some .int) (some (.int v)) S) (d : decode cc pc = .ok (.ireturn, 1)) : m_G x Z S nL 0 0 pc L [.int v] := by
  obtain ⟨p, l, e, R, s, m, args9, below, meth, c, E, A, Q⟩ := x; obtain ⟨hx, hb, hml, hown, hts, hK, hA, hE, hlk, hR, hst, hl9⟩ := C; obtain ⟨rfl, rfl, hr⟩ := F; subst hb
  intro H locs ls hP hD hS hl
  exact W.iret hx rfl hr (fun t ht hW => ⟨⟨rfl, by rw [ht]; exact hP⟩, hS.F ht⟩) hS.2.2 d
theorem x_iret {x : m_X} {l9 : Launch} {own : String} {cc : ByteArray} {nL : Nat} {rm9 : Room} {Z : m_Z} {S : m_S} {k n mc ms pc : Nat} {L : List (Nat × Value)} {v : Int32} (C : m_H x l9 own cc nL rm9) (F : m_FX x Z (some .int) (.ok (some (.int v))) S mc ms) (hk : k ≤ mc) (hn : n ≤ ms) (d : decode cc pc = .ok (.ireturn, 1)) : m_G x Z S nL k n pc L [.int v] := by
  refine r_wid hk hn ?_
  obtain ⟨p, l, e, R, s, m, args9, below, meth, c, E, A, Q⟩ := x; obtain ⟨hx, hb, hml, hown, hts, hK, hA, hE, hlk, hR, hst, hl9⟩ := C; obtain ⟨rfl, rfl, hr, -⟩ := F; subst hb
  intro H locs ls hP hD hS hl
  exact vx_ret (W.iret hx rfl hr (fun t ht hW => ⟨_, rfl, ⟨rfl, by rw [ht]; exact hP⟩, hS.F ht⟩) hS.2.2 d)
theorem r_zret {x : m_X} {l9 : Launch} {own : String} {cc : ByteArray} {nL : Nat} {rm9 : Room} {Z : m_Z} {S : m_S} {pc : Nat} {L : List (Nat × Value)} {v : Int32} (C : m_H x l9 own cc nL rm9) (F : m_F x Z (some .boolean) (some (.int v)) S) (hz : narrow .boolean (.int v) = .int v) (d : decode cc pc = .ok (.ireturn, 1)) : m_G x Z S nL 0 0 pc L [.int v] := by
  obtain ⟨p, l, e, R, s, m, args9, below, meth, c, E, A, Q⟩ := x; obtain ⟨hx, hb, hml, hown, hts, hK, hA, hE, hlk, hR, hst, hl9⟩ := C; obtain ⟨rfl, rfl, hr⟩ := F; subst hb
  intro H locs ls hP hD hS hl
  exact W.zret (ty := .boolean) hx rfl hr hz (fun t ht hW => ⟨⟨rfl, by rw [ht]; exact hP⟩, hS.F ht⟩) hS.2.2 d
theorem x_zret {x : m_X} {l9 : Launch} {own : String} {cc : ByteArray} {nL : Nat} {rm9 : Room} {Z : m_Z} {S : m_S} {k n mc ms pc : Nat} {L : List (Nat × Value)} {v : Int32} (C : m_H x l9 own cc nL rm9) (F : m_FX x Z (some .boolean) (.ok (some (.int v))) S mc ms) (hz : narrow .boolean (.int v) = .int v) (hk : k ≤ mc) (hn : n ≤ ms) (d : decode cc pc = .ok (.ireturn, 1)) : m_G x Z S nL k n pc L [.int v] := by
  refine r_wid hk hn ?_
  obtain ⟨p, l, e, R, s, m, args9, below, meth, c, E, A, Q⟩ := x; obtain ⟨hx, hb, hml, hown, hts, hK, hA, hE, hlk, hR, hst, hl9⟩ := C; obtain ⟨rfl, rfl, hr, -⟩ := F; subst hb
  intro H locs ls hP hD hS hl
  exact vx_ret (W.zret (ty := .boolean) hx rfl hr hz (fun t ht hW => ⟨_, rfl, ⟨rfl, by rw [ht]; exact hP⟩, hS.F ht⟩) hS.2.2 d)
theorem r_lret {x : m_X} {l9 : Launch} {own : String} {cc : ByteArray} {nL : Nat} {rm9 : Room} {Z : m_Z} {S : m_S} {pc : Nat} {L : List (Nat × Value)} {v : Int64} (C : m_H x l9 own cc nL rm9) (F : m_F x Z (some .long) (some (.long v)) S) (d : decode cc pc = .ok (.lreturn, 1)) : m_G x Z S nL 0 0 pc L [.long v] := by
  obtain ⟨p, l, e, R, s, m, args9, below, meth, c, E, A, Q⟩ := x; obtain ⟨hx, hb, hml, hown, hts, hK, hA, hE, hlk, hR, hst, hl9⟩ := C; obtain ⟨rfl, rfl, hr⟩ := F; subst hb
  intro H locs ls hP hD hS hl
  exact W.lret hx rfl hr (fun t ht hW => ⟨⟨rfl, by rw [ht]; exact hP⟩, hS.F ht⟩) hS.2.2 d
theorem x_lret {x : m_X} {l9 : Launch} {own : String} {cc : ByteArray} {nL : Nat} {rm9 : Room} {Z : m_Z} {S : m_S} {k n mc ms pc : Nat} {L : List (Nat × Value)} {v : Int64} (C : m_H x l9 own cc nL rm9) (F : m_FX x Z (some .long) (.ok (some (.long v))) S mc ms) (hk : k ≤ mc) (hn : n ≤ ms) (d : decode cc pc = .ok (.lreturn, 1)) : m_G x Z S nL k n pc L [.long v] := by
  refine r_wid hk hn ?_
  obtain ⟨p, l, e, R, s, m, args9, below, meth, c, E, A, Q⟩ := x; obtain ⟨hx, hb, hml, hown, hts, hK, hA, hE, hlk, hR, hst, hl9⟩ := C; obtain ⟨rfl, rfl, hr, -⟩ := F; subst hb
  intro H locs ls hP hD hS hl
  exact vx_ret (W.lret hx rfl hr (fun t ht hW => ⟨_, rfl, ⟨rfl, by rw [ht]; exact hP⟩, hS.F ht⟩) hS.2.2 d)
theorem r_dret {x : m_X} {l9 : Launch} {own : String} {cc : ByteArray} {nL : Nat} {rm9 : Room} {Z : m_Z} {S : m_S} {pc : Nat} {L : List (Nat × Value)} {v : UInt64} (C : m_H x l9 own cc nL rm9) (F : m_F x Z (some .double) (some (.double v)) S) (d : decode cc pc = .ok (.dreturn, 1)) : m_G x Z S nL 0 0 pc L [.double v] := by
  obtain ⟨p, l, e, R, s, m, args9, below, meth, c, E, A, Q⟩ := x; obtain ⟨hx, hb, hml, hown, hts, hK, hA, hE, hlk, hR, hst, hl9⟩ := C; obtain ⟨rfl, rfl, hr⟩ := F; subst hb
  intro H locs ls hP hD hS hl
  exact W.dret hx rfl hr (fun t ht hW => ⟨⟨rfl, by rw [ht]; exact hP⟩, hS.F ht⟩) hS.2.2 d
theorem x_dret {x : m_X} {l9 : Launch} {own : String} {cc : ByteArray} {nL : Nat} {rm9 : Room} {Z : m_Z} {S : m_S} {k n mc ms pc : Nat} {L : List (Nat × Value)} {v : UInt64} (C : m_H x l9 own cc nL rm9) (F : m_FX x Z (some .double) (.ok (some (.double v))) S mc ms) (hk : k ≤ mc) (hn : n ≤ ms) (d : decode cc pc = .ok (.dreturn, 1)) : m_G x Z S nL k n pc L [.double v] := by
  refine r_wid hk hn ?_
  obtain ⟨p, l, e, R, s, m, args9, below, meth, c, E, A, Q⟩ := x; obtain ⟨hx, hb, hml, hown, hts, hK, hA, hE, hlk, hR, hst, hl9⟩ := C; obtain ⟨rfl, rfl, hr, -⟩ := F; subst hb
  intro H locs ls hP hD hS hl
  exact vx_ret (W.dret hx rfl hr (fun t ht hW => ⟨_, rfl, ⟨rfl, by rw [ht]; exact hP⟩, hS.F ht⟩) hS.2.2 d)
theorem r_aret {x : m_X} {l9 : Launch} {own : String} {cc : ByteArray} {nL : Nat} {rm9 : Room} {Z : m_Z} {S : m_S} {pc : Nat} {L : List (Nat × Value)} {v : Nat} {rt : String} (C : m_H x l9 own cc nL rm9) (F : m_F x Z (some (.object rt)) (some (.ref v)) S) (d : decode cc pc = .ok (.areturn, 1)) : m_G x Z S nL 0 0 pc L [.ref v] := by
  obtain ⟨p, l, e, R, s, m, args9, below, meth, c, E, A, Q⟩ := x; obtain ⟨hx, hb, hml, hown, hts, hK, hA, hE, hlk, hR, hst, hl9⟩ := C; obtain ⟨rfl, rfl, hr⟩ := F; subst hb
  intro H locs ls hP hD hS hl
  exact W.aret hx rfl hr (Or.inl ⟨_, rfl⟩) (Or.inr ⟨_, rfl⟩) (fun t ht hW => ⟨⟨rfl, by rw [ht]; exact hP⟩, hS.F ht⟩) hS.2.2 d
theorem x_aret {x : m_X} {l9 : Launch} {own : String} {cc : ByteArray} {nL : Nat} {rm9 : Room} {Z : m_Z} {S : m_S} {k n mc ms pc : Nat} {L : List (Nat × Value)} {v : Nat} {rt : String} (C : m_H x l9 own cc nL rm9) (F : m_FX x Z (some (.object rt)) (.ok (some (.ref v))) S mc ms) (hk : k ≤ mc) (hn : n ≤ ms) (d : decode cc pc = .ok (.areturn, 1)) : m_G x Z S nL k n pc L [.ref v] := by
  refine r_wid hk hn ?_
  obtain ⟨p, l, e, R, s, m, args9, below, meth, c, E, A, Q⟩ := x; obtain ⟨hx, hb, hml, hown, hts, hK, hA, hE, hlk, hR, hst, hl9⟩ := C; obtain ⟨rfl, rfl, hr, -⟩ := F; subst hb
  intro H locs ls hP hD hS hl
  exact vx_ret (W.aret hx rfl hr (Or.inl ⟨_, rfl⟩) (Or.inr ⟨_, rfl⟩) (fun t ht hW => ⟨_, rfl, ⟨rfl, by rw [ht]; exact hP⟩, hS.F ht⟩) hS.2.2 d)
theorem r_vret {x : m_X} {l9 : Launch} {own : String} {cc : ByteArray} {nL : Nat} {rm9 : Room} {Z : m_Z} {S : m_S} {pc : Nat} {L : List (Nat × Value)} (C : m_H x l9 own cc nL rm9) (F : m_F x Z none none S) (d : decode cc pc = .ok (.return_, 1)) : m_G x Z S nL 0 0 pc L [] := by
  obtain ⟨p, l, e, R, s, m, args9, below, meth, c, E, A, Q⟩ := x; obtain ⟨hx, hb, hml, hown, hts, hK, hA, hE, hlk, hR, hst, hl9⟩ := C; obtain ⟨rfl, rfl, hr⟩ := F; subst hb
  intro H locs ls hP hD hS hl
  exact W.vret hx rfl hr (fun t ht hW => ⟨⟨rfl, by rw [ht]; exact hP⟩, hS.F ht⟩) hS.2.2 d
theorem x_vret {x : m_X} {l9 : Launch} {own : String} {cc : ByteArray} {nL : Nat} {rm9 : Room} {Z : m_Z} {S : m_S} {k n mc ms pc : Nat} {L : List (Nat × Value)} (C : m_H x l9 own cc nL rm9) (F : m_FX x Z none (.ok none) S mc ms) (hk : k ≤ mc) (hn : n ≤ ms) (d : decode cc pc = .ok (.return_, 1)) : m_G x Z S nL k n pc L [] := by
  refine r_wid hk hn ?_
  obtain ⟨p, l, e, R, s, m, args9, below, meth, c, E, A, Q⟩ := x; obtain ⟨hx, hb, hml, hown, hts, hK, hA, hE, hlk, hR, hst, hl9⟩ := C; obtain ⟨rfl, rfl, hr, -⟩ := F; subst hb
  intro H locs ls hP hD hS hl
  exact vx_ret (W.vret hx rfl hr (fun t ht hW => ⟨_, rfl, ⟨rfl, by rw [ht]; exact hP⟩, hS.F ht⟩) hS.2.2 d)
/-- a contract out of its walk -/
theorem m_ent {l : Launch} {y : MethodName} {bytes : ByteArray} {maxL : Nat} {ret : Option FieldType} {rm : Room} {cargs : (Nat → Nat) → List Value} {Z : m_Z} {S S' : m_S} {v : Option Value} (hl : l.stackTraces = false) (hy : plainName y.cls = true) (hlen : ∀ f, (lg_sl (cargs f)).length ≤ maxL) (body : ∀ x : m_X, m_H x l y.cls bytes maxL rm → m_F x Z ret v S' → m_G x Z S maxL 0 0 0 (lv_args 0 (cargs (m_K x))) []) : m_Ct l y (.code y bytes maxL ret :: m_ws) rm cargs Z S v S' := by
  intro E sz
  refine Met.ofW (cc := bytes) (maxL := maxL) (ret := ret) hy rfl ?_
  intro p e s m args below meth c s₁ B hml hv
  obtain ⟨rfl, rfl, hP, hD0, hK, hEV⟩ := hv
  have hts := atoms_spec (ws := .code y bytes maxL ret :: m_ws) B.pre
  have hb := body (p, l, e, (headSpec (.code y bytes maxL ret :: m_ws) rm).room, s, m, _, below, meth, c, E, m_A Z s.heap.size, MQ below (m_post E v Z S' s.heap.size) _ s 0 0 (m_A Z s.heap.size)) ⟨B.exec, B.bytes, hml, findClass_of_methodNamed B.named, fun w h => hts w (List.mem_cons_of_mem _ h), hK, fun q h => Or.inr h, hEV, B.notSynchronized, rfl, hl, rfl⟩ ⟨rfl, rfl, B.returns⟩
  have hl2 := lv_entry (cargs E.2.2.1) (n := maxL) (hlen _)
  rw [lg_entry_eq]
  refine hb s.heap [] _ hP ⟨hD0.1, fun i q hi => Or.inl ?_⟩ va_S.rf hl2
  obtain ⟨a, ha, rfl⟩ := List.mem_map.mp (List.mem_of_getElem? hi)
  exact ha
theorem m_entX {l : Launch} {y : MethodName} {bytes : ByteArray} {maxL mc ms : Nat} {ret : Option FieldType} {rm : Room} {cargs : (Nat → Nat) → List Value} {Z : m_Z} {S S' : m_S} {r : Except String (Option Value)} (hl : l.stackTraces = false) (hy : plainName y.cls = true) (hlen : ∀ f, (lg_sl (cargs f)).length ≤ maxL) (body : ∀ x : m_X, m_H x l y.cls bytes maxL rm → m_FX x Z ret r S' mc ms → m_G x Z S maxL 0 0 0 (lv_args 0 (cargs (m_K x))) []) : m_Cx l y (.code y bytes maxL ret :: m_ws) rm mc ms cargs Z S r S' := by
  intro E sz
  refine vx_ofW (cc := bytes) (maxL := maxL) (ret := ret) hy rfl ?_
  intro p e s m args below meth c s₁ B hml htab hv
  obtain ⟨rfl, rfl, hP, hD0, hK, hEV⟩ := hv
  have hts := atoms_spec (ws := .code y bytes maxL ret :: m_ws) B.pre
  have hb := body (p, l, e, (headSpec (.code y bytes maxL ret :: m_ws) rm).room, s, m, _, below, meth, c, E, m_A Z s.heap.size, vx_MQ below (fun a st o t => ∃ v, r = .ok v ∧ m_post E v Z S' s.heap.size a st o t) (fun X st t => ∃ e, r = .error e ∧ m_XC E e Z S' s.heap.size X st t) _ s mc ms (m_A Z s.heap.size)) ⟨B.exec, B.bytes, hml, findClass_of_methodNamed B.named, fun w h => hts w (List.mem_cons_of_mem _ h), hK, fun q h => Or.inr h, hEV, B.notSynchronized, rfl, hl, rfl⟩ ⟨rfl, rfl, B.returns, htab⟩
  have hl2 := lv_entry (cargs E.2.2.1) (n := maxL) (hlen _)
  rw [lg_entry_eq]
  refine hb s.heap [] _ hP ⟨hD0.1, fun i q hi => Or.inl ?_⟩ va_S.rf hl2
  obtain ⟨a, ha, rfl⟩ := List.mem_map.mp (List.mem_of_getElem? hi)
  exact ha

