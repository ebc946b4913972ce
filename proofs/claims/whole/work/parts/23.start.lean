/-! THE CLAIM OUT OF ONE WALK OF THE LAW'S BODY. Your part is whole_start (and what it stands on); all else here is the same for every law, but numbers. -/
def R_law : String := "MuseumCasesLaw"
def lw_P (b : Addr) (xs : List Int32) (args : Array Value) (s : State) : Prop := args = #[.ref b] ∧ s.IntsAt b xs ∧ xs.length ≤ 3072 ∧ (Jvm.Cond.and given_1 narrow_1).before args s = true
/-- what a walk over the start with the record d0 says of its end, said of the start itself -/
theorem lw_closed {s t : State} {o : Outcome} {d0 : Drawn} {L : List Loc} {k n : Nat} (hd0 : s.drawn.sameBut d0 lw_cs) (hv : ∃ v, o = .returned v) (hW : (s.setDrawn d0).WarmedH t.vm) (hs : (s.setDrawn d0).sameButNew ({ t with vm := s.vm } : State) L k n) : State.butDraws s t lw_cs (fun t1 => Framed s o t1 L k n) := by
  have h2 : t.drawn = d0 := congrArg State.drawn hs.1
  refine ⟨⟨hv, hW, State.sameButNew.setDrawn hs s.drawn⟩, ?_, by decide⟩
  rw [h2]
  exact hd0
def lw_Q (_ : Array Value) (s : State) (o : Outcome) (t : State) : Prop := o = .returned (some (.int 1)) ∧ State.butDraws s t lw_cs (fun t1 => Framed s o t1 [] room_1.cells room_1.slots)
def lw_Z (below : List Frame) (a : Array Value) (s : State) : State → Prop := fun t => ∃ o, t.status = .running ∧ Ended t below o ∧ lw_Q a s o t
/-- the law's own end, with 1 on the stack, nothing written that was there before, its room as the claim has it; d0: the record of draws at this point (at the entry s.drawn: begin with 'refine W.base ?_' and 'have hd0 := Drawn.sameBut.refl s.drawn lw_cs') -/
theorem lw_ret {p : Program} {l : Launch} {e : Env} {s : State} {m : MethodId} {below : List Frame} {meth : Method} {c : Code} {b : Nat} {d0 : Drawn} (hd0 : s.drawn.sameBut d0 lw_cs) (hx : p.tables.exec = Jvm.exec) (hb : c.code = code) (hr : meth.sig.returnType = ret) (hlocks : meth.locks = false) {pc : Nat} {H : Heap} {ls : Array Slot} (hdg : decode code pc = .ok (.ireturn, 1)) : W p l e room_1 (s.setDrawn d0) m #[Value.ref b] below meth c H [] room_1.cells room_1.slots (lw_Z below #[Value.ref b] s) (F0 m pc ls [.int 1]) := by
  intro T hT X
  obtain ⟨fs, hret, hrun, hended, hW, hframe⟩ := X.leave (v := some (.int 1)) (hlocks := hlocks) (fun h => by rw [hr] at h; cases h)
  have hmeth' : T.vm.method? m = some meth := X.method'
  refine ⟨T.setFrames fs, ?_, .returned (some (.int 1)), hrun, hended, rfl, lw_closed hd0 ⟨_, rfl⟩ hW hframe⟩
  jvm_step X.here [X.here.top, hx, hb, hdg, hmeth', hr, ret, narrow_b1]
  (try refine ⟨rfl, ?_⟩); (try refine ⟨rfl, ?_⟩)
  first | (intro acts; rw [hret _ acts rfl rfl rfl]) | rw [hret _ _ rfl rfl rfl]
  exact Steps.refl _
/-- what holds at the law's entry: the machine, the code, the tables' words (any of lw_tbl by 'hts w (by decide +kernel)'), the script of L ints xs at the cell b, what the Statement gives of the start (any of its parts by flat_of_before) -/
def lw_At (p : Program) (s : State) (m : MethodId) (meth : Method) (c : Code) (b L : Nat) (xs : Nat → Int32) : Prop :=
  p.tables.exec = Jvm.exec ∧ c.code = code ∧ meth.sig.returnType = ret ∧ c.maxLocals = 9 ∧ s.vm.findClass R_law = some m.cls ∧ (∀ w ∈ lw_tbl, w.before #[Value.ref b] s = true) ∧ va_X b L xs s s.heap ∧ b < s.heap.size ∧ meth.locks = false ∧ (Jvm.Cond.and given_1 narrow_1).before #[Value.ref b] s = true

/-! THE LAW'S START: what the tables and the Statement's words give of it -/
def m_pre9 : Cond := Jvm.Cond.and given_1 narrow_1
def m_own : List (String × Nat) := [("MuseumCases$Reader", 94), ("MuseumCases$Reader", 56), ("MuseumCases$Reader", 69), ("MuseumCases$Reader", 74), ("MuseumCases$Reader", 80), ("MuseumCases$Reader", 85), ("MuseumCases$Reader", 137), ("MuseumCases$Reader", 163), ("MuseumCases", 65), ("MuseumCases", 76), ("MuseumCases$Reader", 223), ("MuseumCases", 129), ("MuseumCases", 132), ("MuseumCases", 138), ("MuseumCases", 370), ("MuseumCases", 152), ("MuseumCases", 154), ("MuseumCases", 360), ("MuseumCases", 198), ("MuseumCases", 216), ("MuseumCases", 218), ("MuseumCases", 222), ("MuseumCases", 380), ("MuseumCases", 237), ("MuseumCases", 239), ("MuseumCases", 376), ("MuseumCases", 244), ("MuseumCases", 249), ("MuseumCases", 274), ("MuseumCases", 276), ("MuseumCases", 282), ("MuseumCases", 307), ("MuseumCases", 378), ("MuseumCases", 321), ("MuseumCases", 342), ("MuseumCases", 350), ("MuseumCases", 382), ("MuseumCases", 358)]
def m_tm (i : Nat) : Term := .string (m_own.getD i ("", 0)).1 (m_own.getD i ("", 0)).2
theorem in_NF : ∀ q ∈ m_NF, Cond.fieldLinkNest q.1 q.2.1 q.2.2.1 q.2.2.2.1 q.2.2.2.2 "MuseumCases" ∈ lw_tbl := by decide +kernel
theorem in_NM : ∀ q ∈ m_NM, Cond.methodLinkNest q.1 q.2.1 q.2.2 "MuseumCases" ∈ lw_tbl := by decide +kernel
theorem in_AO : ∀ C ∈ m_AOs, Cond.arrayOver (.object C) ∈ lw_tbl := by decide +kernel
theorem in_SR : ∀ q ∈ m_SR, Cond.stringRef q.1 q.2.1 q.2.2.1 ∈ lw_tbl := by decide +kernel
theorem in_XS : ∀ C ∈ m_XS, Cond.castable C C ∈ lw_tbl := by decide +kernel
theorem in_DS : ∀ y ∈ m_DS, Cond.declares y ∈ lw_tbl := by decide +kernel
theorem in_XN : ∀ q ∈ m_XN, Cond.not (.castable q.1 q.2) ∈ flatC m_pre9 := by decide +kernel
theorem in_EX : ∀ i, i < 38 → Cond.exactly (m_tm i) "java/lang/String" ∈ flatC m_pre9 := by decide +kernel
theorem in_EQ : ∀ q ∈ m_SR, Term.string q.1 q.2.1 = m_tm q.2.2.2 ∨ Cond.eq (m_tm q.2.2.2) (.string q.1 q.2.1) ∈ flatC m_pre9 := by decide +kernel
theorem in_CO : ∀ i, i < 8 → Cond.eq (.field (m_tm i) "java/lang/String" "coder" "B") (.int 0) ∈ flatC m_pre9 := by decide +kernel
theorem in_AR : ∀ i, i < 8 → Cond.arrayOf (.field (m_tm i) "java/lang/String" "value" "[B") .byte ∈ flatC m_pre9 := by decide +kernel
theorem in_LE : ∀ i, i < 8 → Cond.eq (.length (.field (m_tm i) "java/lang/String" "value" "[B")) (.int (Int32.ofNat (m_len.getD i 0))) ∈ flatC m_pre9 := by decide +kernel
theorem in_EL : ∀ i, i < 8 → ∀ j, j < m_len.getD i 0 → Cond.eq (.elem (.field (m_tm i) "java/lang/String" "value" "[B") (.int (Int32.ofNat j))) (.int ((m_byt.getD i []).getD j 0)) ∈ flatC m_pre9 := by decide +kernel
theorem in_DF : ∀ i, i < 8 → ∀ j, j < 8 → i ≠ j → Int32.ofNat (m_len.getD i 0) ≠ Int32.ofNat (m_len.getD j 0) ∨ ∃ q, q < 8 ∧ q < m_len.getD i 0 ∧ q < m_len.getD j 0 ∧ (m_byt.getD i []).getD q 0 ≠ (m_byt.getD j []).getD q 0 := by
  intro i hi j hj hij
  have h : (List.range 8).all (fun i => (List.range 8).all (fun j => decide (i = j) || decide (Int32.ofNat (m_len.getD i 0) ≠ Int32.ofNat (m_len.getD j 0)) || (List.range 8).any (fun q => decide (q < m_len.getD i 0) && decide (q < m_len.getD j 0) && decide ((m_byt.getD i []).getD q 0 ≠ (m_byt.getD j []).getD q 0)))) = true := by decide +kernel
  have h1 := List.all_eq_true.mp (List.all_eq_true.mp h i (List.mem_range.mpr hi)) j (List.mem_range.mpr hj)
  simp only [Bool.or_eq_true, decide_eq_true_eq, List.any_eq_true, Bool.and_eq_true, List.mem_range] at h1
  rcases h1 with (h1 | h1) | ⟨q, hq, ⟨h2, h3⟩, h4⟩
  · exact absurd h1 hij
  · exact Or.inl h1
  · exact Or.inr ⟨q, hq, h2, h3, h4⟩
theorem in_ST : Cond.laysStatic Bundle.tN "UNASSIGNED_STACK" Bundle.steD ∈ lw_tbl ∧ Cond.laysStatic Bundle.tN "SUPPRESSED_SENTINEL" Bundle.listD ∈ lw_tbl ∧ Cond.laysStatic "java/lang/String" "COMPACT_STRINGS" "Z" ∈ lw_tbl ∧ Cond.laysStatic "jdk/internal/util/Preconditions" "SIOOBE_FORMATTER" "Ljava/util/function/BiFunction;" ∈ lw_tbl ∧ Cond.initialized Bundle.tN ∈ lw_tbl ∧ Cond.initialized "java/lang/String" ∈ lw_tbl ∧ Cond.initialized "jdk/internal/util/Preconditions" ∈ lw_tbl := by decide +kernel
theorem in_SV : Cond.isRef (.static Bundle.tN "UNASSIGNED_STACK" Bundle.steD) ∈ flatC m_pre9 ∧ Cond.isRef (.static Bundle.tN "SUPPRESSED_SENTINEL" Bundle.listD) ∈ flatC m_pre9 ∧ Cond.eq (.static "java/lang/String" "COMPACT_STRINGS" "Z") (.int 1) ∈ flatC m_pre9 ∧ Cond.isRef (.static "jdk/internal/util/Preconditions" "SIOOBE_FORMATTER" "Ljava/util/function/BiFunction;") ∈ flatC m_pre9 := by decide +kernel
theorem m_OFeq {o n d : String} {v w : Value} {t : Nat} {A : Nat → Prop} {U : State} {H : Heap} (h1 : va_OF o n d v t A U H) (h2 : va_OF o n d w t A U H) : v = w := by
  obtain ⟨cf, k, i, f, cell, a1, -, a3, -, a5, -⟩ := h1
  obtain ⟨cf', k', i', f', cell', b1, -, b3, -, b5, -⟩ := h2
  cases a1.symm.trans b1
  cases a3.symm.trans b3
  exact Option.some.inj (a5.symm.trans b5)
theorem m_strs {s : State} {b : Nat} {A : Nat → Prop} (hg : m_pre9.before #[Value.ref b] s = true) (hA : ∀ a : Nat, a < s.heap.size → ¬ A a) : ∃ adK adV : Nat → Nat, vk_S 8 m_len m_byt adK adV A s s.heap ∧ ∀ i, i < 38 → (m_tm i).eval #[Value.ref b] s none [] s = some (.ref (adK i)) := by
  have hs := flat_of_before _ hg
  have h0 : ∀ i : Nat, ∃ a : Nat, i < 38 → (m_tm i).eval #[Value.ref b] s none [] s = some (.ref a) := by
    intro i
    by_cases hi : i < 38
    · obtain ⟨a, c, cA, kA, q1, -⟩ := Cond.exactly_spec (args := #[Value.ref b]) (first := s) (o := none) (s := s) (idx := []) (t := m_tm i) (cls := "java/lang/String") (hs _ (in_EX i hi))
      exact ⟨a, fun _ => q1⟩
    · exact ⟨0, fun h => absurd h hi⟩
  obtain ⟨adK, hK⟩ := Classical.axiomOfChoice h0
  have h1 : ∀ i : Nat, ∃ a : Nat, i < 8 → va_O "java/lang/String" (adK i) A s s.heap ∧ va_OF "java/lang/String" "coder" "B" (.int 0) (adK i) A s s.heap ∧ va_OF "java/lang/String" "value" "[B" (.ref a) (adK i) A s s.heap ∧ va_T .byte a (m_len.getD i 0) (fun j => .int ((m_byt.getD i []).getD j 0)) A s s.heap := by
    intro i
    by_cases hi : i < 8
    · have hlen : m_len.getD i 0 < 2 ^ 31 := by
        have h9 : ∀ i, i < 8 → m_len.getD i 0 < 2 ^ 31 := by decide +kernel
        exact h9 i hi
      obtain ⟨k, v, hv, hk⟩ := vk_Sof (args := #[Value.ref b]) (s := s) (N := 1) (tm := fun _ => m_tm i) (len := [m_len.getD i 0]) (byt := [m_byt.getD i []]) (A := A)
        (fun j hj => by cases Nat.lt_one_iff.mp hj; exact hlen)
        (fun j hj => hs _ (in_EX i (by omega))) (fun j hj => hs _ (in_CO i hi)) (fun j hj => hs _ (in_AR i hi))
        (fun j hj => by cases Nat.lt_one_iff.mp hj; exact hs _ (in_LE i hi))
        (fun j hj q hq => by cases Nat.lt_one_iff.mp hj; exact hs _ (in_EL i hi q hq))
        (fun j q hj hq hne => by cases Nat.lt_one_iff.mp hj; cases Nat.lt_one_iff.mp hq; exact absurd rfl hne) hA
      have e : k 0 = adK i := by
        have e1 := (hk 0 (by omega)).symm.trans (hK i (by omega))
        have e2 := Option.some.inj e1
        injection e2
      refine ⟨v 0, fun _ => ?_⟩
      rw [← e]
      exact hv.1 0 (by omega)
    · exact ⟨0, fun h => absurd h hi⟩
  obtain ⟨adV, hV⟩ := Classical.axiomOfChoice h1
  refine ⟨adK, adV, ⟨hV, fun i j hi hj e => ?_⟩, hK⟩
  by_cases hij : i = j
  · exact hij
  · exfalso
    have a1 := hV i hi
    have a2 := hV j hj
    rw [← e] at a2
    have ev := m_OFeq a1.2.2.1 a2.2.2.1
    have ev2 : adV i = adV j := by injection ev
    rw [← ev2] at a2
    obtain ⟨c1, p1, -, -, p4, p5, p6, -⟩ := a1.2.2.2
    obtain ⟨c2, r1, -, -, r4, r5, r6, -⟩ := a2.2.2.2
    cases p1.symm.trans r1
    rcases in_DF i hi j hj hij with h | ⟨q, -, h2, h3, h4⟩
    · exact h (p5.symm.trans r5)
    · have := (p6 q h2).symm.trans (r6 q h3)
      have := Option.some.inj this
      injection this with this
      exact h4 this

theorem m_evs {s : State} {b : Nat} {A : Nat → Prop} {D : va_G} {cy : Nat → ClassId} {adK adV : Nat → Nat} (hts : ∀ w ∈ lw_tbl, w.before #[Value.ref b] s = true) (hg : m_pre9.before #[Value.ref b] s = true) (hA : ∀ a : Nat, a < s.heap.size → ¬ A a) (hS : vk_S 8 m_len m_byt adK adV A s s.heap) (hK : ∀ i, i < 38 → (m_tm i).eval #[Value.ref b] s none [] s = some (.ref (adK i))) : m_EV (D, cy, adK, adV) A s s.heap := by
  have hs := flat_of_before _ hg
  obtain ⟨t1, t2, t3, t4, t5, t6, t7⟩ := in_ST
  obtain ⟨v1, v2, v3, v4⟩ := in_SV
  refine ⟨fun q m => va_Nw.of rfl (hts _ (in_NF q m)), fun q m => va_Nw.of rfl (hts _ (in_NM q m)), fun C m => va_AO.of (hts _ (in_AO C m)), ⟨vx_Zqof (hts _ t1) (hts _ t5) (hs _ v1) hA, vx_Zqof (hts _ t2) (hts _ t5) (hs _ v2) hA⟩, fun q m => ?_, hS, va_Zof (hts _ t3) (hts _ t6) (va_eqt (hs _ v3)) hA, va_Zqof (hts _ t4) (hts _ t7) (hs _ v4) hA, fun C m => va_Nw.of rfl (hts _ (in_XS C m)), fun q m => va_Nc.of (hs _ (in_XN q m)), fun y m => va_Nw.of rfl (hts _ (in_DS y m))⟩
  have hlt : ∀ q ∈ m_SR, q.2.2.2 < 38 := by decide +kernel
  have e1 := hK q.2.2.2 (hlt q m)
  refine vk_R.of (hts _ (in_SR q m)) ?_
  rcases in_EQ q m with h | h
  · rw [h]; exact e1
  · have h2 := hs _ h
    show (Term.string q.1 q.2.1).eval #[Value.ref b] s none [] s = some (.ref (adK q.2.2.2))
    cases hv : (Term.string q.1 q.2.1).eval #[Value.ref b] s none [] s with
    | none => simp [Cond.before, Cond.holds, Cond.value, e1, hv] at h2
    | some v =>
      cases v <;> simp [Cond.before, Cond.holds, Cond.value, e1, hv] at h2
      rw [h2]

theorem m_arrP {s : State} {av : Array Value} {ty : FieldType} (hb : va_RA s = va_RA s) (h : (Cond.arrayClass ty).before av s = true) : ∃ cA : ClassId, ArrOfT s cA ty ∧ s.vm.findClass ("[" ++ ty.toString) = some cA := by
  obtain ⟨cA, kA, comp, h1, h2, h3⟩ := Cond.arrayClass_spec h
  exact ⟨cA, fun n z => ⟨fun k h => (by cases h), kA, h2, comp, h3⟩, h1⟩
theorem m_arrO {s : State} {av : Array Value} {C : String} (h : (Cond.arrayOver (.object C)).before av s = true) : ∃ cA : ClassId, ArrOfT s cA (.object C) ∧ va_RA s cA (.object C) := by
  obtain ⟨comp, cA, kA, h1, h2, h3, h4, h5⟩ := Cond.arrayOver_spec h
  exact ⟨cA, fun n z => ⟨fun k h => (by cases h), kA, h3, comp, h4⟩, kA, comp, h3, h4, h1, h5⟩
theorem m_K0 {s : State} {av : Array Value} (hts : ∀ w ∈ lw_tbl, w.before av s = true) : ∃ (D : va_G) (cy : Nat → ClassId), va_K D vwCl (m_tys cy) s := by
  have hm : ∀ w ∈ m_ws, w.before av s = true := fun w h => hts w (List.mem_filter.mp h).1

  obtain ⟨c0, i0, k0⟩ := u_known (s := s) (args := av) (C := RX0) (T := TX0) (N := 4) hm uX0 (hm _ w_88)
  obtain ⟨c1, i1, k1⟩ := u_known (s := s) (args := av) (C := RX1) (T := TX1) (N := 5) hm uX1 (hm _ w_67)
  obtain ⟨c2, i2, k2⟩ := u_known (s := s) (args := av) (C := RX2) (T := TX2) (N := 9) hm uX2 (hm _ w_156)
  obtain ⟨c3, i3, k3⟩ := u_known (s := s) (args := av) (C := RX3) (T := TX3) (N := 10) hm uX3 (hm _ w_33)
  obtain ⟨c4, i4, k4⟩ := u_known (s := s) (args := av) (C := RX4) (T := TX4) (N := 3) hm uX4 (hm _ w_143)
  obtain ⟨c5, i5, k5⟩ := u_known (s := s) (args := av) (C := RX5) (T := TX5) (N := 11) hm uX5 (hm _ w_60)
  obtain ⟨c6, i6, k6⟩ := u_known (s := s) (args := av) (C := RX6) (T := TX6) (N := 5) hm uX6 (hm _ w_137)
  obtain ⟨c7, i7, k7⟩ := u_known (s := s) (args := av) (C := RX7) (T := TX7) (N := 7) hm uX7 (hm _ w_82)
  obtain ⟨c8, i8, k8⟩ := u_known (s := s) (args := av) (C := RX8) (T := TX8) (N := 9) hm uX8 (hm _ w_25)
  obtain ⟨c9, i9, k9⟩ := u_known (s := s) (args := av) (C := RX9) (T := TX9) (N := 26) hm uX9 (hm _ w_926)
  obtain ⟨a10, p10, r10⟩ := m_arrP (s := s) (av := av) rfl (hm _ w_57)
  obtain ⟨a11, p11, r11⟩ := m_arrP (s := s) (av := av) rfl (hm _ w_81)
  obtain ⟨a12, p12, r12⟩ := m_arrP (s := s) (av := av) rfl (hm _ w_58)
  obtain ⟨a13, p13, r13⟩ := m_arrP (s := s) (av := av) rfl (hm _ w_209)
  obtain ⟨a19, p19, r19⟩ := m_arrP (s := s) (av := av) rfl (hm _ w_1292)
  obtain ⟨a14, p14, r14⟩ := m_arrO (s := s) (av := av) (hts _ (in_AO "MuseumCases$Cassette" (List.mem_of_getElem? (i := 2) rfl)))
  obtain ⟨a15, p15, r15⟩ := m_arrO (s := s) (av := av) (hts _ (in_AO "MuseumCases$Kind" (List.mem_of_getElem? (i := 0) rfl)))
  obtain ⟨a16, p16, r16⟩ := m_arrO (s := s) (av := av) (hts _ (in_AO "MuseumCases$Logbook" (List.mem_of_getElem? (i := 3) rfl)))
  obtain ⟨a17, p17, r17⟩ := m_arrO (s := s) (av := av) (hts _ (in_AO "MuseumCases$State" (List.mem_of_getElem? (i := 4) rfl)))
  obtain ⟨a18, p18, r18⟩ := m_arrO (s := s) (av := av) (hts _ (in_AO "MuseumCases$Vitrine" (List.mem_of_getElem? (i := 1) rfl)))
  refine ⟨(fun k => [c0, c1, c2, c3, c4, c5, c6, c7, c8, c9].getD k 0, fun k => match k with | 0 => i0 | 1 => i1 | 2 => i2 | 3 => i3 | 4 => i4 | 5 => i5 | 6 => i6 | 7 => i7 | 8 => i8 | 9 => i9 | _ => fun _ => 0), fun k => [a10, a11, a12, a13, a14, a15, a16, a17, a18, a19].getD (k - 10) 0, fun c q hq => ?_, fun k q hq => ?_⟩
  · iterate 10 (rcases c with _ | c; · cases hq; first | exact k0 | exact k1 | exact k2 | exact k3 | exact k4 | exact k5 | exact k6 | exact k7 | exact k8 | exact k9)
    exact absurd hq (by simp)
  · iterate 10 (rcases k with _ | k; · cases hq; first | exact ⟨p10, r10⟩ | exact ⟨p11, r11⟩ | exact ⟨p12, r12⟩ | exact ⟨p13, r13⟩ | exact ⟨p14, r14⟩ | exact ⟨p15, r15⟩ | exact ⟨p16, r16⟩ | exact ⟨p17, r17⟩ | exact ⟨p18, r18⟩ | exact ⟨p19, r19⟩)
    exact absurd hq (by simp [m_tys])

/-! from the entry to the loop -/
theorem g_na {x : m_X} {l9 : Launch} {own : String} {cc : ByteArray} {nL : Nat} {rm : Room} {Z : m_Z} {S : m_S} {k n pc q : Nat} {L : List (Nat × Value)} {st : List Value} {kd pl : Nat} {at9 : ArrayType} {a0 : vp_A} (C : m_H x l9 own cc nL rm) (w : Cond.arrayClass (newarray.typeOf at9) ∈ m_ws) (hk : ¬ kd < 10) (hp : ∀ cy : Nat → ClassId, (m_tys cy)[pl]? = some (cy kd, newarray.typeOf at9)) (hRA : ∀ (s : State) (c : ClassId), va_RA s c (newarray.typeOf at9) → s.vm.findClass ("[" ++ (newarray.typeOf at9).toString) = some c) (ha : ∀ cA : ClassId, vp_cell cA a0 = arrV cA 1 (fun _ => defaultValue (newarray.typeOf at9))) (hm : ∀ (S : m_S) (a : Nat), m_ar kd (m_zr S a) a 1 = a0) (hby : 1 * componentBytes (newarray.typeOf at9) ≤ 536870912) (hroom : k + 1 ≤ rm.cells ∧ n + 1 ≤ rm.slots) (d : decode cc pc = .ok (.newarray at9, 2)) (hq : pc + 2 = q) (h : ∀ h9, h9 ∉ Z.1 → m_G x (m_ad Z h9 kd 1) (m_zr S h9) nL (k + 1) (n + 1) q L (.ref h9 :: st)) : m_G x Z S nL k n pc L (.int 1 :: st) := by
  subst hq; obtain ⟨p, l, e, R, s, m, args, below, meth, c, E, A, Q⟩ := x; obtain ⟨hx, hb, hml, hown, hts, hK, hA, hE, hlk', hR, hst, hl9⟩ := C; subst hb; subst hR
  intro H locs ls hP hD hS hl
  refine va_newaK (atype := at9) hx rfl (hts _ w) rfl d rfl (by decide) rfl hby hroom.1 hroom.2 rfl fun H1 cA e1 z1 o1 hAr hNm => ?_
  have hcA : E.2.1 kd = cA := Option.some.inj ((hRA _ _ (hK.2 pl _ (hp E.2.1)).2).symm.trans hNm)
  let y : m_Y := (Z, S, H.size)
  have hat : va_at E.1 vwCl (y.2.2, m_cell E.2.1 (m_do y (o_n kd 1)).1 (m_do y (o_n kd 1)).2.1 y.2.2) H1 := by
    rw [m_cA (m_do_new y kd 1).1.2 hk, (m_do_new y kd 1).2]
    show H1[y.2.2]? = some (vp_cell (E.2.1 kd) (m_ar kd (m_zr y.2.1 y.2.2) y.2.2 1))
    rw [hm, hcA, ha]
    exact e1
  obtain ⟨a1, a2, a3, a4⟩ := m_made (y := y) rfl hP hD hS hA z1 o1 hat
  exact h H.size (m_fresh hP (Nat.le_refl _)) H1 locs ls a2 a3 a4 hl
theorem m_ar12 (S : m_S) (a : Nat) : m_ar 12 (m_zr S a) a 1 = (1, .inr (.inl (fun _ => 0))) := by
  show (_, _) = (_, _)
  congr 1
  simp [m_zr]
theorem m_ar19 (S : m_S) (a : Nat) : m_ar 19 (m_zr S a) a 1 = (1, .inr (.inr (.inr (.inl (fun _ => 0))))) := by
  show (_, _) = (_, _)
  congr 1
  simp [m_zr]
  rfl
/-- the flat picture at the start: nothing -/
def m_y0 (h : Nat) : m_Y := (([], fun _ => 0, fun _ => 0), (fun _ _ => 0, fun _ _ => 0, fun _ _ => none), h)
/-- .. behind new MuseumCases() -/
def m_y1 (h : Nat) : m_Y := m_rn (m_do (m_y0 h) (o_n 8 0)) (ops_X8 h (h + 1))
/-- .. behind new MuseumCasesModel(), but for plain() and takes() -/
def m_y2 (h : Nat) : m_Y := m_rn (m_do (m_y1 h) (o_n 9 0)) (ops_X9 (h + 341) (h + 342))
/-- THE PURE HALF -/
def m_PURE : Prop := ∀ (h L9 : Nat) (xs9 : Nat → Int32), L9 ≤ 3072 → ∃ S1 S2 : m_S, f_X9_plain (m_y2 h).1 (m_y2 h).2.1 (h + 341) = some ((), S1) ∧ f_X9_takes (m_y2 h).1 S1 (h + 341) = some ((), S2) ∧ ∀ q3 q4 : Nat, q3 ∉ (m_y2 h).1.1 → q4 ∉ (m_y2 h).1.1 → q4 ≠ q3 → f_L_law (m_ad (m_ad (m_y2 h).1 q3 12 1) q4 19 1) (m_zr (m_zr S2 q3) q4) L9 xs9 h (h + 341) q3 q4 0 = some ()
theorem m_y1_sz (h : Nat) : (m_y1 h).2.2 = h + 341 := by
  unfold m_y1
  rw [m_rn_sz, ct_X8]
  show h + 1 + 340 = h + 341
  omega
set_option maxHeartbeats 4000000 in
theorem whole_start0 (hpure : m_PURE) {p : Program} {e : Env} {s : State} {m : MethodId} {below : List Frame} {meth : Method} {c : Code} (l : Launch) (hflags : l.flags = flags0) {b L : Nat} {xs : Nat → Int32} (hL : L ≤ 3072) (C0 : lw_At p s m meth c b L xs) : W p l e room_1 s m #[Value.ref b] below meth c s.heap [] 0 0 (lw_Z below #[Value.ref b] s) (entryFrame m ([Value.ref b] : List Value).toArray 9) := by
  obtain ⟨hx, hb, hr, hml, hown, hts, hX, hbl, hlk, hg⟩ := C0
  have hl : l.stackTraces = false := by
    first | (show l.flags.stackTraces = false; rw [hflags]; rfl) | (unfold Launch.stackTraces; rw [hflags]; decide +kernel) | (simp [Launch.stackTraces, hflags, flags0]; done)
  have hA : ∀ a : Nat, a < s.heap.size → ¬ (fun q => s.heap.size ≤ q) a := fun a h1 h2 => absurd h1 (Nat.not_lt.mpr h2)
  obtain ⟨adK, adV, hS8, hK8⟩ := m_strs (A := fun q => s.heap.size ≤ q) hg hA
  obtain ⟨D, cy, hK⟩ := m_K0 hts
  have hEV := m_evs (D := D) (cy := cy) hts hg hA hS8 hK8
  let x : m_X := (p, l, e, room_1, s, m, #[Value.ref b], below, meth, c, (D, cy, adK, adV), (fun q => s.heap.size ≤ q), lw_Z below #[Value.ref b] s)
  have C : m_H x l RL cL_law 9 room_1 := ⟨hx, hb, hml, hown, fun w h => hts w (List.mem_filter.mp h).1, hK, fun q h => h, hEV, hlk, rfl, hl, rfl⟩
  have hfin : ∀ (Z : m_Z) (S : m_S) (L : List (Nat × Value)), m_G x Z S 9 room_1.cells room_1.slots 2266 L [.int 1] := by
    intro Z S L H locs ls hP hD hS hl9
    exact va_forget hS.2.2 (lw_ret (d0 := s.drawn) (Drawn.sameBut.refl s.drawn lw_cs) hx hb hr hlk dL_law_2266)
  obtain ⟨S1, S2, f1, f2, f3⟩ := hpure s.heap.size L xs hL
  have walk : m_N x (m_y0 s.heap.size) 9 0 0 0 [(0, .ref b)] [] := by
    obtain ⟨y1, e1⟩ : ∃ q, q = m_do (m_y0 s.heap.size) (o_n 8 0) := ⟨_, rfl⟩
    refine n_new (q := 3) (h9 := s.heap.size) C tyX8 (ci := 8) rfl (by decide) uX8 tyX8_ok w_24 w_25 w_2 f_n8 ⟨Nat.le_of_ble_eq_true rfl, Nat.le_of_ble_eq_true rfl⟩ e1 rfl dL_law_0 rfl ?_
    refine n_dup (q := 4) C dL_law_3 rfl rfl ?_
    have s1 : y1.2.2 = s.heap.size + 1 := by rw [e1]; rfl
    have g1 : m_okn y1.1 s.heap.size 8 0 := by rw [e1]; exact m_do_new (m_y0 s.heap.size) 8 0
    refine n_callI (q := 7) C (c_X8_init hl g1 (Nat.lt_succ_self _) s1) w_26 w_27 w_2 w_28 rfl hd_X8_init rfl rfl ⟨Nat.le_of_ble_eq_true rfl, Nat.le_of_ble_eq_true rfl⟩ (Nat.le_of_ble_eq_true rfl) ⟨Nat.le_of_ble_eq_true rfl, Nat.le_of_ble_eq_true rfl⟩ dL_law_4 rfl (fun h9 => by cases h9) (fun z hz => ?_)
    cases hz
    have ey1 : m_rn y1 (ops_X8 s.heap.size (s.heap.size + 1)) = m_y1 s.heap.size := by rw [e1, m_y1]
    rw [ey1]
    have ez : s.heap.size + 1 + 340 = (m_y1 s.heap.size).2.2 := by rw [m_y1_sz]
    rw [ez]
    have ety : ∀ y : m_Y, (y.1, y.2.1, y.2.2) = y := fun _ => rfl
    rw [ety (m_y1 s.heap.size)]
    refine n_astore_n (q := 8) C dL_law_7 rfl (L' := [(1, .ref s.heap.size), (0, .ref b)]) rfl (by decide) rfl ?_
    obtain ⟨y3, e3⟩ : ∃ q, q = m_do (m_y1 s.heap.size) (o_n 9 0) := ⟨_, rfl⟩
    refine n_new (q := 11) C tyX9 (ci := 9) rfl (by decide) uX9 tyX9_ok w_925 w_926 w_11 f_n9 ⟨Nat.le_of_ble_eq_true rfl, Nat.le_of_ble_eq_true rfl⟩ e3 (m_y1_sz _) dL_law_8 rfl ?_
    refine n_dup (q := 12) C dL_law_11 rfl rfl ?_
    have s3 : y3.2.2 = s.heap.size + 342 := by rw [e3]; show (m_y1 s.heap.size).2.2 + 1 = _; rw [m_y1_sz]
    have g3 : m_okn y3.1 (s.heap.size + 341) 9 0 := by rw [e3, ← m_y1_sz]; exact m_do_new _ 9 0
    have ey : m_rn y3 (ops_X9 (s.heap.size + 341) (s.heap.size + 342)) = m_y2 s.heap.size := by rw [e3, m_y2]
    refine n_callI (q := 15) C (c_X9_init hl g3 (Nat.lt_succ_self _) s3 (S1 := S1) (S2 := S2) (by rw [ey]; exact f1) (by rw [ey]; exact f2)) w_927 w_928 w_11 w_929 rfl hd_X9_init rfl rfl ⟨Nat.le_of_ble_eq_true rfl, Nat.le_of_ble_eq_true rfl⟩ (Nat.le_of_ble_eq_true rfl) ⟨Nat.le_of_ble_eq_true rfl, Nat.le_of_ble_eq_true rfl⟩ dL_law_12 rfl (fun _ => ?_) (fun z hz => by cases hz)
    rw [ey]
    refine r_astore_n (q := 16) C dL_law_15 rfl (L' := [(2, .ref (s.heap.size + 341)), (1, .ref s.heap.size), (0, .ref b)]) rfl (by decide) rfl ?_
    refine r_iconst (q := 17) (v := 1) C dL_law_16 (by decide) rfl ?_
    refine g_na (kd := 12) (pl := 2) (at9 := .long) (a0 := (1, .inr (.inl (fun _ => 0)))) (q := 19) C w_58 (by decide) (fun _ => rfl) (fun s c h => h) (fun _ => rfl) m_ar12 (Nat.le_of_ble_eq_true rfl) ⟨Nat.le_of_ble_eq_true rfl, Nat.le_of_ble_eq_true rfl⟩ dL_law_17 rfl (fun q3 hq3 => ?_)
    refine r_astore_n (q := 20) C dL_law_19 rfl (L' := [(3, .ref q3), (2, .ref (s.heap.size + 341)), (1, .ref s.heap.size), (0, .ref b)]) rfl (by decide) rfl ?_
    refine r_iconst (q := 21) (v := 1) C dL_law_20 (by decide) rfl ?_
    refine g_na (kd := 19) (pl := 9) (at9 := .double) (a0 := (1, .inr (.inr (.inr (.inl (fun _ => 0)))))) (q := 23) C w_1292 (by decide) (fun _ => rfl) (fun s c h => h) (fun _ => rfl) m_ar19 (Nat.le_of_ble_eq_true rfl) ⟨Nat.le_of_ble_eq_true rfl, Nat.le_of_ble_eq_true rfl⟩ dL_law_21 rfl (fun q4 hq4 => ?_)
    refine r_astore (q := 25) C dL_law_23 (L' := [(4, .ref q4), (3, .ref q3), (2, .ref (s.heap.size + 341)), (1, .ref s.heap.size), (0, .ref b)]) rfl (by decide) rfl ?_
    refine r_iconst (q := 26) (v := 0) C dL_law_25 (by decide) rfl ?_
    refine r_istore (q := 28) C dL_law_26 (L' := [(5, .int 0), (4, .ref q4), (3, .ref q3), (2, .ref (s.heap.size + 341)), (1, .ref s.heap.size), (0, .ref b)]) rfl (by decide) rfl ?_
    refine r_wid (k' := 1000) (n' := 20000) (Nat.le_of_ble_eq_true rfl) (Nat.le_of_ble_eq_true rfl) ?_
    refine r_sub [5, 4, 3, 2, 1, 0] rfl ?_
    exact c_L_law hl C ⟨hX, hbl, hA b hbl⟩ hfin (f3 q3 q4 hq3 (fun h => hq4 (List.mem_append_left _ h)) (fun h => hq4 (by rw [h]; exact List.mem_append_right _ (List.mem_singleton.mpr rfl))))
  have hl2 := lv_entry ([Value.ref b]) (n := 9) (Nat.le_of_ble_eq_true rfl)
  rw [lg_entry_eq]
  refine walk s.heap [] _ rfl (fun k q hq => by cases hq) ⟨(fun i j p q hp => by cases hp), (fun k q hq => by cases hq)⟩ va_S.rf hl2
