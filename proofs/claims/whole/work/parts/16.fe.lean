def f_X9_isIn (Z : m_Z) (S : m_S) (p0 : Int32) (p1 : Int32) (p2 : Int32) : Option (Int32) := (if p0 < p1 then some (0 : Int32) else (if p2 < p0 then some (0 : Int32) else some (1 : Int32)))
abbrev rm_X9_isIn : Room := { frames := 0, cells := 0, slots := 0, locals := 0 }
theorem hd_X9_isIn : yX9_isIn.cls ≠ "java/lang/invoke/MethodHandle" ∧ yX9_isIn.cls ≠ "java/lang/invoke/VarHandle" ∧ (parseMethodDescriptor yX9_isIn.desc).map (fun d => d.parameters.length) = some 3 := by decide +kernel
set_option maxHeartbeats 4000000 in
set_option maxRecDepth 100000 in
theorem c_X9_isIn {l : Launch} (hl : l.stackTraces = false) {Z : m_Z} {S : m_S} {p0 : Int32} {p1 : Int32} {p2 : Int32} {rZ9 : Int32} (hf : f_X9_isIn Z S p0 p1 p2 = some rZ9) : m_Ct l yX9_isIn (.code yX9_isIn cX9_isIn 3 (some .boolean) :: m_ws) rm_X9_isIn (fun f => [.int p0, .int p1, .int p2]) Z S (some (.int rZ9)) S := by
  unfold f_X9_isIn at hf
  refine m_ent hl (by decide) (fun _ => Nat.le_of_ble_eq_true rfl) (fun x C F => ?_)
  have C : m_H x l RX9 cX9_isIn 3 rm_X9_isIn := C
  show m_G x Z S 3 0 0 0 [(0, .int p0), (1, .int p1), (2, .int p2)] []
  refine r_iload_n (q := 1) C 0 dX9_isIn_0 rfl rfl ?_
  refine r_iload_n (q := 2) C 1 dX9_isIn_1 rfl rfl ?_
  refine r_icmp_lt (t := 14) (q := 5) C dX9_isIn_2 (by decide) rfl (fun c1 => ?_) (fun c1 => ?_)
  · replace hf := m_if1 hf c1
    refine r_iconst (q := 15) (v := (0 : Int32)) C dX9_isIn_14 (by decide) rfl ?_
    obtain rfl := m_so1 hf
    exact r_zret C F (by decide) dX9_isIn_15
  · replace hf := m_if0 hf c1
    refine r_iload_n (q := 6) C 0 dX9_isIn_5 rfl rfl ?_
    refine r_iload_n (q := 7) C 2 dX9_isIn_6 rfl rfl ?_
    refine r_icmp_gt (t := 14) (q := 10) C dX9_isIn_7 (by decide) rfl (fun c2 => ?_) (fun c2 => ?_)
    · replace hf := m_if1 hf c2
      refine r_iconst (q := 15) (v := (0 : Int32)) C dX9_isIn_14 (by decide) rfl ?_
      obtain rfl := m_so1 hf
      exact r_zret C F (by decide) dX9_isIn_15
    · replace hf := m_if0 hf c2
      refine r_iconst (q := 11) (v := (1 : Int32)) C dX9_isIn_10 (by decide) rfl ?_
      refine r_goto (t := 15) C dX9_isIn_11 (by decide) ?_
      obtain rfl := m_so1 hf
      exact r_zret C F (by decide) dX9_isIn_15
def f_X9_isCase (Z : m_Z) (S : m_S) (a0 : Nat) (p1 : Int32) : Option (Int32) := m_gd (m_ok Z a0 9) (m_b1 (S.2.2 a0 1) (fun b2 => m_gd (m_ok Z b2 11) (m_gd (m_in (5 : Int32) (Z.2.2 b2)) (m_b1 (f_X9_isIn Z S p1 (0 : Int32) ((S.1 b2 (5 : Int32).toNatClampNeg) - (1 : Int32))) (fun v7 => m_gd (v7 = 0 ∨ v7 = 1) (some v7))))))
abbrev rm_X9_isCase : Room := { frames := 1, cells := 0, slots := 0, locals := 22 }
theorem hd_X9_isCase : yX9_isCase.cls = RX9 ∧ yX9_isCase.cls ≠ "java/lang/invoke/MethodHandle" ∧ yX9_isCase.cls ≠ "java/lang/invoke/VarHandle" ∧ (parseMethodDescriptor yX9_isCase.desc).map (fun d => d.parameters.length) = some 1 := by decide +kernel
set_option maxHeartbeats 4000000 in
set_option maxRecDepth 100000 in
theorem c_X9_isCase {l : Launch} (hl : l.stackTraces = false) {Z : m_Z} {S : m_S} {a0 : Nat} {p1 : Int32} {rZ9 : Int32} (hf : f_X9_isCase Z S a0 p1 = some rZ9) : m_Ct l yX9_isCase (.code yX9_isCase cX9_isCase 2 (some .boolean) :: m_ws) rm_X9_isCase (fun f => [.ref a0, .int p1]) Z S (some (.int rZ9)) S := by
  unfold f_X9_isCase at hf
  refine m_ent hl (by decide) (fun _ => Nat.le_of_ble_eq_true rfl) (fun x C F => ?_)
  have C : m_H x l RX9 cX9_isCase 2 rm_X9_isCase := C
  show m_G x Z S 2 0 0 0 [(0, .ref a0), (1, .int p1)] []
  refine r_iload_n (q := 1) C 1 dX9_isCase_0 rfl rfl ?_
  refine r_iconst (q := 2) (v := (0 : Int32)) C dX9_isCase_1 (by decide) rfl ?_
  refine r_aload_n (q := 3) C 0 dX9_isCase_2 rfl rfl ?_
  obtain ⟨g1, hf⟩ := m_gd_of hf
  obtain ⟨b2, e3, hf⟩ := m_b1_of hf
  refine gf_X9_7 (q := 6) C dX9_isCase_3 g1 e3 rfl ?_
  refine r_iconst (q := 7) (v := (5 : Int32)) C dX9_isCase_6 (by decide) rfl ?_
  obtain ⟨g4, hf⟩ := m_gd_of hf
  obtain ⟨g5, hf⟩ := m_gd_of hf
  refine r_iald (q := 8) C dX9_isCase_7 ⟨g4, g5⟩ rfl ?_
  refine r_iconst (q := 9) (v := (1 : Int32)) C dX9_isCase_8 (by decide) rfl ?_
  refine r_isub (q := 10) C dX9_isCase_9 rfl ?_
  obtain ⟨v7, h6, hf⟩ := m_b1_of hf
  refine r_callS (mc := 0) (ms := 0) (q := 13) (st1 := [.int v7]) C (c_X9_isIn hl h6) rfl w_1031 w_1032 w_11 w_1033 hd_X9_isIn rfl rfl rfl ⟨(Nat.le_of_ble_eq_true rfl), (Nat.le_of_ble_eq_true rfl)⟩ (Nat.le_of_ble_eq_true rfl) ⟨(Nat.le_of_ble_eq_true rfl), (Nat.le_of_ble_eq_true rfl)⟩ dX9_isCase_10 rfl rfl ?_
  obtain ⟨g8, hf⟩ := m_gd_of hf
  obtain rfl := m_so1 hf
  exact r_zret C F (m_zn g8) dX9_isCase_13
def f_X9_isKind (Z : m_Z) (S : m_S) (a0 : Nat) (p1 : Int32) : Option (Int32) := m_gd (m_ok Z a0 9) (m_b1 (S.2.2 a0 1) (fun b2 => m_gd (m_ok Z b2 11) (m_gd (m_in (4 : Int32) (Z.2.2 b2)) (m_b1 (f_X9_isIn Z S p1 (0 : Int32) ((S.1 b2 (4 : Int32).toNatClampNeg) - (1 : Int32))) (fun v7 => m_gd (v7 = 0 ∨ v7 = 1) (some v7))))))
abbrev rm_X9_isKind : Room := { frames := 1, cells := 0, slots := 0, locals := 22 }
theorem hd_X9_isKind : yX9_isKind.cls = RX9 ∧ yX9_isKind.cls ≠ "java/lang/invoke/MethodHandle" ∧ yX9_isKind.cls ≠ "java/lang/invoke/VarHandle" ∧ (parseMethodDescriptor yX9_isKind.desc).map (fun d => d.parameters.length) = some 1 := by decide +kernel
set_option maxHeartbeats 4000000 in
set_option maxRecDepth 100000 in
theorem c_X9_isKind {l : Launch} (hl : l.stackTraces = false) {Z : m_Z} {S : m_S} {a0 : Nat} {p1 : Int32} {rZ9 : Int32} (hf : f_X9_isKind Z S a0 p1 = some rZ9) : m_Ct l yX9_isKind (.code yX9_isKind cX9_isKind 2 (some .boolean) :: m_ws) rm_X9_isKind (fun f => [.ref a0, .int p1]) Z S (some (.int rZ9)) S := by
  unfold f_X9_isKind at hf
  refine m_ent hl (by decide) (fun _ => Nat.le_of_ble_eq_true rfl) (fun x C F => ?_)
  have C : m_H x l RX9 cX9_isKind 2 rm_X9_isKind := C
  show m_G x Z S 2 0 0 0 [(0, .ref a0), (1, .int p1)] []
  refine r_iload_n (q := 1) C 1 dX9_isKind_0 rfl rfl ?_
  refine r_iconst (q := 2) (v := (0 : Int32)) C dX9_isKind_1 (by decide) rfl ?_
  refine r_aload_n (q := 3) C 0 dX9_isKind_2 rfl rfl ?_
  obtain ⟨g1, hf⟩ := m_gd_of hf
  obtain ⟨b2, e3, hf⟩ := m_b1_of hf
  refine gf_X9_7 (q := 6) C dX9_isKind_3 g1 e3 rfl ?_
  refine r_iconst (q := 7) (v := (4 : Int32)) C dX9_isKind_6 (by decide) rfl ?_
  obtain ⟨g4, hf⟩ := m_gd_of hf
  obtain ⟨g5, hf⟩ := m_gd_of hf
  refine r_iald (q := 8) C dX9_isKind_7 ⟨g4, g5⟩ rfl ?_
  refine r_iconst (q := 9) (v := (1 : Int32)) C dX9_isKind_8 (by decide) rfl ?_
  refine r_isub (q := 10) C dX9_isKind_9 rfl ?_
  obtain ⟨v7, h6, hf⟩ := m_b1_of hf
  refine r_callS (mc := 0) (ms := 0) (q := 13) (st1 := [.int v7]) C (c_X9_isIn hl h6) rfl w_1031 w_1032 w_11 w_1033 hd_X9_isIn rfl rfl rfl ⟨(Nat.le_of_ble_eq_true rfl), (Nat.le_of_ble_eq_true rfl)⟩ (Nat.le_of_ble_eq_true rfl) ⟨(Nat.le_of_ble_eq_true rfl), (Nat.le_of_ble_eq_true rfl)⟩ dX9_isKind_10 rfl rfl ?_
  obtain ⟨g8, hf⟩ := m_gd_of hf
  obtain rfl := m_so1 hf
  exact r_zret C F (m_zn g8) dX9_isKind_13
def f_X9_may (Z : m_Z) (S : m_S) (a0 : Nat) (p1 : Int32) (p2 : Int32) : Option (Int32 × m_S) := (if ¬ p1 = 0 then m_gd (m_ok Z a0 9) ((if ¬ (S.1 a0 0) = 0 then some ((0 : Int32), S) else some ((1 : Int32), S))) else m_gd (m_ok Z a0 9) ((if ¬ (S.1 a0 0) = 0 then (if ¬ (S.1 a0 0) = 0 then some ((0 : Int32), S) else some ((1 : Int32), S)) else m_lt (m_pI S a0 0 p2) (fun S7 => (if ¬ (S7.1 a0 0) = 0 then some ((0 : Int32), S7) else some ((1 : Int32), S7))))))
abbrev rm_X9_may : Room := { frames := 0, cells := 0, slots := 0, locals := 0 }
theorem hd_X9_may : yX9_may.cls = RX9 ∧ yX9_may.cls ≠ "java/lang/invoke/MethodHandle" ∧ yX9_may.cls ≠ "java/lang/invoke/VarHandle" ∧ (parseMethodDescriptor yX9_may.desc).map (fun d => d.parameters.length) = some 2 := by decide +kernel
set_option maxHeartbeats 4000000 in
set_option maxRecDepth 100000 in
theorem c_X9_may {l : Launch} (hl : l.stackTraces = false) {Z : m_Z} {S : m_S} {a0 : Nat} {p1 : Int32} {p2 : Int32} {rZ9 : Int32} {SZ9 : m_S} (hf : f_X9_may Z S a0 p1 p2 = some (rZ9, SZ9)) : m_Ct l yX9_may (.code yX9_may cX9_may 3 (some .boolean) :: m_ws) rm_X9_may (fun f => [.ref a0, .int p1, .int p2]) Z S (some (.int rZ9)) SZ9 := by
  unfold f_X9_may at hf
  refine m_ent hl (by decide) (fun _ => Nat.le_of_ble_eq_true rfl) (fun x C F => ?_)
  have C : m_H x l RX9 cX9_may 3 rm_X9_may := C
  show m_G x Z S 3 0 0 0 [(0, .ref a0), (1, .int p1), (2, .int p2)] []
  refine r_iload_n (q := 1) C 1 dX9_may_0 rfl rfl ?_
  refine r_if_ne (t := 16) (q := 4) C dX9_may_1 (by decide) rfl (fun c1 => ?_) (fun c1 => ?_)
  · replace hf := m_if1 hf c1
    refine r_aload_n (q := 17) C 0 dX9_may_16 rfl rfl ?_
    obtain ⟨g2, hf⟩ := m_gd_of hf
    refine gf_X9_61 (q := 20) C dX9_may_17 g2 rfl ?_
    refine r_if_ne (t := 27) (q := 23) C dX9_may_20 (by decide) rfl (fun c3 => ?_) (fun c3 => ?_)
    · replace hf := m_if1 hf c3
      refine r_iconst (q := 28) (v := (0 : Int32)) C dX9_may_27 (by decide) rfl ?_
      obtain ⟨rfl, rfl⟩ := m_so2 hf
      exact r_zret C F (by decide) dX9_may_28
    · replace hf := m_if0 hf (fun z => z c3)
      refine r_iconst (q := 24) (v := (1 : Int32)) C dX9_may_23 (by decide) rfl ?_
      refine r_goto (t := 28) C dX9_may_24 (by decide) ?_
      obtain ⟨rfl, rfl⟩ := m_so2 hf
      exact r_zret C F (by decide) dX9_may_28
  · replace hf := m_if0 hf (fun z => z c1)
    refine r_aload_n (q := 5) C 0 dX9_may_4 rfl rfl ?_
    obtain ⟨g4, hf⟩ := m_gd_of hf
    refine gf_X9_61 (q := 8) C dX9_may_5 g4 rfl ?_
    refine r_if_ne (t := 16) (q := 11) C dX9_may_8 (by decide) rfl (fun c5 => ?_) (fun c5 => ?_)
    · replace hf := m_if1 hf c5
      refine r_aload_n (q := 17) C 0 dX9_may_16 rfl rfl ?_
      refine gf_X9_61 (q := 20) C dX9_may_17 g4 rfl ?_
      refine r_if_ne (t := 27) (q := 23) C dX9_may_20 (by decide) rfl (fun c6 => ?_) (fun c6 => ?_)
      · replace hf := m_if1 hf c6
        refine r_iconst (q := 28) (v := (0 : Int32)) C dX9_may_27 (by decide) rfl ?_
        obtain ⟨rfl, rfl⟩ := m_so2 hf
        exact r_zret C F (by decide) dX9_may_28
      · replace hf := m_if0 hf (fun z => z c6)
        refine r_iconst (q := 24) (v := (1 : Int32)) C dX9_may_23 (by decide) rfl ?_
        refine r_goto (t := 28) C dX9_may_24 (by decide) ?_
        obtain ⟨rfl, rfl⟩ := m_so2 hf
        exact r_zret C F (by decide) dX9_may_28
    · replace hf := m_if0 hf (fun z => z c5)
      refine r_aload_n (q := 12) C 0 dX9_may_11 rfl rfl ?_
      refine r_iload_n (q := 13) C 2 dX9_may_12 rfl rfl ?_
      obtain ⟨S7, e8, hf⟩ := m_lt_of hf
      refine pf_X9_61 (q := 16) C dX9_may_13 g4 e8 rfl ?_
      refine r_aload_n (q := 17) C 0 dX9_may_16 rfl rfl ?_
      refine gf_X9_61 (q := 20) C dX9_may_17 g4 rfl ?_
      refine r_if_ne (t := 27) (q := 23) C dX9_may_20 (by decide) rfl (fun c9 => ?_) (fun c9 => ?_)
      · replace hf := m_if1 hf c9
        refine r_iconst (q := 28) (v := (0 : Int32)) C dX9_may_27 (by decide) rfl ?_
        obtain ⟨rfl, rfl⟩ := m_so2 hf
        exact r_zret C F (by decide) dX9_may_28
      · replace hf := m_if0 hf (fun z => z c9)
        refine r_iconst (q := 24) (v := (1 : Int32)) C dX9_may_23 (by decide) rfl ?_
        refine r_goto (t := 28) C dX9_may_24 (by decide) ?_
        obtain ⟨rfl, rfl⟩ := m_so2 hf
        exact r_zret C F (by decide) dX9_may_28
def f_X9_of (Z : m_Z) (S : m_S) (a0 : Nat) (p1 : Int32) (p2 : Int32) : Option (Int32) := m_gd (m_ok Z a0 9) (m_b1 (S.2.2 a0 3) (fun b2 => m_gd (m_ok Z b2 11) (m_lt (((4 : Int32) + ((56 : Int32) * p1)) + p2) (fun v5 => m_gd (m_in v5 (Z.2.2 b2)) (some (S.1 b2 v5.toNatClampNeg))))))
abbrev rm_X9_of : Room := { frames := 0, cells := 0, slots := 0, locals := 0 }
theorem hd_X9_of : yX9_of.cls = RX9 ∧ yX9_of.cls ≠ "java/lang/invoke/MethodHandle" ∧ yX9_of.cls ≠ "java/lang/invoke/VarHandle" ∧ (parseMethodDescriptor yX9_of.desc).map (fun d => d.parameters.length) = some 2 := by decide +kernel
set_option maxHeartbeats 4000000 in
set_option maxRecDepth 100000 in
theorem c_X9_of {l : Launch} (hl : l.stackTraces = false) {Z : m_Z} {S : m_S} {a0 : Nat} {p1 : Int32} {p2 : Int32} {rZ9 : Int32} (hf : f_X9_of Z S a0 p1 p2 = some rZ9) : m_Ct l yX9_of (.code yX9_of cX9_of 3 (some .int) :: m_ws) rm_X9_of (fun f => [.ref a0, .int p1, .int p2]) Z S (some (.int rZ9)) S := by
  unfold f_X9_of at hf
  refine m_ent hl (by decide) (fun _ => Nat.le_of_ble_eq_true rfl) (fun x C F => ?_)
  have C : m_H x l RX9 cX9_of 3 rm_X9_of := C
  show m_G x Z S 3 0 0 0 [(0, .ref a0), (1, .int p1), (2, .int p2)] []
  refine r_aload_n (q := 1) C 0 dX9_of_0 rfl rfl ?_
  obtain ⟨g1, hf⟩ := m_gd_of hf
  obtain ⟨b2, e3, hf⟩ := m_b1_of hf
  refine gf_X9_16 (q := 4) C dX9_of_1 g1 e3 rfl ?_
  refine r_iconst (q := 5) (v := (4 : Int32)) C dX9_of_4 (by decide) rfl ?_
  refine r_bipush (q := 7) (v := (56 : Int32)) C dX9_of_5 (by decide) rfl ?_
  refine r_iload_n (q := 8) C 1 dX9_of_7 rfl rfl ?_
  refine r_imul (q := 9) C dX9_of_8 rfl ?_
  refine r_iadd (q := 10) C dX9_of_9 rfl ?_
  refine r_iload_n (q := 11) C 2 dX9_of_10 rfl rfl ?_
  refine r_iadd (q := 12) C dX9_of_11 rfl ?_
  obtain ⟨g4, hf⟩ := m_gd_of hf
  obtain ⟨v5, e6, hf⟩ := m_lt_of hf
  refine r_nm e6 ?_
  obtain ⟨g7, hf⟩ := m_gd_of hf
  refine r_iald (q := 13) C dX9_of_12 ⟨g4, g7⟩ rfl ?_
  obtain rfl := m_so1 hf
  exact r_iret C F dX9_of_13
def f_X9_newSerial (Z : m_Z) (S : m_S) (a0 : Nat) : Option (Int32 × m_S) := m_gd (m_ok Z a0 9) (m_b1 (S.2.2 a0 3) (fun b2 => m_gd (m_ok Z b2 11) (m_gd (m_in (3 : Int32) (Z.2.2 b2)) (m_gd (m_in (3 : Int32) (Z.2.2 b2)) (m_lt (m_pI S b2 (3 : Int32).toNatClampNeg ((S.1 b2 (3 : Int32).toNatClampNeg) + (1 : Int32))) (fun S7 => m_b1 (S7.2.2 a0 3) (fun b9 => m_gd (m_ok Z b9 11) (m_gd (m_in (3 : Int32) (Z.2.2 b9)) (some (((S7.1 b9 (3 : Int32).toNatClampNeg) - (1 : Int32)), S7))))))))))
abbrev rm_X9_newSerial : Room := { frames := 0, cells := 0, slots := 0, locals := 0 }
theorem hd_X9_newSerial : yX9_newSerial.cls = RX9 ∧ yX9_newSerial.cls ≠ "java/lang/invoke/MethodHandle" ∧ yX9_newSerial.cls ≠ "java/lang/invoke/VarHandle" ∧ (parseMethodDescriptor yX9_newSerial.desc).map (fun d => d.parameters.length) = some 0 := by decide +kernel
set_option maxHeartbeats 4000000 in
set_option maxRecDepth 100000 in
theorem c_X9_newSerial {l : Launch} (hl : l.stackTraces = false) {Z : m_Z} {S : m_S} {a0 : Nat} {rZ9 : Int32} {SZ9 : m_S} (hf : f_X9_newSerial Z S a0 = some (rZ9, SZ9)) : m_Ct l yX9_newSerial (.code yX9_newSerial cX9_newSerial 1 (some .int) :: m_ws) rm_X9_newSerial (fun f => [.ref a0]) Z S (some (.int rZ9)) SZ9 := by
  unfold f_X9_newSerial at hf
  refine m_ent hl (by decide) (fun _ => Nat.le_of_ble_eq_true rfl) (fun x C F => ?_)
  have C : m_H x l RX9 cX9_newSerial 1 rm_X9_newSerial := C
  show m_G x Z S 1 0 0 0 [(0, .ref a0)] []
  refine r_aload_n (q := 1) C 0 dX9_newSerial_0 rfl rfl ?_
  obtain ⟨g1, hf⟩ := m_gd_of hf
  obtain ⟨b2, e3, hf⟩ := m_b1_of hf
  refine gf_X9_16 (q := 4) C dX9_newSerial_1 g1 e3 rfl ?_
  refine r_iconst (q := 5) (v := (3 : Int32)) C dX9_newSerial_4 (by decide) rfl ?_
  refine r_dup2 (q := 6) C dX9_newSerial_5 rfl rfl rfl ?_
  obtain ⟨g4, hf⟩ := m_gd_of hf
  obtain ⟨g5, hf⟩ := m_gd_of hf
  refine r_iald (q := 7) C dX9_newSerial_6 ⟨g4, g5⟩ rfl ?_
  refine r_iconst (q := 8) (v := (1 : Int32)) C dX9_newSerial_7 (by decide) rfl ?_
  refine r_iadd (q := 9) C dX9_newSerial_8 rfl ?_
  obtain ⟨g6, hf⟩ := m_gd_of hf
  obtain ⟨S7, e8, hf⟩ := m_lt_of hf
  refine r_iast (q := 10) C dX9_newSerial_9 ⟨g4, g6⟩ rfl ?_
  rw [← e8]
  refine r_aload_n (q := 11) C 0 dX9_newSerial_10 rfl rfl ?_
  obtain ⟨b9, e10, hf⟩ := m_b1_of hf
  refine gf_X9_16 (q := 14) C dX9_newSerial_11 g1 e10 rfl ?_
  refine r_iconst (q := 15) (v := (3 : Int32)) C dX9_newSerial_14 (by decide) rfl ?_
  obtain ⟨g11, hf⟩ := m_gd_of hf
  obtain ⟨g12, hf⟩ := m_gd_of hf
  refine r_iald (q := 16) C dX9_newSerial_15 ⟨g11, g12⟩ rfl ?_
  refine r_iconst (q := 17) (v := (1 : Int32)) C dX9_newSerial_16 (by decide) rfl ?_
  refine r_isub (q := 18) C dX9_newSerial_17 rfl ?_
  obtain ⟨rfl, rfl⟩ := m_so2 hf
  exact r_iret C F dX9_newSerial_18
def f_X9_line (Z : m_Z) (S : m_S) (p0 : Int32) (p1 : Int32) (p2 : Int32) (p3 : Int32) : Option (Int32) := m_gd (¬ p3 = 0) (some (p0 + (((p1 - p0) * p2) / p3)))
abbrev rm_X9_line : Room := { frames := 0, cells := 0, slots := 0, locals := 0 }
theorem hd_X9_line : yX9_line.cls ≠ "java/lang/invoke/MethodHandle" ∧ yX9_line.cls ≠ "java/lang/invoke/VarHandle" ∧ (parseMethodDescriptor yX9_line.desc).map (fun d => d.parameters.length) = some 4 := by decide +kernel
set_option maxHeartbeats 4000000 in
set_option maxRecDepth 100000 in
theorem c_X9_line {l : Launch} (hl : l.stackTraces = false) {Z : m_Z} {S : m_S} {p0 : Int32} {p1 : Int32} {p2 : Int32} {p3 : Int32} {rZ9 : Int32} (hf : f_X9_line Z S p0 p1 p2 p3 = some rZ9) : m_Ct l yX9_line (.code yX9_line cX9_line 4 (some .int) :: m_ws) rm_X9_line (fun f => [.int p0, .int p1, .int p2, .int p3]) Z S (some (.int rZ9)) S := by
  unfold f_X9_line at hf
  refine m_ent hl (by decide) (fun _ => Nat.le_of_ble_eq_true rfl) (fun x C F => ?_)
  have C : m_H x l RX9 cX9_line 4 rm_X9_line := C
  show m_G x Z S 4 0 0 0 [(0, .int p0), (1, .int p1), (2, .int p2), (3, .int p3)] []
  refine r_iload_n (q := 1) C 0 dX9_line_0 rfl rfl ?_
  refine r_iload_n (q := 2) C 1 dX9_line_1 rfl rfl ?_
  refine r_iload_n (q := 3) C 0 dX9_line_2 rfl rfl ?_
  refine r_isub (q := 4) C dX9_line_3 rfl ?_
  refine r_iload_n (q := 5) C 2 dX9_line_4 rfl rfl ?_
  refine r_imul (q := 6) C dX9_line_5 rfl ?_
  refine r_iload_n (q := 7) C 3 dX9_line_6 rfl rfl ?_
  obtain ⟨g1, hf⟩ := m_gd_of hf
  refine r_idiv (q := 8) C dX9_line_7 g1 rfl ?_
  refine r_iadd (q := 9) C dX9_line_8 rfl ?_
  obtain rfl := m_so1 hf
  exact r_iret C F dX9_line_9
def F_X9_contentOf_69 (Z : m_Z) (S : m_S) (a0 : Nat) (p2 : Int32) (j33 : (Int32 → Option (Int32))) (lp35 : Int32 → Option (Int32)) (v34 : Int32) : Option (Int32) := m_b1 (S.2.2 a0 1) (fun b39 => m_gd (m_ok Z b39 11) (m_lt (v34 + (2 : Int32)) (fun v42 => m_gd (m_in v42 (Z.2.2 b39)) ((if p2 < (S.1 b39 v42.toNatClampNeg) then j33 v34 else m_lt (v34 + (2 : Int32)) (fun v46 => lp35 v46))))))
def f_X9_contentOf (Z : m_Z) (S : m_S) (a0 : Nat) (p1 : Int32) (p2 : Int32) : Option (Int32) := m_lt (((54 : Int32) + ((14 : Int32) * p1)) + (2 : Int32)) (fun v1 => m_gd (m_ok Z a0 9) (m_b1 (S.2.2 a0 1) (fun b4 => m_gd (m_ok Z b4 11) (m_lt (v1 - (1 : Int32)) (fun v7 => m_gd (m_in v7 (Z.2.2 b4)) (m_lt ((v1 + ((2 : Int32) * (S.1 b4 v7.toNatClampNeg))) - (2 : Int32)) (fun v10 => m_gd (m_in v1 (Z.2.2 b4)) ((if (S.1 b4 v1.toNatClampNeg) < p2 then m_gd (m_in v10 (Z.2.2 b4)) ((if p2 < (S.1 b4 v10.toNatClampNeg) then m_jp (fun (v16 : Int32) => m_b1 (S.2.2 a0 1) (fun b17 => m_gd (m_ok Z b17 11) (m_lt (v16 + (1 : Int32)) (fun v20 => m_gd (m_in v20 (Z.2.2 b17)) (m_lt (v16 + (3 : Int32)) (fun v23 => m_gd (m_in v23 (Z.2.2 b17)) (m_gd (m_in v16 (Z.2.2 b17)) (m_lt (v16 + (2 : Int32)) (fun v27 => m_gd (m_in v27 (Z.2.2 b17)) (m_gd (m_in v16 (Z.2.2 b17)) (m_b1 (f_X9_line Z S (S.1 b17 v20.toNatClampNeg) (S.1 b17 v23.toNatClampNeg) (p2 - (S.1 b17 v16.toNatClampNeg)) ((S.1 b17 v27.toNatClampNeg) - (S.1 b17 v16.toNatClampNeg))) (fun v32 => some v32)))))))))))) (fun j33 => m_fx (F_X9_contentOf_69 Z S a0 p2 j33) 100000 v1) else m_lt (v10 + (1 : Int32)) (fun v49 => m_gd (m_in v49 (Z.2.2 b4)) (some (S.1 b4 v49.toNatClampNeg))))) else m_lt (v1 + (1 : Int32)) (fun v52 => m_gd (m_in v52 (Z.2.2 b4)) (some (S.1 b4 v52.toNatClampNeg))))))))))))
abbrev rm_X9_contentOf : Room := { frames := 1, cells := 0, slots := 0, locals := 23 }
theorem hd_X9_contentOf : yX9_contentOf.cls = RX9 ∧ yX9_contentOf.cls ≠ "java/lang/invoke/MethodHandle" ∧ yX9_contentOf.cls ≠ "java/lang/invoke/VarHandle" ∧ (parseMethodDescriptor yX9_contentOf.desc).map (fun d => d.parameters.length) = some 2 := by decide +kernel
set_option maxHeartbeats 4000000 in
set_option maxRecDepth 100000 in
theorem c_X9_contentOf {l : Launch} (hl : l.stackTraces = false) {Z : m_Z} {S : m_S} {a0 : Nat} {p1 : Int32} {p2 : Int32} {rZ9 : Int32} (hf : f_X9_contentOf Z S a0 p1 p2 = some rZ9) : m_Ct l yX9_contentOf (.code yX9_contentOf cX9_contentOf 6 (some .int) :: m_ws) rm_X9_contentOf (fun f => [.ref a0, .int p1, .int p2]) Z S (some (.int rZ9)) S := by
  unfold f_X9_contentOf at hf
  refine m_ent hl (by decide) (fun _ => Nat.le_of_ble_eq_true rfl) (fun x C F => ?_)
  have C : m_H x l RX9 cX9_contentOf 6 rm_X9_contentOf := C
  show m_G x Z S 6 0 0 0 [(0, .ref a0), (1, .int p1), (2, .int p2)] []
  refine r_bipush (q := 2) (v := (54 : Int32)) C dX9_contentOf_0 (by decide) rfl ?_
  refine r_bipush (q := 4) (v := (14 : Int32)) C dX9_contentOf_2 (by decide) rfl ?_
  refine r_iload_n (q := 5) C 1 dX9_contentOf_4 rfl rfl ?_
  refine r_imul (q := 6) C dX9_contentOf_5 rfl ?_
  refine r_iadd (q := 7) C dX9_contentOf_6 rfl ?_
  refine r_iconst (q := 8) (v := (2 : Int32)) C dX9_contentOf_7 (by decide) rfl ?_
  refine r_iadd (q := 9) C dX9_contentOf_8 rfl ?_
  obtain ⟨v1, e2, hf⟩ := m_lt_of hf
  refine r_nm e2 ?_
  refine r_istore_n (q := 10) (L' := [(3, .int v1), (0, .ref a0), (1, .int p1), (2, .int p2)]) C dX9_contentOf_9 rfl rfl (by decide) rfl ?_
  refine r_iload_n (q := 11) C 0 dX9_contentOf_10 rfl rfl ?_
  refine r_iconst (q := 12) (v := (2 : Int32)) C dX9_contentOf_11 (by decide) rfl ?_
  refine r_aload_n (q := 13) C 1 dX9_contentOf_12 rfl rfl ?_
  obtain ⟨g3, hf⟩ := m_gd_of hf
  obtain ⟨b4, e5, hf⟩ := m_b1_of hf
  refine gf_X9_7 (q := 16) C dX9_contentOf_13 g3 e5 rfl ?_
  refine r_iload_n (q := 17) C 0 dX9_contentOf_16 rfl rfl ?_
  refine r_iconst (q := 18) (v := (1 : Int32)) C dX9_contentOf_17 (by decide) rfl ?_
  refine r_isub (q := 19) C dX9_contentOf_18 rfl ?_
  obtain ⟨g6, hf⟩ := m_gd_of hf
  obtain ⟨v7, e8, hf⟩ := m_lt_of hf
  refine r_nm e8 ?_
  obtain ⟨g9, hf⟩ := m_gd_of hf
  refine r_iald (q := 20) C dX9_contentOf_19 ⟨g6, g9⟩ rfl ?_
  refine r_imul (q := 21) C dX9_contentOf_20 rfl ?_
  refine r_iadd (q := 22) C dX9_contentOf_21 rfl ?_
  refine r_iconst (q := 23) (v := (2 : Int32)) C dX9_contentOf_22 (by decide) rfl ?_
  refine r_isub (q := 24) C dX9_contentOf_23 rfl ?_
  obtain ⟨v10, e11, hf⟩ := m_lt_of hf
  refine r_nm e11 ?_
  refine r_istore (q := 26) (L' := [(4, .int v10), (3, .int v1), (0, .ref a0), (1, .int p1), (2, .int p2)]) C dX9_contentOf_24 rfl (by decide) rfl ?_
  refine r_iload_n (q := 27) C 4 dX9_contentOf_26 rfl rfl ?_
  refine r_aload_n (q := 28) C 2 dX9_contentOf_27 rfl rfl ?_
  refine gf_X9_7 (q := 31) C dX9_contentOf_28 g3 e5 rfl ?_
  refine r_iload_n (q := 32) C 1 dX9_contentOf_31 rfl rfl ?_
  obtain ⟨g12, hf⟩ := m_gd_of hf
  refine r_iald (q := 33) C dX9_contentOf_32 ⟨g6, g12⟩ rfl ?_
  refine r_icmp_gt (t := 45) (q := 36) C dX9_contentOf_33 (by decide) rfl (fun c13 => ?_) (fun c13 => ?_)
  · replace hf := m_if1 hf c13
    refine r_iload_n (q := 46) C 4 dX9_contentOf_45 rfl rfl ?_
    refine r_aload_n (q := 47) C 2 dX9_contentOf_46 rfl rfl ?_
    refine gf_X9_7 (q := 50) C dX9_contentOf_47 g3 e5 rfl ?_
    refine r_iload (q := 52) C 0 dX9_contentOf_50 rfl rfl ?_
    obtain ⟨g14, hf⟩ := m_gd_of hf
    refine r_iald (q := 53) C dX9_contentOf_52 ⟨g6, g14⟩ rfl ?_
    refine r_icmp_lt (t := 66) (q := 56) C dX9_contentOf_53 (by decide) rfl (fun c15 => ?_) (fun c15 => ?_)
    · replace hf := m_if1 hf c15
      refine r_iload_n (q := 67) C 1 dX9_contentOf_66 rfl rfl ?_
      refine r_istore (q := 69) (L' := [(5, .int v1), (4, .int v10), (3, .int v1), (0, .ref a0), (1, .int p1), (2, .int p2)]) C dX9_contentOf_67 rfl (by decide) rfl ?_
      obtain ⟨j33, ej33, hf⟩ := m_jp_of hf
      have J33 : ∀ (v16 : Int32), j33 v16 = some rZ9 → m_G x Z S 6 0 0 88 [(0, .ref a0), (2, .int p2), (5, .int v16)] [] := by
        intro v16 hf
        rw [ej33] at hf
        refine r_aload_n (q := 89) C 0 dX9_contentOf_88 rfl rfl ?_
        obtain ⟨b17, e18, hf⟩ := m_b1_of hf
        refine gf_X9_7 (q := 92) C dX9_contentOf_89 g3 e18 rfl ?_
        refine r_iload (q := 94) C 2 dX9_contentOf_92 rfl rfl ?_
        refine r_iconst (q := 95) (v := (1 : Int32)) C dX9_contentOf_94 (by decide) rfl ?_
        refine r_iadd (q := 96) C dX9_contentOf_95 rfl ?_
        obtain ⟨g19, hf⟩ := m_gd_of hf
        obtain ⟨v20, e21, hf⟩ := m_lt_of hf
        refine r_nm e21 ?_
        obtain ⟨g22, hf⟩ := m_gd_of hf
        refine r_iald (q := 97) C dX9_contentOf_96 ⟨g19, g22⟩ rfl ?_
        refine r_aload_n (q := 98) C 0 dX9_contentOf_97 rfl rfl ?_
        refine gf_X9_7 (q := 101) C dX9_contentOf_98 g3 e18 rfl ?_
        refine r_iload (q := 103) C 2 dX9_contentOf_101 rfl rfl ?_
        refine r_iconst (q := 104) (v := (3 : Int32)) C dX9_contentOf_103 (by decide) rfl ?_
        refine r_iadd (q := 105) C dX9_contentOf_104 rfl ?_
        obtain ⟨v23, e24, hf⟩ := m_lt_of hf
        refine r_nm e24 ?_
        obtain ⟨g25, hf⟩ := m_gd_of hf
        refine r_iald (q := 106) C dX9_contentOf_105 ⟨g19, g25⟩ rfl ?_
        refine r_iload_n (q := 107) C 1 dX9_contentOf_106 rfl rfl ?_
        refine r_aload_n (q := 108) C 0 dX9_contentOf_107 rfl rfl ?_
        refine gf_X9_7 (q := 111) C dX9_contentOf_108 g3 e18 rfl ?_
        refine r_iload (q := 113) C 2 dX9_contentOf_111 rfl rfl ?_
        obtain ⟨g26, hf⟩ := m_gd_of hf
        refine r_iald (q := 114) C dX9_contentOf_113 ⟨g19, g26⟩ rfl ?_
        refine r_isub (q := 115) C dX9_contentOf_114 rfl ?_
        refine r_aload_n (q := 116) C 0 dX9_contentOf_115 rfl rfl ?_
        refine gf_X9_7 (q := 119) C dX9_contentOf_116 g3 e18 rfl ?_
        refine r_iload (q := 121) C 2 dX9_contentOf_119 rfl rfl ?_
        refine r_iconst (q := 122) (v := (2 : Int32)) C dX9_contentOf_121 (by decide) rfl ?_
        refine r_iadd (q := 123) C dX9_contentOf_122 rfl ?_
        obtain ⟨v27, e28, hf⟩ := m_lt_of hf
        refine r_nm e28 ?_
        obtain ⟨g29, hf⟩ := m_gd_of hf
        refine r_iald (q := 124) C dX9_contentOf_123 ⟨g19, g29⟩ rfl ?_
        refine r_aload_n (q := 125) C 0 dX9_contentOf_124 rfl rfl ?_
        refine gf_X9_7 (q := 128) C dX9_contentOf_125 g3 e18 rfl ?_
        refine r_iload (q := 130) C 2 dX9_contentOf_128 rfl rfl ?_
        obtain ⟨g30, hf⟩ := m_gd_of hf
        refine r_iald (q := 131) C dX9_contentOf_130 ⟨g19, g30⟩ rfl ?_
        refine r_isub (q := 132) C dX9_contentOf_131 rfl ?_
        obtain ⟨v32, h31, hf⟩ := m_b1_of hf
        refine r_callS (mc := 0) (ms := 0) (q := 135) (st1 := [.int v32]) C (c_X9_line hl h31) rfl w_949 w_950 w_11 w_951 hd_X9_line rfl rfl rfl ⟨(Nat.le_of_ble_eq_true rfl), (Nat.le_of_ble_eq_true rfl)⟩ (Nat.le_of_ble_eq_true rfl) ⟨(Nat.le_of_ble_eq_true rfl), (Nat.le_of_ble_eq_true rfl)⟩ dX9_contentOf_132 rfl rfl ?_
        obtain rfl := m_so1 hf
        exact r_iret C F dX9_contentOf_135
      have LL38 : ∀ (fu37 : Nat) (v34 : Int32), m_fx (F_X9_contentOf_69 Z S a0 p2 j33) fu37 v34 = some rZ9 → m_G x Z S 6 0 0 69 [(0, .ref a0), (2, .int p2), (5, .int v34)] [] := by
        intro fu37
        induction fu37 with
        | zero => intros; rename_i hf; cases hf
        | succ fu37 ih36 =>
          intro v34 hf
          replace hf : F_X9_contentOf_69 Z S a0 p2 j33 (m_fx (F_X9_contentOf_69 Z S a0 p2 j33) fu37) v34 = some rZ9 := hf
          unfold F_X9_contentOf_69 at hf
          refine r_aload_n (q := 70) C 0 dX9_contentOf_69 rfl rfl ?_
          obtain ⟨b39, e40, hf⟩ := m_b1_of hf
          refine gf_X9_7 (q := 73) C dX9_contentOf_70 g3 e40 rfl ?_
          refine r_iload (q := 75) C 2 dX9_contentOf_73 rfl rfl ?_
          refine r_iconst (q := 76) (v := (2 : Int32)) C dX9_contentOf_75 (by decide) rfl ?_
          refine r_iadd (q := 77) C dX9_contentOf_76 rfl ?_
          obtain ⟨g41, hf⟩ := m_gd_of hf
          obtain ⟨v42, e43, hf⟩ := m_lt_of hf
          refine r_nm e43 ?_
          obtain ⟨g44, hf⟩ := m_gd_of hf
          refine r_iald (q := 78) C dX9_contentOf_77 ⟨g41, g44⟩ rfl ?_
          refine r_iload_n (q := 79) C 1 dX9_contentOf_78 rfl rfl ?_
          refine r_icmp_gt (t := 88) (q := 82) C dX9_contentOf_79 (by decide) rfl (fun c45 => ?_) (fun c45 => ?_)
          · replace hf := m_if1 hf c45
            exact J33 v34 hf
          · replace hf := m_if0 hf c45
            obtain ⟨v46, e47, hf⟩ := m_lt_of hf
            refine r_iinc (q := 85) (v := v46) (L' := [(5, .int v46), (0, .ref a0), (2, .int p2)]) C 2 dX9_contentOf_82 rfl (by rw [e47]; rfl) rfl (by decide) rfl ?_
            refine r_goto (t := 69) C dX9_contentOf_85 (by decide) ?_
            refine r_sub [1, 2, 0] rfl ?_
            exact ih36 v46 hf
      refine r_sub [3, 5, 0] rfl ?_
      exact LL38 100000 v1 hf
    · replace hf := m_if0 hf c15
      refine r_aload_n (q := 57) C 2 dX9_contentOf_56 rfl rfl ?_
      refine gf_X9_7 (q := 60) C dX9_contentOf_57 g3 e5 rfl ?_
      refine r_iload (q := 62) C 0 dX9_contentOf_60 rfl rfl ?_
      refine r_iconst (q := 63) (v := (1 : Int32)) C dX9_contentOf_62 (by decide) rfl ?_
      refine r_iadd (q := 64) C dX9_contentOf_63 rfl ?_
      obtain ⟨v49, e50, hf⟩ := m_lt_of hf
      refine r_nm e50 ?_
      obtain ⟨g51, hf⟩ := m_gd_of hf
      refine r_iald (q := 65) C dX9_contentOf_64 ⟨g6, g51⟩ rfl ?_
      obtain rfl := m_so1 hf
      exact r_iret C F dX9_contentOf_65
  · replace hf := m_if0 hf c13
    refine r_aload_n (q := 37) C 2 dX9_contentOf_36 rfl rfl ?_
    refine gf_X9_7 (q := 40) C dX9_contentOf_37 g3 e5 rfl ?_
    refine r_iload_n (q := 41) C 1 dX9_contentOf_40 rfl rfl ?_
    refine r_iconst (q := 42) (v := (1 : Int32)) C dX9_contentOf_41 (by decide) rfl ?_
    refine r_iadd (q := 43) C dX9_contentOf_42 rfl ?_
    obtain ⟨v52, e53, hf⟩ := m_lt_of hf
    refine r_nm e53 ?_
    obtain ⟨g54, hf⟩ := m_gd_of hf
    refine r_iald (q := 44) C dX9_contentOf_43 ⟨g6, g54⟩ rfl ?_
    obtain rfl := m_so1 hf
    exact r_iret C F dX9_contentOf_44
def f_X9_wouldHave (Z : m_Z) (S : m_S) (a0 : Nat) (p1 : Int32) (p2 : Int32) (p3 : Int32) : Option (Int32) := m_gd (m_ok Z a0 9) (m_b1 (f_X9_contentOf Z S a0 p1 p3) (fun v3 => some ((v3 * p2) / (1000 : Int32))))
abbrev rm_X9_wouldHave : Room := { frames := 2, cells := 0, slots := 0, locals := 48 }
theorem hd_X9_wouldHave : yX9_wouldHave.cls = RX9 ∧ yX9_wouldHave.cls ≠ "java/lang/invoke/MethodHandle" ∧ yX9_wouldHave.cls ≠ "java/lang/invoke/VarHandle" ∧ (parseMethodDescriptor yX9_wouldHave.desc).map (fun d => d.parameters.length) = some 3 := by decide +kernel
set_option maxHeartbeats 4000000 in
set_option maxRecDepth 100000 in
theorem c_X9_wouldHave {l : Launch} (hl : l.stackTraces = false) {Z : m_Z} {S : m_S} {a0 : Nat} {p1 : Int32} {p2 : Int32} {p3 : Int32} {rZ9 : Int32} (hf : f_X9_wouldHave Z S a0 p1 p2 p3 = some rZ9) : m_Ct l yX9_wouldHave (.code yX9_wouldHave cX9_wouldHave 4 (some .int) :: m_ws) rm_X9_wouldHave (fun f => [.ref a0, .int p1, .int p2, .int p3]) Z S (some (.int rZ9)) S := by
  unfold f_X9_wouldHave at hf
  refine m_ent hl (by decide) (fun _ => Nat.le_of_ble_eq_true rfl) (fun x C F => ?_)
  have C : m_H x l RX9 cX9_wouldHave 4 rm_X9_wouldHave := C
  show m_G x Z S 4 0 0 0 [(0, .ref a0), (1, .int p1), (2, .int p2), (3, .int p3)] []
  refine r_aload_n (q := 1) C 0 dX9_wouldHave_0 rfl rfl ?_
  refine r_iload_n (q := 2) C 1 dX9_wouldHave_1 rfl rfl ?_
  refine r_iload_n (q := 3) C 3 dX9_wouldHave_2 rfl rfl ?_
  obtain ⟨g1, hf⟩ := m_gd_of hf
  obtain ⟨v3, h2, hf⟩ := m_b1_of hf
  refine r_callV (mc := 0) (ms := 0) (q := 6) (st1 := [.int v3]) C (c_X9_contentOf hl h2) rfl w_946 w_947 w_1328 w_11 w_948 hd_X9_contentOf rfl (by decide) g1 rfl rfl rfl ⟨(Nat.le_of_ble_eq_true rfl), (Nat.le_of_ble_eq_true rfl)⟩ (Nat.le_of_ble_eq_true rfl) ⟨(Nat.le_of_ble_eq_true rfl), (Nat.le_of_ble_eq_true rfl)⟩ dX9_wouldHave_3 rfl rfl ?_
  refine r_iload_n (q := 7) C 2 dX9_wouldHave_6 rfl rfl ?_
  refine r_imul (q := 8) C dX9_wouldHave_7 rfl ?_
  refine r_sipush (q := 11) (v := (1000 : Int32)) C dX9_wouldHave_8 (by decide) rfl ?_
  refine r_idiv (q := 12) C dX9_wouldHave_11 (by decide) rfl ?_
  obtain rfl := m_so1 hf
  exact r_iret C F dX9_wouldHave_12
def f_X9_lays (Z : m_Z) (S : m_S) (a0 : Nat) (p1 : Int32) (p2 : Int32) (p3 : Int32) : Option (Unit × m_S) := m_gd (m_ok Z a0 9) (m_b1 (S.2.2 a0 3) (fun b2 => m_gd (m_ok Z b2 11) (m_gd (m_in (((4 : Int32) + ((56 : Int32) * p1)) + p2) (Z.2.2 b2)) (m_lt (m_pI S b2 (((4 : Int32) + ((56 : Int32) * p1)) + p2).toNatClampNeg p3) (fun S6 => some ((), S6))))))
abbrev rm_X9_lays : Room := { frames := 0, cells := 0, slots := 0, locals := 0 }
theorem hd_X9_lays : yX9_lays.cls = RX9 ∧ yX9_lays.cls ≠ "java/lang/invoke/MethodHandle" ∧ yX9_lays.cls ≠ "java/lang/invoke/VarHandle" ∧ (parseMethodDescriptor yX9_lays.desc).map (fun d => d.parameters.length) = some 3 := by decide +kernel
set_option maxHeartbeats 4000000 in
set_option maxRecDepth 100000 in
theorem c_X9_lays {l : Launch} (hl : l.stackTraces = false) {Z : m_Z} {S : m_S} {a0 : Nat} {p1 : Int32} {p2 : Int32} {p3 : Int32} {rZ9 : Unit} {SZ9 : m_S} (hf : f_X9_lays Z S a0 p1 p2 p3 = some (rZ9, SZ9)) : m_Ct l yX9_lays (.code yX9_lays cX9_lays 4 none :: m_ws) rm_X9_lays (fun f => [.ref a0, .int p1, .int p2, .int p3]) Z S (none) SZ9 := by
  unfold f_X9_lays at hf
  refine m_ent hl (by decide) (fun _ => Nat.le_of_ble_eq_true rfl) (fun x C F => ?_)
  have C : m_H x l RX9 cX9_lays 4 rm_X9_lays := C
  show m_G x Z S 4 0 0 0 [(0, .ref a0), (1, .int p1), (2, .int p2), (3, .int p3)] []
  refine r_aload_n (q := 1) C 0 dX9_lays_0 rfl rfl ?_
  obtain ⟨g1, hf⟩ := m_gd_of hf
  obtain ⟨b2, e3, hf⟩ := m_b1_of hf
  refine gf_X9_16 (q := 4) C dX9_lays_1 g1 e3 rfl ?_
  refine r_iconst (q := 5) (v := (4 : Int32)) C dX9_lays_4 (by decide) rfl ?_
  refine r_bipush (q := 7) (v := (56 : Int32)) C dX9_lays_5 (by decide) rfl ?_
  refine r_iload_n (q := 8) C 1 dX9_lays_7 rfl rfl ?_
  refine r_imul (q := 9) C dX9_lays_8 rfl ?_
  refine r_iadd (q := 10) C dX9_lays_9 rfl ?_
  refine r_iload_n (q := 11) C 2 dX9_lays_10 rfl rfl ?_
  refine r_iadd (q := 12) C dX9_lays_11 rfl ?_
  refine r_iload_n (q := 13) C 3 dX9_lays_12 rfl rfl ?_
  obtain ⟨g4, hf⟩ := m_gd_of hf
  obtain ⟨g5, hf⟩ := m_gd_of hf
  obtain ⟨S6, e7, hf⟩ := m_lt_of hf
  refine r_iast (q := 14) C dX9_lays_13 ⟨g4, g5⟩ rfl ?_
  rw [← e7]
  obtain ⟨rfl, rfl⟩ := m_so2 hf
  exact r_vret C F dX9_lays_14
def f_X9_cassettes (Z : m_Z) (S : m_S) (a0 : Nat) (p1 : Int32) (p2 : Int32) (p3 : Int32) (p4 : Int32) : Option (Unit × m_S) := m_gd (m_ok Z a0 9) (m_b1 (S.2.2 a0 3) (fun b2 => m_gd (m_ok Z b2 11) (m_gd (m_in (((((4 : Int32) + ((56 : Int32) * p1)) + (8 : Int32)) + ((4 : Int32) * p2)) + p3) (Z.2.2 b2)) (m_lt (m_pI S b2 (((((4 : Int32) + ((56 : Int32) * p1)) + (8 : Int32)) + ((4 : Int32) * p2)) + p3).toNatClampNeg p4) (fun S6 => some ((), S6))))))
abbrev rm_X9_cassettes : Room := { frames := 0, cells := 0, slots := 0, locals := 0 }
theorem hd_X9_cassettes : yX9_cassettes.cls = RX9 ∧ yX9_cassettes.cls ≠ "java/lang/invoke/MethodHandle" ∧ yX9_cassettes.cls ≠ "java/lang/invoke/VarHandle" ∧ (parseMethodDescriptor yX9_cassettes.desc).map (fun d => d.parameters.length) = some 4 := by decide +kernel
set_option maxHeartbeats 4000000 in
set_option maxRecDepth 100000 in
theorem c_X9_cassettes {l : Launch} (hl : l.stackTraces = false) {Z : m_Z} {S : m_S} {a0 : Nat} {p1 : Int32} {p2 : Int32} {p3 : Int32} {p4 : Int32} {rZ9 : Unit} {SZ9 : m_S} (hf : f_X9_cassettes Z S a0 p1 p2 p3 p4 = some (rZ9, SZ9)) : m_Ct l yX9_cassettes (.code yX9_cassettes cX9_cassettes 5 none :: m_ws) rm_X9_cassettes (fun f => [.ref a0, .int p1, .int p2, .int p3, .int p4]) Z S (none) SZ9 := by
  unfold f_X9_cassettes at hf
  refine m_ent hl (by decide) (fun _ => Nat.le_of_ble_eq_true rfl) (fun x C F => ?_)
  have C : m_H x l RX9 cX9_cassettes 5 rm_X9_cassettes := C
  show m_G x Z S 5 0 0 0 [(0, .ref a0), (1, .int p1), (2, .int p2), (3, .int p3), (4, .int p4)] []
  refine r_aload_n (q := 1) C 0 dX9_cassettes_0 rfl rfl ?_
  obtain ⟨g1, hf⟩ := m_gd_of hf
  obtain ⟨b2, e3, hf⟩ := m_b1_of hf
  refine gf_X9_16 (q := 4) C dX9_cassettes_1 g1 e3 rfl ?_
  refine r_iconst (q := 5) (v := (4 : Int32)) C dX9_cassettes_4 (by decide) rfl ?_
  refine r_bipush (q := 7) (v := (56 : Int32)) C dX9_cassettes_5 (by decide) rfl ?_
  refine r_iload_n (q := 8) C 1 dX9_cassettes_7 rfl rfl ?_
  refine r_imul (q := 9) C dX9_cassettes_8 rfl ?_
  refine r_iadd (q := 10) C dX9_cassettes_9 rfl ?_
  refine r_bipush (q := 12) (v := (8 : Int32)) C dX9_cassettes_10 (by decide) rfl ?_
  refine r_iadd (q := 13) C dX9_cassettes_12 rfl ?_
  refine r_iconst (q := 14) (v := (4 : Int32)) C dX9_cassettes_13 (by decide) rfl ?_
  refine r_iload_n (q := 15) C 2 dX9_cassettes_14 rfl rfl ?_
  refine r_imul (q := 16) C dX9_cassettes_15 rfl ?_
  refine r_iadd (q := 17) C dX9_cassettes_16 rfl ?_
  refine r_iload_n (q := 18) C 3 dX9_cassettes_17 rfl rfl ?_
  refine r_iadd (q := 19) C dX9_cassettes_18 rfl ?_
  refine r_iload (q := 21) C 4 dX9_cassettes_19 rfl rfl ?_
  obtain ⟨g4, hf⟩ := m_gd_of hf
  obtain ⟨g5, hf⟩ := m_gd_of hf
  obtain ⟨S6, e7, hf⟩ := m_lt_of hf
  refine r_iast (q := 22) C dX9_cassettes_21 ⟨g4, g5⟩ rfl ?_
  rw [← e7]
  obtain ⟨rfl, rfl⟩ := m_so2 hf
  exact r_vret C F dX9_cassettes_22
def f_X9_counts (Z : m_Z) (S : m_S) (a0 : Nat) (p1 : Int32) (p2 : Int32) (p3 : Int64) : Option (Unit × m_S) := m_gd (m_ok Z a0 9) (m_b1 (S.2.2 a0 7) (fun b2 => m_lt (((5 : Int32) * p1) + p2) (fun v4 => m_gd (m_ok Z b2 12) (m_gd (m_in v4 (Z.2.2 b2)) (m_gd (m_in v4 (Z.2.2 b2)) (m_lt (m_pJ S b2 v4.toNatClampNeg ((S.2.1 b2 v4.toNatClampNeg) + p3)) (fun S9 => some ((), S9))))))))
abbrev rm_X9_counts : Room := { frames := 0, cells := 0, slots := 0, locals := 0 }
theorem hd_X9_counts : yX9_counts.cls = RX9 ∧ yX9_counts.cls ≠ "java/lang/invoke/MethodHandle" ∧ yX9_counts.cls ≠ "java/lang/invoke/VarHandle" ∧ (parseMethodDescriptor yX9_counts.desc).map (fun d => d.parameters.length) = some 3 := by decide +kernel
set_option maxHeartbeats 4000000 in
set_option maxRecDepth 100000 in
theorem c_X9_counts {l : Launch} (hl : l.stackTraces = false) {Z : m_Z} {S : m_S} {a0 : Nat} {p1 : Int32} {p2 : Int32} {p3 : Int64} {rZ9 : Unit} {SZ9 : m_S} (hf : f_X9_counts Z S a0 p1 p2 p3 = some (rZ9, SZ9)) : m_Ct l yX9_counts (.code yX9_counts cX9_counts 5 none :: m_ws) rm_X9_counts (fun f => [.ref a0, .int p1, .int p2, .long p3]) Z S (none) SZ9 := by
  unfold f_X9_counts at hf
  refine m_ent hl (by decide) (fun _ => Nat.le_of_ble_eq_true rfl) (fun x C F => ?_)
  have C : m_H x l RX9 cX9_counts 5 rm_X9_counts := C
  show m_G x Z S 5 0 0 0 [(0, .ref a0), (1, .int p1), (2, .int p2), (3, .long p3)] []
  refine r_aload_n (q := 1) C 0 dX9_counts_0 rfl rfl ?_
  obtain ⟨g1, hf⟩ := m_gd_of hf
  obtain ⟨b2, e3, hf⟩ := m_b1_of hf
  refine gf_X9_28 (q := 4) C dX9_counts_1 g1 e3 rfl ?_
  refine r_iconst (q := 5) (v := (5 : Int32)) C dX9_counts_4 (by decide) rfl ?_
  refine r_iload_n (q := 6) C 1 dX9_counts_5 rfl rfl ?_
  refine r_imul (q := 7) C dX9_counts_6 rfl ?_
  refine r_iload_n (q := 8) C 2 dX9_counts_7 rfl rfl ?_
  refine r_iadd (q := 9) C dX9_counts_8 rfl ?_
  obtain ⟨v4, e5, hf⟩ := m_lt_of hf
  refine r_nm e5 ?_
  refine r_dup2 (q := 10) C dX9_counts_9 rfl rfl rfl ?_
  obtain ⟨g6, hf⟩ := m_gd_of hf
  obtain ⟨g7, hf⟩ := m_gd_of hf
  refine r_lald (q := 11) C dX9_counts_10 ⟨g6, g7⟩ rfl ?_
  refine r_lload_n (q := 12) C 3 dX9_counts_11 rfl rfl ?_
  refine r_ladd (q := 13) C dX9_counts_12 rfl ?_
  obtain ⟨g8, hf⟩ := m_gd_of hf
  obtain ⟨S9, e10, hf⟩ := m_lt_of hf
  refine r_last (q := 14) C dX9_counts_13 ⟨g6, g8⟩ rfl ?_
  rw [← e10]
  obtain ⟨rfl, rfl⟩ := m_so2 hf
  exact r_vret C F dX9_counts_14
def f_X9_puts (Z : m_Z) (S : m_S) (a0 : Nat) (p1 : Int32) (p2 : Int32) (p3 : Int32) (p4 : Int32) (p5 : Int32) (p6 : Int32) : Option (Unit × m_S) := m_gd (m_ok Z a0 9) (m_bw (f_X9_cassettes Z S a0 p1 p2 (0 : Int32) p3) (fun _u S3 => m_bw (f_X9_cassettes Z S3 a0 p1 p2 (1 : Int32) p4) (fun _u S5 => m_bw (f_X9_cassettes Z S5 a0 p1 p2 (2 : Int32) p5) (fun _u S7 => m_bw (f_X9_cassettes Z S7 a0 p1 p2 (3 : Int32) p6) (fun _u S9 => m_bw (f_X9_counts Z S9 a0 p1 (3 : Int32) p6.toInt64) (fun _u S11 => some ((), S11)))))))
abbrev rm_X9_puts : Room := { frames := 1, cells := 0, slots := 0, locals := 24 }
theorem hd_X9_puts : yX9_puts.cls = RX9 ∧ yX9_puts.cls ≠ "java/lang/invoke/MethodHandle" ∧ yX9_puts.cls ≠ "java/lang/invoke/VarHandle" ∧ (parseMethodDescriptor yX9_puts.desc).map (fun d => d.parameters.length) = some 6 := by decide +kernel
set_option maxHeartbeats 4000000 in
set_option maxRecDepth 100000 in
theorem c_X9_puts {l : Launch} (hl : l.stackTraces = false) {Z : m_Z} {S : m_S} {a0 : Nat} {p1 : Int32} {p2 : Int32} {p3 : Int32} {p4 : Int32} {p5 : Int32} {p6 : Int32} {rZ9 : Unit} {SZ9 : m_S} (hf : f_X9_puts Z S a0 p1 p2 p3 p4 p5 p6 = some (rZ9, SZ9)) : m_Ct l yX9_puts (.code yX9_puts cX9_puts 7 none :: m_ws) rm_X9_puts (fun f => [.ref a0, .int p1, .int p2, .int p3, .int p4, .int p5, .int p6]) Z S (none) SZ9 := by
  unfold f_X9_puts at hf
  refine m_ent hl (by decide) (fun _ => Nat.le_of_ble_eq_true rfl) (fun x C F => ?_)
  have C : m_H x l RX9 cX9_puts 7 rm_X9_puts := C
  show m_G x Z S 7 0 0 0 [(0, .ref a0), (1, .int p1), (2, .int p2), (3, .int p3), (4, .int p4), (5, .int p5), (6, .int p6)] []
  refine r_aload_n (q := 1) C 0 dX9_puts_0 rfl rfl ?_
  refine r_iload_n (q := 2) C 1 dX9_puts_1 rfl rfl ?_
  refine r_iload_n (q := 3) C 2 dX9_puts_2 rfl rfl ?_
  refine r_iconst (q := 4) (v := (0 : Int32)) C dX9_puts_3 (by decide) rfl ?_
  refine r_iload_n (q := 5) C 3 dX9_puts_4 rfl rfl ?_
  obtain ⟨g1, hf⟩ := m_gd_of hf
  obtain ⟨_u, S3, h2, hf⟩ := m_bw_of hf
  refine r_callV (mc := 0) (ms := 0) (q := 8) (st1 := []) C (c_X9_cassettes hl h2) rfl w_952 w_953 w_1329 w_11 w_954 hd_X9_cassettes rfl (by decide) g1 rfl rfl rfl ⟨(Nat.le_of_ble_eq_true rfl), (Nat.le_of_ble_eq_true rfl)⟩ (Nat.le_of_ble_eq_true rfl) ⟨(Nat.le_of_ble_eq_true rfl), (Nat.le_of_ble_eq_true rfl)⟩ dX9_puts_5 rfl rfl ?_
  refine r_aload_n (q := 9) C 0 dX9_puts_8 rfl rfl ?_
  refine r_iload_n (q := 10) C 1 dX9_puts_9 rfl rfl ?_
  refine r_iload_n (q := 11) C 2 dX9_puts_10 rfl rfl ?_
  refine r_iconst (q := 12) (v := (1 : Int32)) C dX9_puts_11 (by decide) rfl ?_
  refine r_iload (q := 14) C 4 dX9_puts_12 rfl rfl ?_
  obtain ⟨_u, S5, h4, hf⟩ := m_bw_of hf
  refine r_callV (mc := 0) (ms := 0) (q := 17) (st1 := []) C (c_X9_cassettes hl h4) rfl w_952 w_953 w_1329 w_11 w_954 hd_X9_cassettes rfl (by decide) g1 rfl rfl rfl ⟨(Nat.le_of_ble_eq_true rfl), (Nat.le_of_ble_eq_true rfl)⟩ (Nat.le_of_ble_eq_true rfl) ⟨(Nat.le_of_ble_eq_true rfl), (Nat.le_of_ble_eq_true rfl)⟩ dX9_puts_14 rfl rfl ?_
  refine r_aload_n (q := 18) C 0 dX9_puts_17 rfl rfl ?_
  refine r_iload_n (q := 19) C 1 dX9_puts_18 rfl rfl ?_
  refine r_iload_n (q := 20) C 2 dX9_puts_19 rfl rfl ?_
  refine r_iconst (q := 21) (v := (2 : Int32)) C dX9_puts_20 (by decide) rfl ?_
  refine r_iload (q := 23) C 5 dX9_puts_21 rfl rfl ?_
  obtain ⟨_u, S7, h6, hf⟩ := m_bw_of hf
  refine r_callV (mc := 0) (ms := 0) (q := 26) (st1 := []) C (c_X9_cassettes hl h6) rfl w_952 w_953 w_1329 w_11 w_954 hd_X9_cassettes rfl (by decide) g1 rfl rfl rfl ⟨(Nat.le_of_ble_eq_true rfl), (Nat.le_of_ble_eq_true rfl)⟩ (Nat.le_of_ble_eq_true rfl) ⟨(Nat.le_of_ble_eq_true rfl), (Nat.le_of_ble_eq_true rfl)⟩ dX9_puts_23 rfl rfl ?_
  refine r_aload_n (q := 27) C 0 dX9_puts_26 rfl rfl ?_
  refine r_iload_n (q := 28) C 1 dX9_puts_27 rfl rfl ?_
  refine r_iload_n (q := 29) C 2 dX9_puts_28 rfl rfl ?_
  refine r_iconst (q := 30) (v := (3 : Int32)) C dX9_puts_29 (by decide) rfl ?_
  refine r_iload (q := 32) C 6 dX9_puts_30 rfl rfl ?_
  obtain ⟨_u, S9, h8, hf⟩ := m_bw_of hf
  refine r_callV (mc := 0) (ms := 0) (q := 35) (st1 := []) C (c_X9_cassettes hl h8) rfl w_952 w_953 w_1329 w_11 w_954 hd_X9_cassettes rfl (by decide) g1 rfl rfl rfl ⟨(Nat.le_of_ble_eq_true rfl), (Nat.le_of_ble_eq_true rfl)⟩ (Nat.le_of_ble_eq_true rfl) ⟨(Nat.le_of_ble_eq_true rfl), (Nat.le_of_ble_eq_true rfl)⟩ dX9_puts_32 rfl rfl ?_
  refine r_aload_n (q := 36) C 0 dX9_puts_35 rfl rfl ?_
  refine r_iload_n (q := 37) C 1 dX9_puts_36 rfl rfl ?_
  refine r_iconst (q := 38) (v := (3 : Int32)) C dX9_puts_37 (by decide) rfl ?_
  refine r_iload (q := 40) C 6 dX9_puts_38 rfl rfl ?_
  refine r_i2l (q := 41) C dX9_puts_40 rfl ?_
  obtain ⟨_u, S11, h10, hf⟩ := m_bw_of hf
  refine r_callV (mc := 0) (ms := 0) (q := 44) (st1 := []) C (c_X9_counts hl h10) rfl w_1188 w_1189 w_1359 w_11 w_1190 hd_X9_counts rfl (by decide) g1 rfl rfl rfl ⟨(Nat.le_of_ble_eq_true rfl), (Nat.le_of_ble_eq_true rfl)⟩ (Nat.le_of_ble_eq_true rfl) ⟨(Nat.le_of_ble_eq_true rfl), (Nat.le_of_ble_eq_true rfl)⟩ dX9_puts_41 rfl rfl ?_
  obtain ⟨rfl, rfl⟩ := m_so2 hf
  exact r_vret C F dX9_puts_44
def f_X9_addsTo (Z : m_Z) (S : m_S) (a0 : Nat) (p1 : Int32) (p2 : Int32) (p3 : Int32) (p4 : Int32) (p5 : Int32) : Option (Unit × m_S) := m_gd (m_ok Z a0 9) (m_b1 (f_X9_of Z S a0 p1 (4 : Int32)) (fun v3 => m_bw (f_X9_lays Z S a0 p1 (4 : Int32) (v3 + (1 : Int32))) (fun _u S5 => m_bw (f_X9_puts Z S5 a0 p1 v3 p2 p3 p4 p5) (fun _u S7 => some ((), S7)))))
abbrev rm_X9_addsTo : Room := { frames := 2, cells := 0, slots := 0, locals := 50 }
theorem hd_X9_addsTo : yX9_addsTo.cls = RX9 ∧ yX9_addsTo.cls ≠ "java/lang/invoke/MethodHandle" ∧ yX9_addsTo.cls ≠ "java/lang/invoke/VarHandle" ∧ (parseMethodDescriptor yX9_addsTo.desc).map (fun d => d.parameters.length) = some 5 := by decide +kernel
set_option maxHeartbeats 4000000 in
set_option maxRecDepth 100000 in
theorem c_X9_addsTo {l : Launch} (hl : l.stackTraces = false) {Z : m_Z} {S : m_S} {a0 : Nat} {p1 : Int32} {p2 : Int32} {p3 : Int32} {p4 : Int32} {p5 : Int32} {rZ9 : Unit} {SZ9 : m_S} (hf : f_X9_addsTo Z S a0 p1 p2 p3 p4 p5 = some (rZ9, SZ9)) : m_Ct l yX9_addsTo (.code yX9_addsTo cX9_addsTo 7 none :: m_ws) rm_X9_addsTo (fun f => [.ref a0, .int p1, .int p2, .int p3, .int p4, .int p5]) Z S (none) SZ9 := by
  unfold f_X9_addsTo at hf
  refine m_ent hl (by decide) (fun _ => Nat.le_of_ble_eq_true rfl) (fun x C F => ?_)
  have C : m_H x l RX9 cX9_addsTo 7 rm_X9_addsTo := C
  show m_G x Z S 7 0 0 0 [(0, .ref a0), (1, .int p1), (2, .int p2), (3, .int p3), (4, .int p4), (5, .int p5)] []
  refine r_aload_n (q := 1) C 0 dX9_addsTo_0 rfl rfl ?_
  refine r_iload_n (q := 2) C 1 dX9_addsTo_1 rfl rfl ?_
  refine r_iconst (q := 3) (v := (4 : Int32)) C dX9_addsTo_2 (by decide) rfl ?_
  obtain ⟨g1, hf⟩ := m_gd_of hf
  obtain ⟨v3, h2, hf⟩ := m_b1_of hf
  refine r_callV (mc := 0) (ms := 0) (q := 6) (st1 := [.int v3]) C (c_X9_of hl h2) rfl w_937 w_938 w_1325 w_11 w_939 hd_X9_of rfl (by decide) g1 rfl rfl rfl ⟨(Nat.le_of_ble_eq_true rfl), (Nat.le_of_ble_eq_true rfl)⟩ (Nat.le_of_ble_eq_true rfl) ⟨(Nat.le_of_ble_eq_true rfl), (Nat.le_of_ble_eq_true rfl)⟩ dX9_addsTo_3 rfl rfl ?_
  refine r_istore (q := 8) (L' := [(6, .int v3), (0, .ref a0), (1, .int p1), (2, .int p2), (3, .int p3), (4, .int p4), (5, .int p5)]) C dX9_addsTo_6 rfl (by decide) rfl ?_
  refine r_aload_n (q := 9) C 1 dX9_addsTo_8 rfl rfl ?_
  refine r_iload_n (q := 10) C 2 dX9_addsTo_9 rfl rfl ?_
  refine r_iconst (q := 11) (v := (4 : Int32)) C dX9_addsTo_10 (by decide) rfl ?_
  refine r_iload (q := 13) C 0 dX9_addsTo_11 rfl rfl ?_
  refine r_iconst (q := 14) (v := (1 : Int32)) C dX9_addsTo_13 (by decide) rfl ?_
  refine r_iadd (q := 15) C dX9_addsTo_14 rfl ?_
  obtain ⟨_u, S5, h4, hf⟩ := m_bw_of hf
  refine r_callV (mc := 0) (ms := 0) (q := 18) (st1 := []) C (c_X9_lays hl h4) rfl w_955 w_956 w_1330 w_11 w_957 hd_X9_lays rfl (by decide) g1 rfl rfl rfl ⟨(Nat.le_of_ble_eq_true rfl), (Nat.le_of_ble_eq_true rfl)⟩ (Nat.le_of_ble_eq_true rfl) ⟨(Nat.le_of_ble_eq_true rfl), (Nat.le_of_ble_eq_true rfl)⟩ dX9_addsTo_15 rfl rfl ?_
  refine r_aload_n (q := 19) C 1 dX9_addsTo_18 rfl rfl ?_
  refine r_iload_n (q := 20) C 2 dX9_addsTo_19 rfl rfl ?_
  refine r_iload (q := 22) C 0 dX9_addsTo_20 rfl rfl ?_
  refine r_iload_n (q := 23) C 3 dX9_addsTo_22 rfl rfl ?_
  refine r_iload_n (q := 24) C 4 dX9_addsTo_23 rfl rfl ?_
  refine r_iload (q := 26) C 5 dX9_addsTo_24 rfl rfl ?_
  refine r_iload (q := 28) C 6 dX9_addsTo_26 rfl rfl ?_
  obtain ⟨_u, S7, h6, hf⟩ := m_bw_of hf
  refine r_callV (mc := 0) (ms := 0) (q := 31) (st1 := []) C (c_X9_puts hl h6) rfl w_1215 w_1216 w_1364 w_11 w_1217 hd_X9_puts rfl (by decide) g1 rfl rfl rfl ⟨(Nat.le_of_ble_eq_true rfl), (Nat.le_of_ble_eq_true rfl)⟩ (Nat.le_of_ble_eq_true rfl) ⟨(Nat.le_of_ble_eq_true rfl), (Nat.le_of_ble_eq_true rfl)⟩ dX9_addsTo_28 rfl rfl ?_
  obtain ⟨rfl, rfl⟩ := m_so2 hf
  exact r_vret C F dX9_addsTo_31
def f_X9_add (Z : m_Z) (S : m_S) (a0 : Nat) (p1 : Int32) (p2 : Int32) (p3 : Int32) (p4 : Int32) : Option (Int32 × m_S) := m_gd (m_ok Z a0 9) (m_lt (m_pI S a0 0 (0 : Int32)) (fun S2 => m_b1 (f_X9_isCase Z S2 a0 p1) (fun v5 => m_jp (fun (v7 : Int32) => m_bw (f_X9_may Z S2 a0 v7 (1 : Int32)) (fun v10 S9 => (if v10 = 0 then some ((0 : Int32), S9) else m_b1 (f_X9_isIn Z S9 p3 (1 : Int32) (999 : Int32)) (fun v13 => m_jp (fun (v15 : Int32) => m_bw (f_X9_may Z S9 a0 v15 (2 : Int32)) (fun v18 S17 => (if v18 = 0 then some ((0 : Int32), S17) else m_b1 (f_X9_of Z S17 a0 p1 (4 : Int32)) (fun v21 => m_jp (fun (v23 : Int32) => m_bw (f_X9_may Z S17 a0 v23 (3 : Int32)) (fun v26 S25 => (if ¬ v26 = 0 then m_bw (f_X9_newSerial Z S25 a0) (fun v30 S29 => m_b1 (f_X9_wouldHave Z S29 a0 p2 p3 p4) (fun v32 => m_bw (f_X9_addsTo Z S29 a0 p1 v30 p2 p3 v32) (fun _u S34 => some (v30, S34)))) else some ((0 : Int32), S25)))) (fun j22 => (if (5 : Int32) ≤ v21 then j22 (0 : Int32) else j22 (1 : Int32))))))) (fun j14 => m_jp (fun (_ : Unit) => j14 (0 : Int32)) (fun j36 => (if v13 = 0 then j36 () else m_b1 (f_X9_isIn Z S9 p4 (0 : Int32) (1000 : Int32)) (fun v39 => (if v39 = 0 then j36 () else j14 (1 : Int32)))))))))) (fun j6 => m_jp (fun (_ : Unit) => j6 (0 : Int32)) (fun j41 => (if v5 = 0 then j41 () else m_b1 (f_X9_isKind Z S2 a0 p2) (fun v44 => (if v44 = 0 then j41 () else j6 (1 : Int32)))))))))
abbrev rm_X9_add : Room := { frames := 3, cells := 0, slots := 0, locals := 76 }
theorem hd_X9_add : yX9_add.cls = RX9 ∧ yX9_add.cls ≠ "java/lang/invoke/MethodHandle" ∧ yX9_add.cls ≠ "java/lang/invoke/VarHandle" ∧ (parseMethodDescriptor yX9_add.desc).map (fun d => d.parameters.length) = some 4 := by decide +kernel
set_option maxHeartbeats 4000000 in
set_option maxRecDepth 100000 in
theorem c_X9_add {l : Launch} (hl : l.stackTraces = false) {Z : m_Z} {S : m_S} {a0 : Nat} {p1 : Int32} {p2 : Int32} {p3 : Int32} {p4 : Int32} {rZ9 : Int32} {SZ9 : m_S} (hf : f_X9_add Z S a0 p1 p2 p3 p4 = some (rZ9, SZ9)) : m_Ct l yX9_add (.code yX9_add cX9_add 6 (some .int) :: m_ws) rm_X9_add (fun f => [.ref a0, .int p1, .int p2, .int p3, .int p4]) Z S (some (.int rZ9)) SZ9 := by
  unfold f_X9_add at hf
  refine m_ent hl (by decide) (fun _ => Nat.le_of_ble_eq_true rfl) (fun x C F => ?_)
  have C : m_H x l RX9 cX9_add 6 rm_X9_add := C
  show m_G x Z S 6 0 0 0 [(0, .ref a0), (1, .int p1), (2, .int p2), (3, .int p3), (4, .int p4)] []
  refine r_aload_n (q := 1) C 0 dX9_add_0 rfl rfl ?_
  refine r_iconst (q := 2) (v := (0 : Int32)) C dX9_add_1 (by decide) rfl ?_
  obtain ⟨g1, hf⟩ := m_gd_of hf
  obtain ⟨S2, e3, hf⟩ := m_lt_of hf
  refine pf_X9_61 (q := 5) C dX9_add_2 g1 e3 rfl ?_
  refine r_aload_n (q := 6) C 0 dX9_add_5 rfl rfl ?_
  refine r_aload_n (q := 7) C 0 dX9_add_6 rfl rfl ?_
  refine r_iload_n (q := 8) C 1 dX9_add_7 rfl rfl ?_
  obtain ⟨v5, h4, hf⟩ := m_b1_of hf
  refine r_callV (mc := 0) (ms := 0) (q := 11) (st1 := [.int v5, .ref a0]) C (c_X9_isCase hl h4) rfl w_1146 w_1147 w_1356 w_11 w_1148 hd_X9_isCase rfl (by decide) g1 rfl rfl rfl ⟨(Nat.le_of_ble_eq_true rfl), (Nat.le_of_ble_eq_true rfl)⟩ (Nat.le_of_ble_eq_true rfl) ⟨(Nat.le_of_ble_eq_true rfl), (Nat.le_of_ble_eq_true rfl)⟩ dX9_add_8 rfl rfl ?_
  obtain ⟨j6, ej6, hf⟩ := m_jp_of hf
  have J6 : ∀ (v7 : Int32), j6 v7 = some (rZ9, SZ9) → m_G x Z S2 6 0 0 27 [(0, .ref a0), (1, .int p1), (2, .int p2), (3, .int p3), (4, .int p4)] [.int v7, .ref a0] := by
    intro v7 hf
    rw [ej6] at hf
    refine r_iconst (q := 28) (v := (1 : Int32)) C dX9_add_27 (by decide) rfl ?_
    obtain ⟨v10, S9, h8, hf⟩ := m_bw_of hf
    refine r_callV (mc := 0) (ms := 0) (q := 31) (st1 := [.int v10]) C (c_X9_may hl h8) rfl w_1024 w_1025 w_1333 w_11 w_1026 hd_X9_may rfl (by decide) g1 rfl rfl rfl ⟨(Nat.le_of_ble_eq_true rfl), (Nat.le_of_ble_eq_true rfl)⟩ (Nat.le_of_ble_eq_true rfl) ⟨(Nat.le_of_ble_eq_true rfl), (Nat.le_of_ble_eq_true rfl)⟩ dX9_add_28 rfl rfl ?_
    refine r_if_eq (t := 93) (q := 34) C dX9_add_31 (by decide) rfl (fun c11 => ?_) (fun c11 => ?_)
    · replace hf := m_if1 hf c11
      refine r_iconst (q := 94) (v := (0 : Int32)) C dX9_add_93 (by decide) rfl ?_
      obtain ⟨rfl, rfl⟩ := m_so2 hf
      exact r_iret C F dX9_add_94
    · replace hf := m_if0 hf c11
      refine r_aload_n (q := 35) C 0 dX9_add_34 rfl rfl ?_
      refine r_iload_n (q := 36) C 3 dX9_add_35 rfl rfl ?_
      refine r_iconst (q := 37) (v := (1 : Int32)) C dX9_add_36 (by decide) rfl ?_
      refine r_sipush (q := 40) (v := (999 : Int32)) C dX9_add_37 (by decide) rfl ?_
      obtain ⟨v13, h12, hf⟩ := m_b1_of hf
      refine r_callS (mc := 0) (ms := 0) (q := 43) (st1 := [.int v13, .ref a0]) C (c_X9_isIn hl h12) rfl w_1031 w_1032 w_11 w_1033 hd_X9_isIn rfl rfl rfl ⟨(Nat.le_of_ble_eq_true rfl), (Nat.le_of_ble_eq_true rfl)⟩ (Nat.le_of_ble_eq_true rfl) ⟨(Nat.le_of_ble_eq_true rfl), (Nat.le_of_ble_eq_true rfl)⟩ dX9_add_40 rfl rfl ?_
      obtain ⟨j14, ej14, hf⟩ := m_jp_of hf
      have J14 : ∀ (v15 : Int32), j14 v15 = some (rZ9, SZ9) → m_G x Z S9 6 0 0 63 [(0, .ref a0), (1, .int p1), (2, .int p2), (3, .int p3), (4, .int p4)] [.int v15, .ref a0] := by
        intro v15 hf
        rw [ej14] at hf
        refine r_iconst (q := 64) (v := (2 : Int32)) C dX9_add_63 (by decide) rfl ?_
        obtain ⟨v18, S17, h16, hf⟩ := m_bw_of hf
        refine r_callV (mc := 0) (ms := 0) (q := 67) (st1 := [.int v18]) C (c_X9_may hl h16) rfl w_1024 w_1025 w_1333 w_11 w_1026 hd_X9_may rfl (by decide) g1 rfl rfl rfl ⟨(Nat.le_of_ble_eq_true rfl), (Nat.le_of_ble_eq_true rfl)⟩ (Nat.le_of_ble_eq_true rfl) ⟨(Nat.le_of_ble_eq_true rfl), (Nat.le_of_ble_eq_true rfl)⟩ dX9_add_64 rfl rfl ?_
        refine r_if_eq (t := 93) (q := 70) C dX9_add_67 (by decide) rfl (fun c19 => ?_) (fun c19 => ?_)
        · replace hf := m_if1 hf c19
          refine r_iconst (q := 94) (v := (0 : Int32)) C dX9_add_93 (by decide) rfl ?_
          obtain ⟨rfl, rfl⟩ := m_so2 hf
          exact r_iret C F dX9_add_94
        · replace hf := m_if0 hf c19
          refine r_aload_n (q := 71) C 0 dX9_add_70 rfl rfl ?_
          refine r_aload_n (q := 72) C 0 dX9_add_71 rfl rfl ?_
          refine r_iload_n (q := 73) C 1 dX9_add_72 rfl rfl ?_
          refine r_iconst (q := 74) (v := (4 : Int32)) C dX9_add_73 (by decide) rfl ?_
          obtain ⟨v21, h20, hf⟩ := m_b1_of hf
          refine r_callV (mc := 0) (ms := 0) (q := 77) (st1 := [.int v21, .ref a0]) C (c_X9_of hl h20) rfl w_937 w_938 w_1325 w_11 w_939 hd_X9_of rfl (by decide) g1 rfl rfl rfl ⟨(Nat.le_of_ble_eq_true rfl), (Nat.le_of_ble_eq_true rfl)⟩ (Nat.le_of_ble_eq_true rfl) ⟨(Nat.le_of_ble_eq_true rfl), (Nat.le_of_ble_eq_true rfl)⟩ dX9_add_74 rfl rfl ?_
          refine r_iconst (q := 78) (v := (5 : Int32)) C dX9_add_77 (by decide) rfl ?_
          obtain ⟨j22, ej22, hf⟩ := m_jp_of hf
          have J22 : ∀ (v23 : Int32), j22 v23 = some (rZ9, SZ9) → m_G x Z S17 6 0 0 86 [(0, .ref a0), (1, .int p1), (2, .int p2), (3, .int p3), (4, .int p4)] [.int v23, .ref a0] := by
            intro v23 hf
            rw [ej22] at hf
            refine r_iconst (q := 87) (v := (3 : Int32)) C dX9_add_86 (by decide) rfl ?_
            obtain ⟨v26, S25, h24, hf⟩ := m_bw_of hf
            refine r_callV (mc := 0) (ms := 0) (q := 90) (st1 := [.int v26]) C (c_X9_may hl h24) rfl w_1024 w_1025 w_1333 w_11 w_1026 hd_X9_may rfl (by decide) g1 rfl rfl rfl ⟨(Nat.le_of_ble_eq_true rfl), (Nat.le_of_ble_eq_true rfl)⟩ (Nat.le_of_ble_eq_true rfl) ⟨(Nat.le_of_ble_eq_true rfl), (Nat.le_of_ble_eq_true rfl)⟩ dX9_add_87 rfl rfl ?_
            refine r_if_ne (t := 95) (q := 93) C dX9_add_90 (by decide) rfl (fun c27 => ?_) (fun c27 => ?_)
            · replace hf := m_if1 hf c27
              refine r_aload_n (q := 96) C 0 dX9_add_95 rfl rfl ?_
              obtain ⟨v30, S29, h28, hf⟩ := m_bw_of hf
              refine r_callV (mc := 0) (ms := 0) (q := 99) (st1 := [.int v30]) C (c_X9_newSerial hl h28) rfl w_1209 w_1210 w_1362 w_11 w_1211 hd_X9_newSerial rfl (by decide) g1 rfl rfl rfl ⟨(Nat.le_of_ble_eq_true rfl), (Nat.le_of_ble_eq_true rfl)⟩ (Nat.le_of_ble_eq_true rfl) ⟨(Nat.le_of_ble_eq_true rfl), (Nat.le_of_ble_eq_true rfl)⟩ dX9_add_96 rfl rfl ?_
              refine r_istore (q := 101) (L' := [(5, .int v30), (0, .ref a0), (1, .int p1), (2, .int p2), (3, .int p3), (4, .int p4)]) C dX9_add_99 rfl (by decide) rfl ?_
              refine r_aload_n (q := 102) C 1 dX9_add_101 rfl rfl ?_
              refine r_iload_n (q := 103) C 2 dX9_add_102 rfl rfl ?_
              refine r_iload (q := 105) C 0 dX9_add_103 rfl rfl ?_
              refine r_iload_n (q := 106) C 3 dX9_add_105 rfl rfl ?_
              refine r_iload_n (q := 107) C 4 dX9_add_106 rfl rfl ?_
              refine r_aload_n (q := 108) C 1 dX9_add_107 rfl rfl ?_
              refine r_iload_n (q := 109) C 3 dX9_add_108 rfl rfl ?_
              refine r_iload_n (q := 110) C 4 dX9_add_109 rfl rfl ?_
              refine r_iload (q := 112) C 5 dX9_add_110 rfl rfl ?_
              obtain ⟨v32, h31, hf⟩ := m_b1_of hf
              refine r_callV (mc := 0) (ms := 0) (q := 115) (st1 := [.int v32, .int p3, .int p2, .int v30, .int p1, .ref a0]) C (c_X9_wouldHave hl h31) rfl w_943 w_944 w_1327 w_11 w_945 hd_X9_wouldHave rfl (by decide) g1 rfl rfl rfl ⟨(Nat.le_of_ble_eq_true rfl), (Nat.le_of_ble_eq_true rfl)⟩ (Nat.le_of_ble_eq_true rfl) ⟨(Nat.le_of_ble_eq_true rfl), (Nat.le_of_ble_eq_true rfl)⟩ dX9_add_112 rfl rfl ?_
              obtain ⟨_u, S34, h33, hf⟩ := m_bw_of hf
              refine r_callV (mc := 0) (ms := 0) (q := 118) (st1 := []) C (c_X9_addsTo hl h33) rfl w_1212 w_1213 w_1363 w_11 w_1214 hd_X9_addsTo rfl (by decide) g1 rfl rfl rfl ⟨(Nat.le_of_ble_eq_true rfl), (Nat.le_of_ble_eq_true rfl)⟩ (Nat.le_of_ble_eq_true rfl) ⟨(Nat.le_of_ble_eq_true rfl), (Nat.le_of_ble_eq_true rfl)⟩ dX9_add_115 rfl rfl ?_
              refine r_iload (q := 120) C 0 dX9_add_118 rfl rfl ?_
              obtain ⟨rfl, rfl⟩ := m_so2 hf
              exact r_iret C F dX9_add_120
            · replace hf := m_if0 hf (fun z => z c27)
              refine r_iconst (q := 94) (v := (0 : Int32)) C dX9_add_93 (by decide) rfl ?_
              obtain ⟨rfl, rfl⟩ := m_so2 hf
              exact r_iret C F dX9_add_94
          refine r_icmp_ge (t := 85) (q := 81) C dX9_add_78 (by decide) rfl (fun c35 => ?_) (fun c35 => ?_)
          · replace hf := m_if1 hf c35
            refine r_iconst (q := 86) (v := (0 : Int32)) C dX9_add_85 (by decide) rfl ?_
            exact J22 (0 : Int32) hf
          · replace hf := m_if0 hf c35
            refine r_iconst (q := 82) (v := (1 : Int32)) C dX9_add_81 (by decide) rfl ?_
            refine r_goto (t := 86) C dX9_add_82 (by decide) ?_
            exact J22 (1 : Int32) hf
      obtain ⟨j36, ej36, hf⟩ := m_jp_of hf
      have J36 : ∀ (_ : Unit), j36 () = some (rZ9, SZ9) → m_G x Z S9 6 0 0 62 [(0, .ref a0), (1, .int p1), (2, .int p2), (3, .int p3), (4, .int p4)] [.ref a0] := by
        intro _ hf
        rw [ej36] at hf
        refine r_iconst (q := 63) (v := (0 : Int32)) C dX9_add_62 (by decide) rfl ?_
        exact J14 (0 : Int32) hf
      refine r_if_eq (t := 62) (q := 46) C dX9_add_43 (by decide) rfl (fun c37 => ?_) (fun c37 => ?_)
      · replace hf := m_if1 hf c37
        exact J36 ()  hf
      · replace hf := m_if0 hf c37
        refine r_iload (q := 48) C 4 dX9_add_46 rfl rfl ?_
        refine r_iconst (q := 49) (v := (0 : Int32)) C dX9_add_48 (by decide) rfl ?_
        refine r_sipush (q := 52) (v := (1000 : Int32)) C dX9_add_49 (by decide) rfl ?_
        obtain ⟨v39, h38, hf⟩ := m_b1_of hf
        refine r_callS (mc := 0) (ms := 0) (q := 55) (st1 := [.int v39, .ref a0]) C (c_X9_isIn hl h38) rfl w_1031 w_1032 w_11 w_1033 hd_X9_isIn rfl rfl rfl ⟨(Nat.le_of_ble_eq_true rfl), (Nat.le_of_ble_eq_true rfl)⟩ (Nat.le_of_ble_eq_true rfl) ⟨(Nat.le_of_ble_eq_true rfl), (Nat.le_of_ble_eq_true rfl)⟩ dX9_add_52 rfl rfl ?_
        refine r_if_eq (t := 62) (q := 58) C dX9_add_55 (by decide) rfl (fun c40 => ?_) (fun c40 => ?_)
        · replace hf := m_if1 hf c40
          exact J36 ()  hf
        · replace hf := m_if0 hf c40
          refine r_iconst (q := 59) (v := (1 : Int32)) C dX9_add_58 (by decide) rfl ?_
          refine r_goto (t := 63) C dX9_add_59 (by decide) ?_
          exact J14 (1 : Int32) hf
  obtain ⟨j41, ej41, hf⟩ := m_jp_of hf
  have J41 : ∀ (_ : Unit), j41 () = some (rZ9, SZ9) → m_G x Z S2 6 0 0 26 [(0, .ref a0), (1, .int p1), (2, .int p2), (3, .int p3), (4, .int p4)] [.ref a0] := by
    intro _ hf
    rw [ej41] at hf
    refine r_iconst (q := 27) (v := (0 : Int32)) C dX9_add_26 (by decide) rfl ?_
    exact J6 (0 : Int32) hf
  refine r_if_eq (t := 26) (q := 14) C dX9_add_11 (by decide) rfl (fun c42 => ?_) (fun c42 => ?_)
  · replace hf := m_if1 hf c42
    exact J41 ()  hf
  · replace hf := m_if0 hf c42
    refine r_aload_n (q := 15) C 0 dX9_add_14 rfl rfl ?_
    refine r_iload_n (q := 16) C 2 dX9_add_15 rfl rfl ?_
    obtain ⟨v44, h43, hf⟩ := m_b1_of hf
    refine r_callV (mc := 0) (ms := 0) (q := 19) (st1 := [.int v44, .ref a0]) C (c_X9_isKind hl h43) rfl w_1135 w_1136 w_1355 w_11 w_1137 hd_X9_isKind rfl (by decide) g1 rfl rfl rfl ⟨(Nat.le_of_ble_eq_true rfl), (Nat.le_of_ble_eq_true rfl)⟩ (Nat.le_of_ble_eq_true rfl) ⟨(Nat.le_of_ble_eq_true rfl), (Nat.le_of_ble_eq_true rfl)⟩ dX9_add_16 rfl rfl ?_
    refine r_if_eq (t := 26) (q := 22) C dX9_add_19 (by decide) rfl (fun c45 => ?_) (fun c45 => ?_)
    · replace hf := m_if1 hf c45
      exact J41 ()  hf
    · replace hf := m_if0 hf c45
      refine r_iconst (q := 23) (v := (1 : Int32)) C dX9_add_22 (by decide) rfl ?_
      refine r_goto (t := 27) C dX9_add_23 (by decide) ?_
      exact J6 (1 : Int32) hf
def F_X9_setOn_34 (Z : m_Z) (S : m_S) (a0 : Nat) (p1 : Int32) (j52 : (Int32 → Option (Int32))) (lp54 : Int32 → Option (Int32)) (v53 : Int32) : Option (Int32) := (if v53 < 0 then j52 v53 else m_b1 (S.2.2 a0 1) (fun b59 => m_gd (m_ok Z b59 11) (m_lt ((6 : Int32) + ((2 : Int32) * v53)) (fun v62 => m_gd (m_in v62 (Z.2.2 b59)) ((if (S.1 b59 v62.toNatClampNeg) ≤ p1 then j52 v53 else m_lt (v53 + (-1 : Int32)) (fun v66 => lp54 v66)))))))
def f_X9_setOn (Z : m_Z) (S : m_S) (a0 : Nat) (p1 : Int32) : Option (Int32) := m_gd (m_ok Z a0 9) (m_b1 (S.2.2 a0 1) (fun b2 => m_gd (m_ok Z b2 11) (m_gd (m_in (2 : Int32) (Z.2.2 b2)) ((if (2 : Int32) ≤ (S.1 b2 (2 : Int32).toNatClampNeg) then m_lt ((S.1 b2 (2 : Int32).toNatClampNeg) - (1 : Int32)) (fun v7 => m_jp (fun (v9 : Int32) => m_jp (fun (v11 : Int32) => m_gd (¬ (S.1 b2 (2 : Int32).toNatClampNeg) = 0) (m_lt ((v11 + (1 : Int32)) - (v11 + (1 : Int32)) / (S.1 b2 (2 : Int32).toNatClampNeg) * (S.1 b2 (2 : Int32).toNatClampNeg)) (fun v13 => m_b1 (S.2.2 a0 1) (fun b15 => m_gd (m_ok Z b15 11) (m_lt ((6 : Int32) + ((2 : Int32) * v11)) (fun v18 => m_gd (m_in v18 (Z.2.2 b15)) (m_jp (fun (v22 : Int32) => m_lt ((p1 - (S.1 b15 v18.toNatClampNeg)) + v22) (fun v23 => m_b1 (S.2.2 a0 1) (fun b25 => m_gd (m_ok Z b25 11) (m_lt ((6 : Int32) + ((2 : Int32) * v13)) (fun v28 => m_gd (m_in v28 (Z.2.2 b25)) (m_lt ((6 : Int32) + ((2 : Int32) * v11)) (fun v31 => m_gd (m_in v31 (Z.2.2 b25)) (m_jp (fun (v35 : Int32) => m_lt (((S.1 b25 v28.toNatClampNeg) - (S.1 b25 v31.toNatClampNeg)) + v35) (fun v36 => m_b1 (S.2.2 a0 1) (fun b38 => m_gd (m_ok Z b38 11) (m_lt (((6 : Int32) + ((2 : Int32) * v11)) + (1 : Int32)) (fun v41 => m_gd (m_in v41 (Z.2.2 b38)) (m_lt (((6 : Int32) + ((2 : Int32) * v13)) + (1 : Int32)) (fun v44 => m_gd (m_in v44 (Z.2.2 b38)) (m_b1 (f_X9_line Z S (S.1 b38 v41.toNatClampNeg) (S.1 b38 v44.toNatClampNeg) v23 v36) (fun v48 => some v48))))))))) (fun j34 => (if ¬ v13 = 0 then j34 (0 : Int32) else j34 (365 : Int32))))))))))) (fun j21 => (if 0 ≤ v9 then j21 (0 : Int32) else j21 (365 : Int32)))))))))) (fun j10 => (if 0 ≤ v9 then j10 v9 else j10 ((S.1 b2 (2 : Int32).toNatClampNeg) - (1 : Int32))))) (fun j52 => m_fx (F_X9_setOn_34 Z S a0 p1 j52) 100000 v7)) else (if ¬ (S.1 b2 (2 : Int32).toNatClampNeg) = 0 then m_gd (m_in (7 : Int32) (Z.2.2 b2)) (some (S.1 b2 (7 : Int32).toNatClampNeg)) else some (500 : Int32)))))))
abbrev rm_X9_setOn : Room := { frames := 1, cells := 0, slots := 0, locals := 23 }
theorem hd_X9_setOn : yX9_setOn.cls = RX9 ∧ yX9_setOn.cls ≠ "java/lang/invoke/MethodHandle" ∧ yX9_setOn.cls ≠ "java/lang/invoke/VarHandle" ∧ (parseMethodDescriptor yX9_setOn.desc).map (fun d => d.parameters.length) = some 1 := by decide +kernel
set_option maxHeartbeats 4000000 in
set_option maxRecDepth 100000 in
theorem c_X9_setOn {l : Launch} (hl : l.stackTraces = false) {Z : m_Z} {S : m_S} {a0 : Nat} {p1 : Int32} {rZ9 : Int32} (hf : f_X9_setOn Z S a0 p1 = some rZ9) : m_Ct l yX9_setOn (.code yX9_setOn cX9_setOn 8 (some .int) :: m_ws) rm_X9_setOn (fun f => [.ref a0, .int p1]) Z S (some (.int rZ9)) S := by
  unfold f_X9_setOn at hf
  refine m_ent hl (by decide) (fun _ => Nat.le_of_ble_eq_true rfl) (fun x C F => ?_)
  have C : m_H x l RX9 cX9_setOn 8 rm_X9_setOn := C
  show m_G x Z S 8 0 0 0 [(0, .ref a0), (1, .int p1)] []
  refine r_aload_n (q := 1) C 0 dX9_setOn_0 rfl rfl ?_
  obtain ⟨g1, hf⟩ := m_gd_of hf
  obtain ⟨b2, e3, hf⟩ := m_b1_of hf
  refine gf_X9_7 (q := 4) C dX9_setOn_1 g1 e3 rfl ?_
  refine r_iconst (q := 5) (v := (2 : Int32)) C dX9_setOn_4 (by decide) rfl ?_
  obtain ⟨g4, hf⟩ := m_gd_of hf
  obtain ⟨g5, hf⟩ := m_gd_of hf
  refine r_iald (q := 6) C dX9_setOn_5 ⟨g4, g5⟩ rfl ?_
  refine r_istore_n (q := 7) (L' := [(2, .int (S.1 b2 (2 : Int32).toNatClampNeg)), (0, .ref a0), (1, .int p1)]) C dX9_setOn_6 rfl rfl (by decide) rfl ?_
  refine r_iload_n (q := 8) C 0 dX9_setOn_7 rfl rfl ?_
  refine r_iconst (q := 9) (v := (2 : Int32)) C dX9_setOn_8 (by decide) rfl ?_
  refine r_icmp_ge (t := 30) (q := 12) C dX9_setOn_9 (by decide) rfl (fun c6 => ?_) (fun c6 => ?_)
  · replace hf := m_if1 hf c6
    refine r_iload_n (q := 31) C 0 dX9_setOn_30 rfl rfl ?_
    refine r_iconst (q := 32) (v := (1 : Int32)) C dX9_setOn_31 (by decide) rfl ?_
    refine r_isub (q := 33) C dX9_setOn_32 rfl ?_
    obtain ⟨v7, e8, hf⟩ := m_lt_of hf
    refine r_nm e8 ?_
    refine r_istore_n (q := 34) (L' := [(3, .int v7), (2, .int (S.1 b2 (2 : Int32).toNatClampNeg)), (0, .ref a0), (1, .int p1)]) C dX9_setOn_33 rfl rfl (by decide) rfl ?_
    obtain ⟨j52, ej52, hf⟩ := m_jp_of hf
    have J52 : ∀ (v9 : Int32), j52 v9 = some rZ9 → m_G x Z S 8 0 0 59 [(0, .ref a0), (1, .int p1), (2, .int (S.1 b2 (2 : Int32).toNatClampNeg)), (3, .int v9)] [] := by
      intro v9 hf
      rw [ej52] at hf
      refine r_iload_n (q := 60) C 3 dX9_setOn_59 rfl rfl ?_
      obtain ⟨j10, ej10, hf⟩ := m_jp_of hf
      have J10 : ∀ (v11 : Int32), j10 v11 = some rZ9 → m_G x Z S 8 0 0 70 [(0, .ref a0), (1, .int p1), (2, .int (S.1 b2 (2 : Int32).toNatClampNeg)), (3, .int v9)] [.int v11] := by
        intro v11 hf
        rw [ej10] at hf
        refine r_istore (q := 72) (L' := [(4, .int v11), (0, .ref a0), (1, .int p1), (2, .int (S.1 b2 (2 : Int32).toNatClampNeg)), (3, .int v9)]) C dX9_setOn_70 rfl (by decide) rfl ?_
        refine r_iload (q := 74) C 0 dX9_setOn_72 rfl rfl ?_
        refine r_iconst (q := 75) (v := (1 : Int32)) C dX9_setOn_74 (by decide) rfl ?_
        refine r_iadd (q := 76) C dX9_setOn_75 rfl ?_
        refine r_iload_n (q := 77) C 3 dX9_setOn_76 rfl rfl ?_
        obtain ⟨g12, hf⟩ := m_gd_of hf
        refine r_irem (q := 78) C dX9_setOn_77 g12 rfl ?_
        obtain ⟨v13, e14, hf⟩ := m_lt_of hf
        refine r_nm e14 ?_
        refine r_istore (q := 80) (L' := [(5, .int v13), (4, .int v11), (0, .ref a0), (1, .int p1), (2, .int (S.1 b2 (2 : Int32).toNatClampNeg)), (3, .int v9)]) C dX9_setOn_78 rfl (by decide) rfl ?_
        refine r_iload_n (q := 81) C 3 dX9_setOn_80 rfl rfl ?_
        refine r_aload_n (q := 82) C 2 dX9_setOn_81 rfl rfl ?_
        obtain ⟨b15, e16, hf⟩ := m_b1_of hf
        refine gf_X9_7 (q := 85) C dX9_setOn_82 g1 e16 rfl ?_
        refine r_bipush (q := 87) (v := (6 : Int32)) C dX9_setOn_85 (by decide) rfl ?_
        refine r_iconst (q := 88) (v := (2 : Int32)) C dX9_setOn_87 (by decide) rfl ?_
        refine r_iload (q := 90) C 1 dX9_setOn_88 rfl rfl ?_
        refine r_imul (q := 91) C dX9_setOn_90 rfl ?_
        refine r_iadd (q := 92) C dX9_setOn_91 rfl ?_
        obtain ⟨g17, hf⟩ := m_gd_of hf
        obtain ⟨v18, e19, hf⟩ := m_lt_of hf
        refine r_nm e19 ?_
        obtain ⟨g20, hf⟩ := m_gd_of hf
        refine r_iald (q := 93) C dX9_setOn_92 ⟨g17, g20⟩ rfl ?_
        refine r_isub (q := 94) C dX9_setOn_93 rfl ?_
        refine r_iload_n (q := 95) C 5 dX9_setOn_94 rfl rfl ?_
        obtain ⟨j21, ej21, hf⟩ := m_jp_of hf
        have J21 : ∀ (v22 : Int32), j21 v22 = some rZ9 → m_G x Z S 8 0 0 105 [(0, .ref a0), (4, .int v11), (5, .int v13)] [.int v22, .int (p1 - (S.1 b15 v18.toNatClampNeg))] := by
          intro v22 hf
          rw [ej21] at hf
          refine r_iadd (q := 106) C dX9_setOn_105 rfl ?_
          obtain ⟨v23, e24, hf⟩ := m_lt_of hf
          refine r_nm e24 ?_
          refine r_istore (q := 108) (L' := [(6, .int v23), (0, .ref a0), (4, .int v11), (5, .int v13)]) C dX9_setOn_106 rfl (by decide) rfl ?_
          refine r_aload_n (q := 109) C 1 dX9_setOn_108 rfl rfl ?_
          obtain ⟨b25, e26, hf⟩ := m_b1_of hf
          refine gf_X9_7 (q := 112) C dX9_setOn_109 g1 e26 rfl ?_
          refine r_bipush (q := 114) (v := (6 : Int32)) C dX9_setOn_112 (by decide) rfl ?_
          refine r_iconst (q := 115) (v := (2 : Int32)) C dX9_setOn_114 (by decide) rfl ?_
          refine r_iload (q := 117) C 3 dX9_setOn_115 rfl rfl ?_
          refine r_imul (q := 118) C dX9_setOn_117 rfl ?_
          refine r_iadd (q := 119) C dX9_setOn_118 rfl ?_
          obtain ⟨g27, hf⟩ := m_gd_of hf
          obtain ⟨v28, e29, hf⟩ := m_lt_of hf
          refine r_nm e29 ?_
          obtain ⟨g30, hf⟩ := m_gd_of hf
          refine r_iald (q := 120) C dX9_setOn_119 ⟨g27, g30⟩ rfl ?_
          refine r_aload_n (q := 121) C 1 dX9_setOn_120 rfl rfl ?_
          refine gf_X9_7 (q := 124) C dX9_setOn_121 g1 e26 rfl ?_
          refine r_bipush (q := 126) (v := (6 : Int32)) C dX9_setOn_124 (by decide) rfl ?_
          refine r_iconst (q := 127) (v := (2 : Int32)) C dX9_setOn_126 (by decide) rfl ?_
          refine r_iload (q := 129) C 2 dX9_setOn_127 rfl rfl ?_
          refine r_imul (q := 130) C dX9_setOn_129 rfl ?_
          refine r_iadd (q := 131) C dX9_setOn_130 rfl ?_
          obtain ⟨v31, e32, hf⟩ := m_lt_of hf
          refine r_nm e32 ?_
          obtain ⟨g33, hf⟩ := m_gd_of hf
          refine r_iald (q := 132) C dX9_setOn_131 ⟨g27, g33⟩ rfl ?_
          refine r_isub (q := 133) C dX9_setOn_132 rfl ?_
          refine r_iload (q := 135) C 3 dX9_setOn_133 rfl rfl ?_
          obtain ⟨j34, ej34, hf⟩ := m_jp_of hf
          have J34 : ∀ (v35 : Int32), j34 v35 = some rZ9 → m_G x Z S 8 0 0 145 [(0, .ref a0), (4, .int v11), (5, .int v13), (6, .int v23)] [.int v35, .int ((S.1 b25 v28.toNatClampNeg) - (S.1 b25 v31.toNatClampNeg))] := by
            intro v35 hf
            rw [ej34] at hf
            refine r_iadd (q := 146) C dX9_setOn_145 rfl ?_
            obtain ⟨v36, e37, hf⟩ := m_lt_of hf
            refine r_nm e37 ?_
            refine r_istore (q := 148) (L' := [(7, .int v36), (0, .ref a0), (4, .int v11), (5, .int v13), (6, .int v23)]) C dX9_setOn_146 rfl (by decide) rfl ?_
            refine r_aload_n (q := 149) C 1 dX9_setOn_148 rfl rfl ?_
            obtain ⟨b38, e39, hf⟩ := m_b1_of hf
            refine gf_X9_7 (q := 152) C dX9_setOn_149 g1 e39 rfl ?_
            refine r_bipush (q := 154) (v := (6 : Int32)) C dX9_setOn_152 (by decide) rfl ?_
            refine r_iconst (q := 155) (v := (2 : Int32)) C dX9_setOn_154 (by decide) rfl ?_
            refine r_iload (q := 157) C 2 dX9_setOn_155 rfl rfl ?_
            refine r_imul (q := 158) C dX9_setOn_157 rfl ?_
            refine r_iadd (q := 159) C dX9_setOn_158 rfl ?_
            refine r_iconst (q := 160) (v := (1 : Int32)) C dX9_setOn_159 (by decide) rfl ?_
            refine r_iadd (q := 161) C dX9_setOn_160 rfl ?_
            obtain ⟨g40, hf⟩ := m_gd_of hf
            obtain ⟨v41, e42, hf⟩ := m_lt_of hf
            refine r_nm e42 ?_
            obtain ⟨g43, hf⟩ := m_gd_of hf
            refine r_iald (q := 162) C dX9_setOn_161 ⟨g40, g43⟩ rfl ?_
            refine r_aload_n (q := 163) C 1 dX9_setOn_162 rfl rfl ?_
            refine gf_X9_7 (q := 166) C dX9_setOn_163 g1 e39 rfl ?_
            refine r_bipush (q := 168) (v := (6 : Int32)) C dX9_setOn_166 (by decide) rfl ?_
            refine r_iconst (q := 169) (v := (2 : Int32)) C dX9_setOn_168 (by decide) rfl ?_
            refine r_iload (q := 171) C 3 dX9_setOn_169 rfl rfl ?_
            refine r_imul (q := 172) C dX9_setOn_171 rfl ?_
            refine r_iadd (q := 173) C dX9_setOn_172 rfl ?_
            refine r_iconst (q := 174) (v := (1 : Int32)) C dX9_setOn_173 (by decide) rfl ?_
            refine r_iadd (q := 175) C dX9_setOn_174 rfl ?_
            obtain ⟨v44, e45, hf⟩ := m_lt_of hf
            refine r_nm e45 ?_
            obtain ⟨g46, hf⟩ := m_gd_of hf
            refine r_iald (q := 176) C dX9_setOn_175 ⟨g40, g46⟩ rfl ?_
            refine r_iload (q := 178) C 4 dX9_setOn_176 rfl rfl ?_
            refine r_iload (q := 180) C 0 dX9_setOn_178 rfl rfl ?_
            obtain ⟨v48, h47, hf⟩ := m_b1_of hf
            refine r_callS (mc := 0) (ms := 0) (q := 183) (st1 := [.int v48]) C (c_X9_line hl h47) rfl w_949 w_950 w_11 w_951 hd_X9_line rfl rfl rfl ⟨(Nat.le_of_ble_eq_true rfl), (Nat.le_of_ble_eq_true rfl)⟩ (Nat.le_of_ble_eq_true rfl) ⟨(Nat.le_of_ble_eq_true rfl), (Nat.le_of_ble_eq_true rfl)⟩ dX9_setOn_180 rfl rfl ?_
            obtain rfl := m_so1 hf
            exact r_iret C F dX9_setOn_183
          refine r_if_ne (t := 144) (q := 138) C dX9_setOn_135 (by decide) rfl (fun c49 => ?_) (fun c49 => ?_)
          · replace hf := m_if1 hf c49
            refine r_iconst (q := 145) (v := (0 : Int32)) C dX9_setOn_144 (by decide) rfl ?_
            refine r_sub [1, 2, 3, 0] rfl ?_
            exact J34 (0 : Int32) hf
          · replace hf := m_if0 hf (fun z => z c49)
            refine r_sipush (q := 141) (v := (365 : Int32)) C dX9_setOn_138 (by decide) rfl ?_
            refine r_goto (t := 145) C dX9_setOn_141 (by decide) ?_
            refine r_sub [1, 2, 3, 0] rfl ?_
            exact J34 (365 : Int32) hf
        refine r_if_ge (t := 104) (q := 98) C dX9_setOn_95 (by decide) rfl (fun c50 => ?_) (fun c50 => ?_)
        · replace hf := m_if1 hf c50
          refine r_iconst (q := 105) (v := (0 : Int32)) C dX9_setOn_104 (by decide) rfl ?_
          refine r_sub [2, 1, 0] rfl ?_
          exact J21 (0 : Int32) hf
        · replace hf := m_if0 hf c50
          refine r_sipush (q := 101) (v := (365 : Int32)) C dX9_setOn_98 (by decide) rfl ?_
          refine r_goto (t := 105) C dX9_setOn_101 (by decide) ?_
          refine r_sub [2, 1, 0] rfl ?_
          exact J21 (365 : Int32) hf
      refine r_if_ge (t := 69) (q := 63) C dX9_setOn_60 (by decide) rfl (fun c51 => ?_) (fun c51 => ?_)
      · replace hf := m_if1 hf c51
        refine r_iload_n (q := 70) C 3 dX9_setOn_69 rfl rfl ?_
        exact J10 v9 hf
      · replace hf := m_if0 hf c51
        refine r_iload_n (q := 64) C 2 dX9_setOn_63 rfl rfl ?_
        refine r_iconst (q := 65) (v := (1 : Int32)) C dX9_setOn_64 (by decide) rfl ?_
        refine r_isub (q := 66) C dX9_setOn_65 rfl ?_
        refine r_goto (t := 70) C dX9_setOn_66 (by decide) ?_
        exact J10 ((S.1 b2 (2 : Int32).toNatClampNeg) - (1 : Int32)) hf
    have LL57 : ∀ (fu56 : Nat) (v53 : Int32), m_fx (F_X9_setOn_34 Z S a0 p1 j52) fu56 v53 = some rZ9 → m_G x Z S 8 0 0 34 [(0, .ref a0), (1, .int p1), (2, .int (S.1 b2 (2 : Int32).toNatClampNeg)), (3, .int v53)] [] := by
      intro fu56
      induction fu56 with
      | zero => intros; rename_i hf; cases hf
      | succ fu56 ih55 =>
        intro v53 hf
        replace hf : F_X9_setOn_34 Z S a0 p1 j52 (m_fx (F_X9_setOn_34 Z S a0 p1 j52) fu56) v53 = some rZ9 := hf
        unfold F_X9_setOn_34 at hf
        refine r_iload_n (q := 35) C 3 dX9_setOn_34 rfl rfl ?_
        refine r_if_lt (t := 59) (q := 38) C dX9_setOn_35 (by decide) rfl (fun c58 => ?_) (fun c58 => ?_)
        · replace hf := m_if1 hf c58
          exact J52 v53 hf
        · replace hf := m_if0 hf c58
          refine r_aload_n (q := 39) C 0 dX9_setOn_38 rfl rfl ?_
          obtain ⟨b59, e60, hf⟩ := m_b1_of hf
          refine gf_X9_7 (q := 42) C dX9_setOn_39 g1 e60 rfl ?_
          refine r_bipush (q := 44) (v := (6 : Int32)) C dX9_setOn_42 (by decide) rfl ?_
          refine r_iconst (q := 45) (v := (2 : Int32)) C dX9_setOn_44 (by decide) rfl ?_
          refine r_iload_n (q := 46) C 3 dX9_setOn_45 rfl rfl ?_
          refine r_imul (q := 47) C dX9_setOn_46 rfl ?_
          refine r_iadd (q := 48) C dX9_setOn_47 rfl ?_
          obtain ⟨g61, hf⟩ := m_gd_of hf
          obtain ⟨v62, e63, hf⟩ := m_lt_of hf
          refine r_nm e63 ?_
          obtain ⟨g64, hf⟩ := m_gd_of hf
          refine r_iald (q := 49) C dX9_setOn_48 ⟨g61, g64⟩ rfl ?_
          refine r_iload_n (q := 50) C 1 dX9_setOn_49 rfl rfl ?_
          refine r_icmp_le (t := 59) (q := 53) C dX9_setOn_50 (by decide) rfl (fun c65 => ?_) (fun c65 => ?_)
          · replace hf := m_if1 hf c65
            exact J52 v53 hf
          · replace hf := m_if0 hf c65
            obtain ⟨v66, e67, hf⟩ := m_lt_of hf
            refine r_iinc (q := 56) (v := v66) (L' := [(3, .int v66), (0, .ref a0), (1, .int p1), (2, .int (S.1 b2 (2 : Int32).toNatClampNeg))]) C 3 dX9_setOn_53 rfl (by rw [e67]; rfl) rfl (by decide) rfl ?_
            refine r_goto (t := 34) C dX9_setOn_56 (by decide) ?_
            refine r_sub [1, 2, 3, 0] rfl ?_
            exact ih55 v66 hf
    refine r_sub [2, 3, 1, 0] rfl ?_
    exact LL57 100000 v7 hf
  · replace hf := m_if0 hf c6
    refine r_iload_n (q := 13) C 0 dX9_setOn_12 rfl rfl ?_
    refine r_if_ne (t := 22) (q := 16) C dX9_setOn_13 (by decide) rfl (fun c69 => ?_) (fun c69 => ?_)
    · replace hf := m_if1 hf c69
      refine r_aload_n (q := 23) C 1 dX9_setOn_22 rfl rfl ?_
      refine gf_X9_7 (q := 26) C dX9_setOn_23 g1 e3 rfl ?_
      refine r_bipush (q := 28) (v := (7 : Int32)) C dX9_setOn_26 (by decide) rfl ?_
      obtain ⟨g70, hf⟩ := m_gd_of hf
      refine r_iald (q := 29) C dX9_setOn_28 ⟨g4, g70⟩ rfl ?_
      obtain rfl := m_so1 hf
      exact r_iret C F dX9_setOn_29
    · replace hf := m_if0 hf (fun z => z c69)
      refine r_sipush (q := 19) (v := (500 : Int32)) C dX9_setOn_16 (by decide) rfl ?_
      refine r_goto (t := 29) C dX9_setOn_19 (by decide) ?_
      obtain rfl := m_so1 hf
      exact r_iret C F dX9_setOn_29
def f_X9_roomNow (Z : m_Z) (S : m_S) (a0 : Nat) : Option (Int32) := m_gd (m_ok Z a0 9) (m_b1 (S.2.2 a0 3) (fun b2 => m_gd (m_ok Z b2 11) (m_gd (m_in (0 : Int32) (Z.2.2 b2)) (m_b1 (f_X9_setOn Z S a0 (((S.1 b2 (0 : Int32).toNatClampNeg) / (24 : Int32)) - ((S.1 b2 (0 : Int32).toNatClampNeg) / (24 : Int32)) / (365 : Int32) * (365 : Int32))) (fun v7 => m_gd (m_in (1 : Int32) (Z.2.2 b2)) (m_lt (v7 + (S.1 b2 (1 : Int32).toNatClampNeg)) (fun v9 => (if 0 ≤ v9 then (if v9 ≤ (1000 : Int32) then some v9 else some (1000 : Int32)) else some (0 : Int32)))))))))
abbrev rm_X9_roomNow : Room := { frames := 2, cells := 0, slots := 0, locals := 50 }
theorem hd_X9_roomNow : yX9_roomNow.cls = RX9 ∧ yX9_roomNow.cls ≠ "java/lang/invoke/MethodHandle" ∧ yX9_roomNow.cls ≠ "java/lang/invoke/VarHandle" ∧ (parseMethodDescriptor yX9_roomNow.desc).map (fun d => d.parameters.length) = some 0 := by decide +kernel
set_option maxHeartbeats 4000000 in
set_option maxRecDepth 100000 in
theorem c_X9_roomNow {l : Launch} (hl : l.stackTraces = false) {Z : m_Z} {S : m_S} {a0 : Nat} {rZ9 : Int32} (hf : f_X9_roomNow Z S a0 = some rZ9) : m_Ct l yX9_roomNow (.code yX9_roomNow cX9_roomNow 2 (some .int) :: m_ws) rm_X9_roomNow (fun f => [.ref a0]) Z S (some (.int rZ9)) S := by
  unfold f_X9_roomNow at hf
  refine m_ent hl (by decide) (fun _ => Nat.le_of_ble_eq_true rfl) (fun x C F => ?_)
  have C : m_H x l RX9 cX9_roomNow 2 rm_X9_roomNow := C
  show m_G x Z S 2 0 0 0 [(0, .ref a0)] []
  refine r_aload_n (q := 1) C 0 dX9_roomNow_0 rfl rfl ?_
  refine r_aload_n (q := 2) C 0 dX9_roomNow_1 rfl rfl ?_
  obtain ⟨g1, hf⟩ := m_gd_of hf
  obtain ⟨b2, e3, hf⟩ := m_b1_of hf
  refine gf_X9_16 (q := 5) C dX9_roomNow_2 g1 e3 rfl ?_
  refine r_iconst (q := 6) (v := (0 : Int32)) C dX9_roomNow_5 (by decide) rfl ?_
  obtain ⟨g4, hf⟩ := m_gd_of hf
  obtain ⟨g5, hf⟩ := m_gd_of hf
  refine r_iald (q := 7) C dX9_roomNow_6 ⟨g4, g5⟩ rfl ?_
  refine r_bipush (q := 9) (v := (24 : Int32)) C dX9_roomNow_7 (by decide) rfl ?_
  refine r_idiv (q := 10) C dX9_roomNow_9 (by decide) rfl ?_
  refine r_sipush (q := 13) (v := (365 : Int32)) C dX9_roomNow_10 (by decide) rfl ?_
  refine r_irem (q := 14) C dX9_roomNow_13 (by decide) rfl ?_
  obtain ⟨v7, h6, hf⟩ := m_b1_of hf
  refine r_callV (mc := 0) (ms := 0) (q := 17) (st1 := [.int v7]) C (c_X9_setOn hl h6) rfl w_1120 w_1121 w_1354 w_11 w_1122 hd_X9_setOn rfl (by decide) g1 rfl rfl rfl ⟨(Nat.le_of_ble_eq_true rfl), (Nat.le_of_ble_eq_true rfl)⟩ (Nat.le_of_ble_eq_true rfl) ⟨(Nat.le_of_ble_eq_true rfl), (Nat.le_of_ble_eq_true rfl)⟩ dX9_roomNow_14 rfl rfl ?_
  refine r_aload_n (q := 18) C 0 dX9_roomNow_17 rfl rfl ?_
  refine gf_X9_16 (q := 21) C dX9_roomNow_18 g1 e3 rfl ?_
  refine r_iconst (q := 22) (v := (1 : Int32)) C dX9_roomNow_21 (by decide) rfl ?_
  obtain ⟨g8, hf⟩ := m_gd_of hf
  refine r_iald (q := 23) C dX9_roomNow_22 ⟨g4, g8⟩ rfl ?_
  refine r_iadd (q := 24) C dX9_roomNow_23 rfl ?_
  obtain ⟨v9, e10, hf⟩ := m_lt_of hf
  refine r_nm e10 ?_
  refine r_istore_n (q := 25) (L' := [(1, .int v9), (0, .ref a0)]) C dX9_roomNow_24 rfl rfl (by decide) rfl ?_
  refine r_iload_n (q := 26) C 0 dX9_roomNow_25 rfl rfl ?_
  refine r_if_ge (t := 33) (q := 29) C dX9_roomNow_26 (by decide) rfl (fun c11 => ?_) (fun c11 => ?_)
  · replace hf := m_if1 hf c11
    refine r_iload_n (q := 34) C 0 dX9_roomNow_33 rfl rfl ?_
    refine r_sipush (q := 37) (v := (1000 : Int32)) C dX9_roomNow_34 (by decide) rfl ?_
    refine r_icmp_le (t := 46) (q := 40) C dX9_roomNow_37 (by decide) rfl (fun c12 => ?_) (fun c12 => ?_)
    · replace hf := m_if1 hf c12
      refine r_iload_n (q := 47) C 0 dX9_roomNow_46 rfl rfl ?_
      obtain rfl := m_so1 hf
      exact r_iret C F dX9_roomNow_47
    · replace hf := m_if0 hf c12
      refine r_sipush (q := 43) (v := (1000 : Int32)) C dX9_roomNow_40 (by decide) rfl ?_
      refine r_goto (t := 47) C dX9_roomNow_43 (by decide) ?_
      obtain rfl := m_so1 hf
      exact r_iret C F dX9_roomNow_47
  · replace hf := m_if0 hf c11
    refine r_iconst (q := 30) (v := (0 : Int32)) C dX9_roomNow_29 (by decide) rfl ?_
    refine r_goto (t := 47) C dX9_roomNow_30 (by decide) ?_
    obtain rfl := m_so1 hf
    exact r_iret C F dX9_roomNow_47
def f_X9_its (Z : m_Z) (S : m_S) (a0 : Nat) (p1 : Int32) (p2 : Int32) (p3 : Int32) : Option (Int32) := m_gd (m_ok Z a0 9) (m_b1 (S.2.2 a0 3) (fun b2 => m_gd (m_ok Z b2 11) (m_lt (((((4 : Int32) + ((56 : Int32) * p1)) + (8 : Int32)) + ((4 : Int32) * p2)) + p3) (fun v5 => m_gd (m_in v5 (Z.2.2 b2)) (some (S.1 b2 v5.toNatClampNeg))))))
abbrev rm_X9_its : Room := { frames := 0, cells := 0, slots := 0, locals := 0 }
theorem hd_X9_its : yX9_its.cls = RX9 ∧ yX9_its.cls ≠ "java/lang/invoke/MethodHandle" ∧ yX9_its.cls ≠ "java/lang/invoke/VarHandle" ∧ (parseMethodDescriptor yX9_its.desc).map (fun d => d.parameters.length) = some 3 := by decide +kernel
set_option maxHeartbeats 4000000 in
set_option maxRecDepth 100000 in
theorem c_X9_its {l : Launch} (hl : l.stackTraces = false) {Z : m_Z} {S : m_S} {a0 : Nat} {p1 : Int32} {p2 : Int32} {p3 : Int32} {rZ9 : Int32} (hf : f_X9_its Z S a0 p1 p2 p3 = some rZ9) : m_Ct l yX9_its (.code yX9_its cX9_its 4 (some .int) :: m_ws) rm_X9_its (fun f => [.ref a0, .int p1, .int p2, .int p3]) Z S (some (.int rZ9)) S := by
  unfold f_X9_its at hf
  refine m_ent hl (by decide) (fun _ => Nat.le_of_ble_eq_true rfl) (fun x C F => ?_)
  have C : m_H x l RX9 cX9_its 4 rm_X9_its := C
  show m_G x Z S 4 0 0 0 [(0, .ref a0), (1, .int p1), (2, .int p2), (3, .int p3)] []
  refine r_aload_n (q := 1) C 0 dX9_its_0 rfl rfl ?_
  obtain ⟨g1, hf⟩ := m_gd_of hf
  obtain ⟨b2, e3, hf⟩ := m_b1_of hf
  refine gf_X9_16 (q := 4) C dX9_its_1 g1 e3 rfl ?_
  refine r_iconst (q := 5) (v := (4 : Int32)) C dX9_its_4 (by decide) rfl ?_
  refine r_bipush (q := 7) (v := (56 : Int32)) C dX9_its_5 (by decide) rfl ?_
  refine r_iload_n (q := 8) C 1 dX9_its_7 rfl rfl ?_
  refine r_imul (q := 9) C dX9_its_8 rfl ?_
  refine r_iadd (q := 10) C dX9_its_9 rfl ?_
  refine r_bipush (q := 12) (v := (8 : Int32)) C dX9_its_10 (by decide) rfl ?_
  refine r_iadd (q := 13) C dX9_its_12 rfl ?_
  refine r_iconst (q := 14) (v := (4 : Int32)) C dX9_its_13 (by decide) rfl ?_
  refine r_iload_n (q := 15) C 2 dX9_its_14 rfl rfl ?_
  refine r_imul (q := 16) C dX9_its_15 rfl ?_
  refine r_iadd (q := 17) C dX9_its_16 rfl ?_
  refine r_iload_n (q := 18) C 3 dX9_its_17 rfl rfl ?_
  refine r_iadd (q := 19) C dX9_its_18 rfl ?_
  obtain ⟨g4, hf⟩ := m_gd_of hf
  obtain ⟨v5, e6, hf⟩ := m_lt_of hf
  refine r_nm e6 ?_
  obtain ⟨g7, hf⟩ := m_gd_of hf
  refine r_iald (q := 20) C dX9_its_19 ⟨g4, g7⟩ rfl ?_
  obtain rfl := m_so1 hf
  exact r_iret C F dX9_its_20
def f_X9_humidityOf (Z : m_Z) (S : m_S) (a0 : Nat) (p1 : Int32) : Option (Int32) := m_gd (m_ok Z a0 9) (m_b1 (f_X9_of Z S a0 p1 (3 : Int32)) (fun v3 => m_b1 (S.2.2 a0 1) (fun b4 => m_gd (m_ok Z b4 11) (m_lt ((110 : Int32) + p1) (fun v7 => m_gd (m_in v7 (Z.2.2 b4)) (m_gd (¬ (S.1 b4 v7.toNatClampNeg).toInt64 = 0) (some ((((1000 : Int64) * v3.toInt64) / (S.1 b4 v7.toNatClampNeg).toInt64).toInt32))))))))
abbrev rm_X9_humidityOf : Room := { frames := 1, cells := 0, slots := 0, locals := 22 }
theorem hd_X9_humidityOf : yX9_humidityOf.cls = RX9 ∧ yX9_humidityOf.cls ≠ "java/lang/invoke/MethodHandle" ∧ yX9_humidityOf.cls ≠ "java/lang/invoke/VarHandle" ∧ (parseMethodDescriptor yX9_humidityOf.desc).map (fun d => d.parameters.length) = some 1 := by decide +kernel
set_option maxHeartbeats 4000000 in
set_option maxRecDepth 100000 in
theorem c_X9_humidityOf {l : Launch} (hl : l.stackTraces = false) {Z : m_Z} {S : m_S} {a0 : Nat} {p1 : Int32} {rZ9 : Int32} (hf : f_X9_humidityOf Z S a0 p1 = some rZ9) : m_Ct l yX9_humidityOf (.code yX9_humidityOf cX9_humidityOf 2 (some .int) :: m_ws) rm_X9_humidityOf (fun f => [.ref a0, .int p1]) Z S (some (.int rZ9)) S := by
  unfold f_X9_humidityOf at hf
  refine m_ent hl (by decide) (fun _ => Nat.le_of_ble_eq_true rfl) (fun x C F => ?_)
  have C : m_H x l RX9 cX9_humidityOf 2 rm_X9_humidityOf := C
  show m_G x Z S 2 0 0 0 [(0, .ref a0), (1, .int p1)] []
  refine r_ldc2 (q := 3) C dX9_humidityOf_0 w_1152 rfl ?_
  refine r_aload_n (q := 4) C 0 dX9_humidityOf_3 rfl rfl ?_
  refine r_iload_n (q := 5) C 1 dX9_humidityOf_4 rfl rfl ?_
  refine r_iconst (q := 6) (v := (3 : Int32)) C dX9_humidityOf_5 (by decide) rfl ?_
  obtain ⟨g1, hf⟩ := m_gd_of hf
  obtain ⟨v3, h2, hf⟩ := m_b1_of hf
  refine r_callV (mc := 0) (ms := 0) (q := 9) (st1 := [.int v3, .long (1000 : Int64)]) C (c_X9_of hl h2) rfl w_937 w_938 w_1325 w_11 w_939 hd_X9_of rfl (by decide) g1 rfl rfl rfl ⟨(Nat.le_of_ble_eq_true rfl), (Nat.le_of_ble_eq_true rfl)⟩ (Nat.le_of_ble_eq_true rfl) ⟨(Nat.le_of_ble_eq_true rfl), (Nat.le_of_ble_eq_true rfl)⟩ dX9_humidityOf_6 rfl rfl ?_
  refine r_i2l (q := 10) C dX9_humidityOf_9 rfl ?_
  refine r_lmul (q := 11) C dX9_humidityOf_10 rfl ?_
  refine r_aload_n (q := 12) C 0 dX9_humidityOf_11 rfl rfl ?_
  obtain ⟨b4, e5, hf⟩ := m_b1_of hf
  refine gf_X9_7 (q := 15) C dX9_humidityOf_12 g1 e5 rfl ?_
  refine r_bipush (q := 17) (v := (110 : Int32)) C dX9_humidityOf_15 (by decide) rfl ?_
  refine r_iload_n (q := 18) C 1 dX9_humidityOf_17 rfl rfl ?_
  refine r_iadd (q := 19) C dX9_humidityOf_18 rfl ?_
  obtain ⟨g6, hf⟩ := m_gd_of hf
  obtain ⟨v7, e8, hf⟩ := m_lt_of hf
  refine r_nm e8 ?_
  obtain ⟨g9, hf⟩ := m_gd_of hf
  refine r_iald (q := 20) C dX9_humidityOf_19 ⟨g6, g9⟩ rfl ?_
  refine r_i2l (q := 21) C dX9_humidityOf_20 rfl ?_
  obtain ⟨g10, hf⟩ := m_gd_of hf
  refine r_ldiv (q := 22) C dX9_humidityOf_21 g10 rfl ?_
  refine r_l2i (q := 23) C dX9_humidityOf_22 rfl ?_
  obtain rfl := m_so1 hf
  exact r_iret C F dX9_humidityOf_23
def F_X9_airs_63 (Z : m_Z) (a0 : Nat) (p1 : Int32) (j21 : (m_S → Option (Unit × m_S))) (lp24 : (Int32 × m_S) → Option (Unit × m_S)) (p68 : (Int32 × m_S)) : Option (Unit × m_S) := match p68 with
  | (v22, S23) => m_b1 (f_X9_of Z S23 a0 p1 (4 : Int32)) (fun v29 => (if v29 ≤ v22 then j21 S23 else m_b1 (f_X9_its Z S23 a0 p1 v22 (1 : Int32)) (fun v32 => m_b1 (f_X9_its Z S23 a0 p1 v22 (2 : Int32)) (fun v34 => m_b1 (f_X9_humidityOf Z S23 a0 p1) (fun v36 => m_b1 (f_X9_wouldHave Z S23 a0 v32 v34 v36) (fun v38 => m_b1 (f_X9_its Z S23 a0 p1 v22 (3 : Int32)) (fun v40 => m_b1 (S23.2.2 a0 1) (fun b41 => m_b1 (f_X9_its Z S23 a0 p1 v22 (1 : Int32)) (fun v44 => m_gd (m_ok Z b41 11) (m_lt ((54 : Int32) + ((14 : Int32) * v44)) (fun v46 => m_gd (m_in v46 (Z.2.2 b41)) (m_lt (((v38 - v40) * (S23.1 b41 v46.toNatClampNeg)) / (1000 : Int32)) (fun v49 => m_b1 (f_X9_of Z S23 a0 p1 (3 : Int32)) (fun v52 => m_jp (fun (v54 : Int32) => m_b1 (f_X9_its Z S23 a0 p1 v22 (3 : Int32)) (fun v56 => m_bw (f_X9_cassettes Z S23 a0 p1 v22 (3 : Int32) (v56 + v54)) (fun _u S58 => m_b1 (f_X9_of Z S58 a0 p1 (3 : Int32)) (fun v60 => m_bw (f_X9_lays Z S58 a0 p1 (3 : Int32) (v60 - v54)) (fun _u S62 => m_lt (v22 + (1 : Int32)) (fun v63 => lp24 (v63, S62))))))) (fun j53 => (if v49 ≤ v52 then j53 v49 else m_b1 (f_X9_of Z S23 a0 p1 (3 : Int32)) (fun v67 => j53 v67)))))))))))))))))
def f_X9_airs (Z : m_Z) (S : m_S) (a0 : Nat) (p1 : Int32) (p2 : Int32) : Option (Unit × m_S) := m_gd (m_ok Z a0 9) (m_b1 (S.2.2 a0 1) (fun b2 => m_gd (m_ok Z b2 11) (m_lt ((110 : Int32) + p1) (fun v5 => m_gd (m_in v5 (Z.2.2 b2)) (m_b1 (f_X9_of Z S a0 p1 (3 : Int32)) (fun v9 => m_b1 (f_X9_of Z S a0 p1 (0 : Int32)) (fun v11 => m_lt (((((S.1 b2 v5.toNatClampNeg).toInt64 * p2.toInt64) - ((1000 : Int64) * v9.toInt64)) * v11.toInt64) / (1000000 : Int64)) (fun w12 => m_b1 (f_X9_of Z S a0 p1 (3 : Int32)) (fun v15 => m_bw (f_X9_lays Z S a0 p1 (3 : Int32) (v15 + w12.toInt32)) (fun _u S17 => m_bw (f_X9_counts Z S17 a0 p1 (2 : Int32) w12) (fun _u S19 => m_jp (fun (S20 : m_S) => some ((), S20)) (fun j21 => m_fx (F_X9_airs_63 Z a0 p1 j21) 100000 ((0 : Int32), S19)))))))))))))
abbrev rm_X9_airs : Room := { frames := 3, cells := 0, slots := 0, locals := 71 }
theorem hd_X9_airs : yX9_airs.cls = RX9 ∧ yX9_airs.cls ≠ "java/lang/invoke/MethodHandle" ∧ yX9_airs.cls ≠ "java/lang/invoke/VarHandle" ∧ (parseMethodDescriptor yX9_airs.desc).map (fun d => d.parameters.length) = some 2 := by decide +kernel
set_option maxHeartbeats 4000000 in
set_option maxRecDepth 100000 in
theorem c_X9_airs {l : Launch} (hl : l.stackTraces = false) {Z : m_Z} {S : m_S} {a0 : Nat} {p1 : Int32} {p2 : Int32} {rZ9 : Unit} {SZ9 : m_S} (hf : f_X9_airs Z S a0 p1 p2 = some (rZ9, SZ9)) : m_Ct l yX9_airs (.code yX9_airs cX9_airs 8 none :: m_ws) rm_X9_airs (fun f => [.ref a0, .int p1, .int p2]) Z S (none) SZ9 := by
  unfold f_X9_airs at hf
  refine m_ent hl (by decide) (fun _ => Nat.le_of_ble_eq_true rfl) (fun x C F => ?_)
  have C : m_H x l RX9 cX9_airs 8 rm_X9_airs := C
  show m_G x Z S 8 0 0 0 [(0, .ref a0), (1, .int p1), (2, .int p2)] []
  refine r_aload_n (q := 1) C 0 dX9_airs_0 rfl rfl ?_
  obtain ⟨g1, hf⟩ := m_gd_of hf
  obtain ⟨b2, e3, hf⟩ := m_b1_of hf
  refine gf_X9_7 (q := 4) C dX9_airs_1 g1 e3 rfl ?_
  refine r_bipush (q := 6) (v := (110 : Int32)) C dX9_airs_4 (by decide) rfl ?_
  refine r_iload_n (q := 7) C 1 dX9_airs_6 rfl rfl ?_
  refine r_iadd (q := 8) C dX9_airs_7 rfl ?_
  obtain ⟨g4, hf⟩ := m_gd_of hf
  obtain ⟨v5, e6, hf⟩ := m_lt_of hf
  refine r_nm e6 ?_
  obtain ⟨g7, hf⟩ := m_gd_of hf
  refine r_iald (q := 9) C dX9_airs_8 ⟨g4, g7⟩ rfl ?_
  refine r_i2l (q := 10) C dX9_airs_9 rfl ?_
  refine r_iload_n (q := 11) C 2 dX9_airs_10 rfl rfl ?_
  refine r_i2l (q := 12) C dX9_airs_11 rfl ?_
  refine r_lmul (q := 13) C dX9_airs_12 rfl ?_
  refine r_ldc2 (q := 16) C dX9_airs_13 w_1152 rfl ?_
  refine r_aload_n (q := 17) C 0 dX9_airs_16 rfl rfl ?_
  refine r_iload_n (q := 18) C 1 dX9_airs_17 rfl rfl ?_
  refine r_iconst (q := 19) (v := (3 : Int32)) C dX9_airs_18 (by decide) rfl ?_
  obtain ⟨v9, h8, hf⟩ := m_b1_of hf
  refine r_callV (mc := 0) (ms := 0) (q := 22) (st1 := [.int v9, .long (1000 : Int64), .long ((S.1 b2 v5.toNatClampNeg).toInt64 * p2.toInt64)]) C (c_X9_of hl h8) rfl w_937 w_938 w_1325 w_11 w_939 hd_X9_of rfl (by decide) g1 rfl rfl rfl ⟨(Nat.le_of_ble_eq_true rfl), (Nat.le_of_ble_eq_true rfl)⟩ (Nat.le_of_ble_eq_true rfl) ⟨(Nat.le_of_ble_eq_true rfl), (Nat.le_of_ble_eq_true rfl)⟩ dX9_airs_19 rfl rfl ?_
  refine r_i2l (q := 23) C dX9_airs_22 rfl ?_
  refine r_lmul (q := 24) C dX9_airs_23 rfl ?_
  refine r_lsub (q := 25) C dX9_airs_24 rfl ?_
  refine r_aload_n (q := 26) C 0 dX9_airs_25 rfl rfl ?_
  refine r_iload_n (q := 27) C 1 dX9_airs_26 rfl rfl ?_
  refine r_iconst (q := 28) (v := (0 : Int32)) C dX9_airs_27 (by decide) rfl ?_
  obtain ⟨v11, h10, hf⟩ := m_b1_of hf
  refine r_callV (mc := 0) (ms := 0) (q := 31) (st1 := [.int v11, .long (((S.1 b2 v5.toNatClampNeg).toInt64 * p2.toInt64) - ((1000 : Int64) * v9.toInt64))]) C (c_X9_of hl h10) rfl w_937 w_938 w_1325 w_11 w_939 hd_X9_of rfl (by decide) g1 rfl rfl rfl ⟨(Nat.le_of_ble_eq_true rfl), (Nat.le_of_ble_eq_true rfl)⟩ (Nat.le_of_ble_eq_true rfl) ⟨(Nat.le_of_ble_eq_true rfl), (Nat.le_of_ble_eq_true rfl)⟩ dX9_airs_28 rfl rfl ?_
  refine r_i2l (q := 32) C dX9_airs_31 rfl ?_
  refine r_lmul (q := 33) C dX9_airs_32 rfl ?_
  refine r_ldc2 (q := 36) C dX9_airs_33 w_1250 rfl ?_
  refine r_ldiv (q := 37) C dX9_airs_36 (by decide) rfl ?_
  obtain ⟨w12, e13, hf⟩ := m_lt_of hf
  refine r_nmJ e13 ?_
  refine r_lstore_n (q := 38) (L' := [(3, .long w12), (0, .ref a0), (1, .int p1), (2, .int p2)]) C dX9_airs_37 rfl rfl (by decide) rfl ?_
  refine r_aload_n (q := 39) C 1 dX9_airs_38 rfl rfl ?_
  refine r_iload_n (q := 40) C 2 dX9_airs_39 rfl rfl ?_
  refine r_iconst (q := 41) (v := (3 : Int32)) C dX9_airs_40 (by decide) rfl ?_
  refine r_aload_n (q := 42) C 1 dX9_airs_41 rfl rfl ?_
  refine r_iload_n (q := 43) C 2 dX9_airs_42 rfl rfl ?_
  refine r_iconst (q := 44) (v := (3 : Int32)) C dX9_airs_43 (by decide) rfl ?_
  obtain ⟨v15, h14, hf⟩ := m_b1_of hf
  refine r_callV (mc := 0) (ms := 0) (q := 47) (st1 := [.int v15, .int (3 : Int32), .int p1, .ref a0]) C (c_X9_of hl h14) rfl w_937 w_938 w_1325 w_11 w_939 hd_X9_of rfl (by decide) g1 rfl rfl rfl ⟨(Nat.le_of_ble_eq_true rfl), (Nat.le_of_ble_eq_true rfl)⟩ (Nat.le_of_ble_eq_true rfl) ⟨(Nat.le_of_ble_eq_true rfl), (Nat.le_of_ble_eq_true rfl)⟩ dX9_airs_44 rfl rfl ?_
  refine r_lload_n (q := 48) C 0 dX9_airs_47 rfl rfl ?_
  refine r_l2i (q := 49) C dX9_airs_48 rfl ?_
  refine r_iadd (q := 50) C dX9_airs_49 rfl ?_
  obtain ⟨_u, S17, h16, hf⟩ := m_bw_of hf
  refine r_callV (mc := 0) (ms := 0) (q := 53) (st1 := []) C (c_X9_lays hl h16) rfl w_955 w_956 w_1330 w_11 w_957 hd_X9_lays rfl (by decide) g1 rfl rfl rfl ⟨(Nat.le_of_ble_eq_true rfl), (Nat.le_of_ble_eq_true rfl)⟩ (Nat.le_of_ble_eq_true rfl) ⟨(Nat.le_of_ble_eq_true rfl), (Nat.le_of_ble_eq_true rfl)⟩ dX9_airs_50 rfl rfl ?_
  refine r_aload_n (q := 54) C 1 dX9_airs_53 rfl rfl ?_
  refine r_iload_n (q := 55) C 2 dX9_airs_54 rfl rfl ?_
  refine r_iconst (q := 56) (v := (2 : Int32)) C dX9_airs_55 (by decide) rfl ?_
  refine r_lload_n (q := 57) C 0 dX9_airs_56 rfl rfl ?_
  obtain ⟨_u, S19, h18, hf⟩ := m_bw_of hf
  refine r_callV (mc := 0) (ms := 0) (q := 60) (st1 := []) C (c_X9_counts hl h18) rfl w_1188 w_1189 w_1359 w_11 w_1190 hd_X9_counts rfl (by decide) g1 rfl rfl rfl ⟨(Nat.le_of_ble_eq_true rfl), (Nat.le_of_ble_eq_true rfl)⟩ (Nat.le_of_ble_eq_true rfl) ⟨(Nat.le_of_ble_eq_true rfl), (Nat.le_of_ble_eq_true rfl)⟩ dX9_airs_57 rfl rfl ?_
  refine r_iconst (q := 61) (v := (0 : Int32)) C dX9_airs_60 (by decide) rfl ?_
  refine r_istore (q := 63) (L' := [(5, .int (0 : Int32)), (3, .long w12), (0, .ref a0), (1, .int p1), (2, .int p2)]) C dX9_airs_61 rfl (by decide) rfl ?_
  obtain ⟨j21, ej21, hf⟩ := m_jp_of hf
  have J21 : ∀ (S20 : m_S), j21 S20 = some (rZ9, SZ9) → m_G x Z S20 8 0 0 202 [] [] := by
    intro S20 hf
    rw [ej21] at hf
    obtain ⟨rfl, rfl⟩ := m_so2 hf
    exact r_vret C F dX9_airs_202
  have LL27 : ∀ (fu26 : Nat) (v22 : Int32) (S23 : m_S), m_fx (F_X9_airs_63 Z a0 p1 j21) fu26 (v22, S23) = some (rZ9, SZ9) → m_G x Z S23 8 0 0 63 [(0, .ref a0), (1, .int p1), (5, .int v22)] [] := by
    intro fu26
    induction fu26 with
    | zero => intros; rename_i hf; cases hf
    | succ fu26 ih25 =>
      intro v22 S23 hf
      replace hf : F_X9_airs_63 Z a0 p1 j21 (m_fx (F_X9_airs_63 Z a0 p1 j21) fu26) (v22, S23) = some (rZ9, SZ9) := hf
      unfold F_X9_airs_63 at hf
      dsimp only at hf
      refine r_iload (q := 65) C 2 dX9_airs_63 rfl rfl ?_
      refine r_aload_n (q := 66) C 0 dX9_airs_65 rfl rfl ?_
      refine r_iload_n (q := 67) C 1 dX9_airs_66 rfl rfl ?_
      refine r_iconst (q := 68) (v := (4 : Int32)) C dX9_airs_67 (by decide) rfl ?_
      obtain ⟨v29, h28, hf⟩ := m_b1_of hf
      refine r_callV (mc := 0) (ms := 0) (q := 71) (st1 := [.int v29, .int v22]) C (c_X9_of hl h28) rfl w_937 w_938 w_1325 w_11 w_939 hd_X9_of rfl (by decide) g1 rfl rfl rfl ⟨(Nat.le_of_ble_eq_true rfl), (Nat.le_of_ble_eq_true rfl)⟩ (Nat.le_of_ble_eq_true rfl) ⟨(Nat.le_of_ble_eq_true rfl), (Nat.le_of_ble_eq_true rfl)⟩ dX9_airs_68 rfl rfl ?_
      refine r_icmp_ge (t := 202) (q := 74) C dX9_airs_71 (by decide) rfl (fun c30 => ?_) (fun c30 => ?_)
      · replace hf := m_if1 hf c30
        refine r_sub [] rfl ?_
        exact J21 S23 hf
      · replace hf := m_if0 hf c30
        refine r_aload_n (q := 75) C 0 dX9_airs_74 rfl rfl ?_
        refine r_aload_n (q := 76) C 0 dX9_airs_75 rfl rfl ?_
        refine r_iload_n (q := 77) C 1 dX9_airs_76 rfl rfl ?_
        refine r_iload (q := 79) C 2 dX9_airs_77 rfl rfl ?_
        refine r_iconst (q := 80) (v := (1 : Int32)) C dX9_airs_79 (by decide) rfl ?_
        obtain ⟨v32, h31, hf⟩ := m_b1_of hf
        refine r_callV (mc := 0) (ms := 0) (q := 83) (st1 := [.int v32, .ref a0]) C (c_X9_its hl h31) rfl w_940 w_941 w_1326 w_11 w_942 hd_X9_its rfl (by decide) g1 rfl rfl rfl ⟨(Nat.le_of_ble_eq_true rfl), (Nat.le_of_ble_eq_true rfl)⟩ (Nat.le_of_ble_eq_true rfl) ⟨(Nat.le_of_ble_eq_true rfl), (Nat.le_of_ble_eq_true rfl)⟩ dX9_airs_80 rfl rfl ?_
        refine r_aload_n (q := 84) C 0 dX9_airs_83 rfl rfl ?_
        refine r_iload_n (q := 85) C 1 dX9_airs_84 rfl rfl ?_
        refine r_iload (q := 87) C 2 dX9_airs_85 rfl rfl ?_
        refine r_iconst (q := 88) (v := (2 : Int32)) C dX9_airs_87 (by decide) rfl ?_
        obtain ⟨v34, h33, hf⟩ := m_b1_of hf
        refine r_callV (mc := 0) (ms := 0) (q := 91) (st1 := [.int v34, .int v32, .ref a0]) C (c_X9_its hl h33) rfl w_940 w_941 w_1326 w_11 w_942 hd_X9_its rfl (by decide) g1 rfl rfl rfl ⟨(Nat.le_of_ble_eq_true rfl), (Nat.le_of_ble_eq_true rfl)⟩ (Nat.le_of_ble_eq_true rfl) ⟨(Nat.le_of_ble_eq_true rfl), (Nat.le_of_ble_eq_true rfl)⟩ dX9_airs_88 rfl rfl ?_
        refine r_aload_n (q := 92) C 0 dX9_airs_91 rfl rfl ?_
        refine r_iload_n (q := 93) C 1 dX9_airs_92 rfl rfl ?_
        obtain ⟨v36, h35, hf⟩ := m_b1_of hf
        refine r_callV (mc := 0) (ms := 0) (q := 96) (st1 := [.int v36, .int v34, .int v32, .ref a0]) C (c_X9_humidityOf hl h35) rfl w_1149 w_1150 w_1357 w_11 w_1151 hd_X9_humidityOf rfl (by decide) g1 rfl rfl rfl ⟨(Nat.le_of_ble_eq_true rfl), (Nat.le_of_ble_eq_true rfl)⟩ (Nat.le_of_ble_eq_true rfl) ⟨(Nat.le_of_ble_eq_true rfl), (Nat.le_of_ble_eq_true rfl)⟩ dX9_airs_93 rfl rfl ?_
        obtain ⟨v38, h37, hf⟩ := m_b1_of hf
        refine r_callV (mc := 0) (ms := 0) (q := 99) (st1 := [.int v38]) C (c_X9_wouldHave hl h37) rfl w_943 w_944 w_1327 w_11 w_945 hd_X9_wouldHave rfl (by decide) g1 rfl rfl rfl ⟨(Nat.le_of_ble_eq_true rfl), (Nat.le_of_ble_eq_true rfl)⟩ (Nat.le_of_ble_eq_true rfl) ⟨(Nat.le_of_ble_eq_true rfl), (Nat.le_of_ble_eq_true rfl)⟩ dX9_airs_96 rfl rfl ?_
        refine r_istore (q := 101) (L' := [(6, .int v38), (0, .ref a0), (1, .int p1), (5, .int v22)]) C dX9_airs_99 rfl (by decide) rfl ?_
        refine r_iload (q := 103) C 0 dX9_airs_101 rfl rfl ?_
        refine r_aload_n (q := 104) C 1 dX9_airs_103 rfl rfl ?_
        refine r_iload_n (q := 105) C 2 dX9_airs_104 rfl rfl ?_
        refine r_iload (q := 107) C 3 dX9_airs_105 rfl rfl ?_
        refine r_iconst (q := 108) (v := (3 : Int32)) C dX9_airs_107 (by decide) rfl ?_
        obtain ⟨v40, h39, hf⟩ := m_b1_of hf
        refine r_callV (mc := 0) (ms := 0) (q := 111) (st1 := [.int v40, .int v38]) C (c_X9_its hl h39) rfl w_940 w_941 w_1326 w_11 w_942 hd_X9_its rfl (by decide) g1 rfl rfl rfl ⟨(Nat.le_of_ble_eq_true rfl), (Nat.le_of_ble_eq_true rfl)⟩ (Nat.le_of_ble_eq_true rfl) ⟨(Nat.le_of_ble_eq_true rfl), (Nat.le_of_ble_eq_true rfl)⟩ dX9_airs_108 rfl rfl ?_
        refine r_isub (q := 112) C dX9_airs_111 rfl ?_
        refine r_aload_n (q := 113) C 1 dX9_airs_112 rfl rfl ?_
        obtain ⟨b41, e42, hf⟩ := m_b1_of hf
        refine gf_X9_7 (q := 116) C dX9_airs_113 g1 e42 rfl ?_
        refine r_bipush (q := 118) (v := (54 : Int32)) C dX9_airs_116 (by decide) rfl ?_
        refine r_bipush (q := 120) (v := (14 : Int32)) C dX9_airs_118 (by decide) rfl ?_
        refine r_aload_n (q := 121) C 1 dX9_airs_120 rfl rfl ?_
        refine r_iload_n (q := 122) C 2 dX9_airs_121 rfl rfl ?_
        refine r_iload (q := 124) C 3 dX9_airs_122 rfl rfl ?_
        refine r_iconst (q := 125) (v := (1 : Int32)) C dX9_airs_124 (by decide) rfl ?_
        obtain ⟨v44, h43, hf⟩ := m_b1_of hf
        refine r_callV (mc := 0) (ms := 0) (q := 128) (st1 := [.int v44, .int (14 : Int32), .int (54 : Int32), .ref b41, .int (v38 - v40)]) C (c_X9_its hl h43) rfl w_940 w_941 w_1326 w_11 w_942 hd_X9_its rfl (by decide) g1 rfl rfl rfl ⟨(Nat.le_of_ble_eq_true rfl), (Nat.le_of_ble_eq_true rfl)⟩ (Nat.le_of_ble_eq_true rfl) ⟨(Nat.le_of_ble_eq_true rfl), (Nat.le_of_ble_eq_true rfl)⟩ dX9_airs_125 rfl rfl ?_
        refine r_imul (q := 129) C dX9_airs_128 rfl ?_
        refine r_iadd (q := 130) C dX9_airs_129 rfl ?_
        obtain ⟨g45, hf⟩ := m_gd_of hf
        obtain ⟨v46, e47, hf⟩ := m_lt_of hf
        refine r_nm e47 ?_
        obtain ⟨g48, hf⟩ := m_gd_of hf
        refine r_iald (q := 131) C dX9_airs_130 ⟨g45, g48⟩ rfl ?_
        refine r_imul (q := 132) C dX9_airs_131 rfl ?_
        refine r_sipush (q := 135) (v := (1000 : Int32)) C dX9_airs_132 (by decide) rfl ?_
        refine r_idiv (q := 136) C dX9_airs_135 (by decide) rfl ?_
        obtain ⟨v49, e50, hf⟩ := m_lt_of hf
        refine r_nm e50 ?_
        refine r_istore (q := 138) (L' := [(7, .int v49), (6, .int v38), (0, .ref a0), (1, .int p1), (5, .int v22)]) C dX9_airs_136 rfl (by decide) rfl ?_
        refine r_iload (q := 140) C 0 dX9_airs_138 rfl rfl ?_
        refine r_aload_n (q := 141) C 2 dX9_airs_140 rfl rfl ?_
        refine r_iload_n (q := 142) C 3 dX9_airs_141 rfl rfl ?_
        refine r_iconst (q := 143) (v := (3 : Int32)) C dX9_airs_142 (by decide) rfl ?_
        obtain ⟨v52, h51, hf⟩ := m_b1_of hf
        refine r_callV (mc := 0) (ms := 0) (q := 146) (st1 := [.int v52, .int v49]) C (c_X9_of hl h51) rfl w_937 w_938 w_1325 w_11 w_939 hd_X9_of rfl (by decide) g1 rfl rfl rfl ⟨(Nat.le_of_ble_eq_true rfl), (Nat.le_of_ble_eq_true rfl)⟩ (Nat.le_of_ble_eq_true rfl) ⟨(Nat.le_of_ble_eq_true rfl), (Nat.le_of_ble_eq_true rfl)⟩ dX9_airs_143 rfl rfl ?_
        obtain ⟨j53, ej53, hf⟩ := m_jp_of hf
        have J53 : ∀ (v54 : Int32), j53 v54 = some (rZ9, SZ9) → m_G x Z S23 8 0 0 160 [(0, .ref a0), (1, .int p1), (5, .int v22)] [.int v54] := by
          intro v54 hf
          rw [ej53] at hf
          refine r_istore (q := 162) (L' := [(7, .int v54), (0, .ref a0), (1, .int p1), (5, .int v22)]) C dX9_airs_160 rfl (by decide) rfl ?_
          refine r_aload_n (q := 163) C 1 dX9_airs_162 rfl rfl ?_
          refine r_iload_n (q := 164) C 2 dX9_airs_163 rfl rfl ?_
          refine r_iload (q := 166) C 3 dX9_airs_164 rfl rfl ?_
          refine r_iconst (q := 167) (v := (3 : Int32)) C dX9_airs_166 (by decide) rfl ?_
          refine r_aload_n (q := 168) C 1 dX9_airs_167 rfl rfl ?_
          refine r_iload_n (q := 169) C 2 dX9_airs_168 rfl rfl ?_
          refine r_iload (q := 171) C 3 dX9_airs_169 rfl rfl ?_
          refine r_iconst (q := 172) (v := (3 : Int32)) C dX9_airs_171 (by decide) rfl ?_
          obtain ⟨v56, h55, hf⟩ := m_b1_of hf
          refine r_callV (mc := 0) (ms := 0) (q := 175) (st1 := [.int v56, .int (3 : Int32), .int v22, .int p1, .ref a0]) C (c_X9_its hl h55) rfl w_940 w_941 w_1326 w_11 w_942 hd_X9_its rfl (by decide) g1 rfl rfl rfl ⟨(Nat.le_of_ble_eq_true rfl), (Nat.le_of_ble_eq_true rfl)⟩ (Nat.le_of_ble_eq_true rfl) ⟨(Nat.le_of_ble_eq_true rfl), (Nat.le_of_ble_eq_true rfl)⟩ dX9_airs_172 rfl rfl ?_
          refine r_iload (q := 177) C 0 dX9_airs_175 rfl rfl ?_
          refine r_iadd (q := 178) C dX9_airs_177 rfl ?_
          obtain ⟨_u, S58, h57, hf⟩ := m_bw_of hf
          refine r_callV (mc := 0) (ms := 0) (q := 181) (st1 := []) C (c_X9_cassettes hl h57) rfl w_952 w_953 w_1329 w_11 w_954 hd_X9_cassettes rfl (by decide) g1 rfl rfl rfl ⟨(Nat.le_of_ble_eq_true rfl), (Nat.le_of_ble_eq_true rfl)⟩ (Nat.le_of_ble_eq_true rfl) ⟨(Nat.le_of_ble_eq_true rfl), (Nat.le_of_ble_eq_true rfl)⟩ dX9_airs_178 rfl rfl ?_
          refine r_aload_n (q := 182) C 1 dX9_airs_181 rfl rfl ?_
          refine r_iload_n (q := 183) C 2 dX9_airs_182 rfl rfl ?_
          refine r_iconst (q := 184) (v := (3 : Int32)) C dX9_airs_183 (by decide) rfl ?_
          refine r_aload_n (q := 185) C 1 dX9_airs_184 rfl rfl ?_
          refine r_iload_n (q := 186) C 2 dX9_airs_185 rfl rfl ?_
          refine r_iconst (q := 187) (v := (3 : Int32)) C dX9_airs_186 (by decide) rfl ?_
          obtain ⟨v60, h59, hf⟩ := m_b1_of hf
          refine r_callV (mc := 0) (ms := 0) (q := 190) (st1 := [.int v60, .int (3 : Int32), .int p1, .ref a0]) C (c_X9_of hl h59) rfl w_937 w_938 w_1325 w_11 w_939 hd_X9_of rfl (by decide) g1 rfl rfl rfl ⟨(Nat.le_of_ble_eq_true rfl), (Nat.le_of_ble_eq_true rfl)⟩ (Nat.le_of_ble_eq_true rfl) ⟨(Nat.le_of_ble_eq_true rfl), (Nat.le_of_ble_eq_true rfl)⟩ dX9_airs_187 rfl rfl ?_
          refine r_iload (q := 192) C 0 dX9_airs_190 rfl rfl ?_
          refine r_isub (q := 193) C dX9_airs_192 rfl ?_
          obtain ⟨_u, S62, h61, hf⟩ := m_bw_of hf
          refine r_callV (mc := 0) (ms := 0) (q := 196) (st1 := []) C (c_X9_lays hl h61) rfl w_955 w_956 w_1330 w_11 w_957 hd_X9_lays rfl (by decide) g1 rfl rfl rfl ⟨(Nat.le_of_ble_eq_true rfl), (Nat.le_of_ble_eq_true rfl)⟩ (Nat.le_of_ble_eq_true rfl) ⟨(Nat.le_of_ble_eq_true rfl), (Nat.le_of_ble_eq_true rfl)⟩ dX9_airs_193 rfl rfl ?_
          obtain ⟨v63, e64, hf⟩ := m_lt_of hf
          refine r_iinc (q := 199) (v := v63) (L' := [(5, .int v63), (7, .int v54), (0, .ref a0), (1, .int p1)]) C 3 dX9_airs_196 rfl (by rw [e64]; rfl) rfl (by decide) rfl ?_
          refine r_goto (t := 63) C dX9_airs_199 (by decide) ?_
          refine r_sub [2, 3, 0] rfl ?_
          exact ih25 v63 S62 hf
        refine r_icmp_le (t := 158) (q := 149) C dX9_airs_146 (by decide) rfl (fun c65 => ?_) (fun c65 => ?_)
        · replace hf := m_if1 hf c65
          refine r_iload (q := 160) C 0 dX9_airs_158 rfl rfl ?_
          refine r_sub [2, 3, 4] rfl ?_
          exact J53 v49 hf
        · replace hf := m_if0 hf c65
          refine r_aload_n (q := 150) C 2 dX9_airs_149 rfl rfl ?_
          refine r_iload_n (q := 151) C 3 dX9_airs_150 rfl rfl ?_
          refine r_iconst (q := 152) (v := (3 : Int32)) C dX9_airs_151 (by decide) rfl ?_
          obtain ⟨v67, h66, hf⟩ := m_b1_of hf
          refine r_callV (mc := 0) (ms := 0) (q := 155) (st1 := [.int v67]) C (c_X9_of hl h66) rfl w_937 w_938 w_1325 w_11 w_939 hd_X9_of rfl (by decide) g1 rfl rfl rfl ⟨(Nat.le_of_ble_eq_true rfl), (Nat.le_of_ble_eq_true rfl)⟩ (Nat.le_of_ble_eq_true rfl) ⟨(Nat.le_of_ble_eq_true rfl), (Nat.le_of_ble_eq_true rfl)⟩ dX9_airs_152 rfl rfl ?_
          refine r_goto (t := 160) C dX9_airs_155 (by decide) ?_
          refine r_sub [2, 3, 4] rfl ?_
          exact J53 v67 hf
  refine r_sub [2, 3, 0] rfl ?_
  exact LL27 100000 (0 : Int32) S19 hf
def f_X9_records (Z : m_Z) (S : m_S) (a0 : Nat) (p1 : Int32) : Option (Int32 × m_S) := m_gd (m_ok Z a0 9) (m_b1 (f_X9_humidityOf Z S a0 p1) (fun v3 => m_b1 (S.2.2 a0 3) (fun b4 => m_gd (m_ok Z b4 11) (m_gd (m_in (0 : Int32) (Z.2.2 b4)) (m_bw (f_X9_lays Z S a0 p1 ((32 : Int32) + ((S.1 b4 (0 : Int32).toNatClampNeg) - (S.1 b4 (0 : Int32).toNatClampNeg) / (24 : Int32) * (24 : Int32))) v3) (fun _u S9 => m_bw (f_X9_counts Z S9 a0 p1 (0 : Int32) v3.toInt64) (fun _u S11 => m_b1 (f_X9_of Z S11 a0 p1 (6 : Int32)) (fun v13 => m_jp (fun (S15 : m_S) => m_b1 (f_X9_of Z S15 a0 p1 (7 : Int32)) (fun v17 => m_jp (fun (S19 : m_S) => m_b1 (f_X9_of Z S19 a0 p1 (1 : Int32)) (fun v21 => m_b1 (f_X9_of Z S19 a0 p1 (2 : Int32)) (fun v23 => m_b1 (f_X9_isIn Z S19 v3 v21 v23) (fun v25 => m_jp (fun (v27 : Int32) => (if v27 = 0 then m_gd (v27 = 0 ∨ v27 = 1) (some (v27, S19)) else m_b1 (f_X9_of Z S19 a0 p1 (5 : Int32)) (fun v31 => m_bw (f_X9_lays Z S19 a0 p1 (5 : Int32) (v31 + (1 : Int32))) (fun _u S33 => m_gd (v27 = 0 ∨ v27 = 1) (some (v27, S33)))))) (fun j26 => (if ¬ v25 = 0 then j26 (0 : Int32) else j26 (1 : Int32))))))) (fun j18 => m_jp (fun (_ : Unit) => m_bw (f_X9_lays Z S15 a0 p1 (7 : Int32) v3) (fun _u S38 => j18 S38)) (fun j36 => (if v17 = (-1 : Int32) then j36 () else m_b1 (f_X9_of Z S15 a0 p1 (7 : Int32)) (fun v41 => (if v3 ≤ v41 then j18 S15 else j36 ()))))))) (fun j14 => m_jp (fun (_ : Unit) => m_bw (f_X9_lays Z S11 a0 p1 (6 : Int32) v3) (fun _u S45 => j14 S45)) (fun j43 => (if v13 = (-1 : Int32) then j43 () else m_b1 (f_X9_of Z S11 a0 p1 (6 : Int32)) (fun v48 => (if v48 ≤ v3 then j14 S11 else j43 ())))))))))))))
abbrev rm_X9_records : Room := { frames := 2, cells := 0, slots := 0, locals := 43 }
theorem hd_X9_records : yX9_records.cls = RX9 ∧ yX9_records.cls ≠ "java/lang/invoke/MethodHandle" ∧ yX9_records.cls ≠ "java/lang/invoke/VarHandle" ∧ (parseMethodDescriptor yX9_records.desc).map (fun d => d.parameters.length) = some 1 := by decide +kernel
set_option maxHeartbeats 4000000 in
set_option maxRecDepth 100000 in
theorem c_X9_records {l : Launch} (hl : l.stackTraces = false) {Z : m_Z} {S : m_S} {a0 : Nat} {p1 : Int32} {rZ9 : Int32} {SZ9 : m_S} (hf : f_X9_records Z S a0 p1 = some (rZ9, SZ9)) : m_Ct l yX9_records (.code yX9_records cX9_records 4 (some .boolean) :: m_ws) rm_X9_records (fun f => [.ref a0, .int p1]) Z S (some (.int rZ9)) SZ9 := by
  unfold f_X9_records at hf
  refine m_ent hl (by decide) (fun _ => Nat.le_of_ble_eq_true rfl) (fun x C F => ?_)
  have C : m_H x l RX9 cX9_records 4 rm_X9_records := C
  show m_G x Z S 4 0 0 0 [(0, .ref a0), (1, .int p1)] []
  refine r_aload_n (q := 1) C 0 dX9_records_0 rfl rfl ?_
  refine r_iload_n (q := 2) C 1 dX9_records_1 rfl rfl ?_
  obtain ⟨g1, hf⟩ := m_gd_of hf
  obtain ⟨v3, h2, hf⟩ := m_b1_of hf
  refine r_callV (mc := 0) (ms := 0) (q := 5) (st1 := [.int v3]) C (c_X9_humidityOf hl h2) rfl w_1149 w_1150 w_1357 w_11 w_1151 hd_X9_humidityOf rfl (by decide) g1 rfl rfl rfl ⟨(Nat.le_of_ble_eq_true rfl), (Nat.le_of_ble_eq_true rfl)⟩ (Nat.le_of_ble_eq_true rfl) ⟨(Nat.le_of_ble_eq_true rfl), (Nat.le_of_ble_eq_true rfl)⟩ dX9_records_2 rfl rfl ?_
  refine r_istore_n (q := 6) (L' := [(2, .int v3), (0, .ref a0), (1, .int p1)]) C dX9_records_5 rfl rfl (by decide) rfl ?_
  refine r_aload_n (q := 7) C 1 dX9_records_6 rfl rfl ?_
  refine r_iload_n (q := 8) C 2 dX9_records_7 rfl rfl ?_
  refine r_bipush (q := 10) (v := (32 : Int32)) C dX9_records_8 (by decide) rfl ?_
  refine r_aload_n (q := 11) C 1 dX9_records_10 rfl rfl ?_
  obtain ⟨b4, e5, hf⟩ := m_b1_of hf
  refine gf_X9_16 (q := 14) C dX9_records_11 g1 e5 rfl ?_
  refine r_iconst (q := 15) (v := (0 : Int32)) C dX9_records_14 (by decide) rfl ?_
  obtain ⟨g6, hf⟩ := m_gd_of hf
  obtain ⟨g7, hf⟩ := m_gd_of hf
  refine r_iald (q := 16) C dX9_records_15 ⟨g6, g7⟩ rfl ?_
  refine r_bipush (q := 18) (v := (24 : Int32)) C dX9_records_16 (by decide) rfl ?_
  refine r_irem (q := 19) C dX9_records_18 (by decide) rfl ?_
  refine r_iadd (q := 20) C dX9_records_19 rfl ?_
  refine r_iload_n (q := 21) C 0 dX9_records_20 rfl rfl ?_
  obtain ⟨_u, S9, h8, hf⟩ := m_bw_of hf
  refine r_callV (mc := 0) (ms := 0) (q := 24) (st1 := []) C (c_X9_lays hl h8) rfl w_955 w_956 w_1330 w_11 w_957 hd_X9_lays rfl (by decide) g1 rfl rfl rfl ⟨(Nat.le_of_ble_eq_true rfl), (Nat.le_of_ble_eq_true rfl)⟩ (Nat.le_of_ble_eq_true rfl) ⟨(Nat.le_of_ble_eq_true rfl), (Nat.le_of_ble_eq_true rfl)⟩ dX9_records_21 rfl rfl ?_
  refine r_aload_n (q := 25) C 1 dX9_records_24 rfl rfl ?_
  refine r_iload_n (q := 26) C 2 dX9_records_25 rfl rfl ?_
  refine r_iconst (q := 27) (v := (0 : Int32)) C dX9_records_26 (by decide) rfl ?_
  refine r_iload_n (q := 28) C 0 dX9_records_27 rfl rfl ?_
  refine r_i2l (q := 29) C dX9_records_28 rfl ?_
  obtain ⟨_u, S11, h10, hf⟩ := m_bw_of hf
  refine r_callV (mc := 0) (ms := 0) (q := 32) (st1 := []) C (c_X9_counts hl h10) rfl w_1188 w_1189 w_1359 w_11 w_1190 hd_X9_counts rfl (by decide) g1 rfl rfl rfl ⟨(Nat.le_of_ble_eq_true rfl), (Nat.le_of_ble_eq_true rfl)⟩ (Nat.le_of_ble_eq_true rfl) ⟨(Nat.le_of_ble_eq_true rfl), (Nat.le_of_ble_eq_true rfl)⟩ dX9_records_29 rfl rfl ?_
  refine r_aload_n (q := 33) C 1 dX9_records_32 rfl rfl ?_
  refine r_iload_n (q := 34) C 2 dX9_records_33 rfl rfl ?_
  refine r_bipush (q := 36) (v := (6 : Int32)) C dX9_records_34 (by decide) rfl ?_
  obtain ⟨v13, h12, hf⟩ := m_b1_of hf
  refine r_callV (mc := 0) (ms := 0) (q := 39) (st1 := [.int v13]) C (c_X9_of hl h12) rfl w_937 w_938 w_1325 w_11 w_939 hd_X9_of rfl (by decide) g1 rfl rfl rfl ⟨(Nat.le_of_ble_eq_true rfl), (Nat.le_of_ble_eq_true rfl)⟩ (Nat.le_of_ble_eq_true rfl) ⟨(Nat.le_of_ble_eq_true rfl), (Nat.le_of_ble_eq_true rfl)⟩ dX9_records_36 rfl rfl ?_
  refine r_iconst (q := 40) (v := (-1 : Int32)) C dX9_records_39 (by decide) rfl ?_
  obtain ⟨j14, ej14, hf⟩ := m_jp_of hf
  have J14 : ∀ (S15 : m_S), j14 S15 = some (rZ9, SZ9) → m_G x Z S15 4 0 0 62 [(0, .ref a0), (1, .int p1), (2, .int v3)] [] := by
    intro S15 hf
    rw [ej14] at hf
    refine r_aload_n (q := 63) C 0 dX9_records_62 rfl rfl ?_
    refine r_iload_n (q := 64) C 1 dX9_records_63 rfl rfl ?_
    refine r_bipush (q := 66) (v := (7 : Int32)) C dX9_records_64 (by decide) rfl ?_
    obtain ⟨v17, h16, hf⟩ := m_b1_of hf
    refine r_callV (mc := 0) (ms := 0) (q := 69) (st1 := [.int v17]) C (c_X9_of hl h16) rfl w_937 w_938 w_1325 w_11 w_939 hd_X9_of rfl (by decide) g1 rfl rfl rfl ⟨(Nat.le_of_ble_eq_true rfl), (Nat.le_of_ble_eq_true rfl)⟩ (Nat.le_of_ble_eq_true rfl) ⟨(Nat.le_of_ble_eq_true rfl), (Nat.le_of_ble_eq_true rfl)⟩ dX9_records_66 rfl rfl ?_
    refine r_iconst (q := 70) (v := (-1 : Int32)) C dX9_records_69 (by decide) rfl ?_
    obtain ⟨j18, ej18, hf⟩ := m_jp_of hf
    have J18 : ∀ (S19 : m_S), j18 S19 = some (rZ9, SZ9) → m_G x Z S19 4 0 0 92 [(0, .ref a0), (1, .int p1), (2, .int v3)] [] := by
      intro S19 hf
      rw [ej18] at hf
      refine r_iload_n (q := 93) C 2 dX9_records_92 rfl rfl ?_
      refine r_aload_n (q := 94) C 0 dX9_records_93 rfl rfl ?_
      refine r_iload_n (q := 95) C 1 dX9_records_94 rfl rfl ?_
      refine r_iconst (q := 96) (v := (1 : Int32)) C dX9_records_95 (by decide) rfl ?_
      obtain ⟨v21, h20, hf⟩ := m_b1_of hf
      refine r_callV (mc := 0) (ms := 0) (q := 99) (st1 := [.int v21, .int v3]) C (c_X9_of hl h20) rfl w_937 w_938 w_1325 w_11 w_939 hd_X9_of rfl (by decide) g1 rfl rfl rfl ⟨(Nat.le_of_ble_eq_true rfl), (Nat.le_of_ble_eq_true rfl)⟩ (Nat.le_of_ble_eq_true rfl) ⟨(Nat.le_of_ble_eq_true rfl), (Nat.le_of_ble_eq_true rfl)⟩ dX9_records_96 rfl rfl ?_
      refine r_aload_n (q := 100) C 0 dX9_records_99 rfl rfl ?_
      refine r_iload_n (q := 101) C 1 dX9_records_100 rfl rfl ?_
      refine r_iconst (q := 102) (v := (2 : Int32)) C dX9_records_101 (by decide) rfl ?_
      obtain ⟨v23, h22, hf⟩ := m_b1_of hf
      refine r_callV (mc := 0) (ms := 0) (q := 105) (st1 := [.int v23, .int v21, .int v3]) C (c_X9_of hl h22) rfl w_937 w_938 w_1325 w_11 w_939 hd_X9_of rfl (by decide) g1 rfl rfl rfl ⟨(Nat.le_of_ble_eq_true rfl), (Nat.le_of_ble_eq_true rfl)⟩ (Nat.le_of_ble_eq_true rfl) ⟨(Nat.le_of_ble_eq_true rfl), (Nat.le_of_ble_eq_true rfl)⟩ dX9_records_102 rfl rfl ?_
      obtain ⟨v25, h24, hf⟩ := m_b1_of hf
      refine r_callS (mc := 0) (ms := 0) (q := 108) (st1 := [.int v25]) C (c_X9_isIn hl h24) rfl w_1031 w_1032 w_11 w_1033 hd_X9_isIn rfl rfl rfl ⟨(Nat.le_of_ble_eq_true rfl), (Nat.le_of_ble_eq_true rfl)⟩ (Nat.le_of_ble_eq_true rfl) ⟨(Nat.le_of_ble_eq_true rfl), (Nat.le_of_ble_eq_true rfl)⟩ dX9_records_105 rfl rfl ?_
      obtain ⟨j26, ej26, hf⟩ := m_jp_of hf
      have J26 : ∀ (v27 : Int32), j26 v27 = some (rZ9, SZ9) → m_G x Z S19 4 0 0 116 [(0, .ref a0), (1, .int p1)] [.int v27] := by
        intro v27 hf
        rw [ej26] at hf
        refine r_istore_n (q := 117) (L' := [(3, .int v27), (0, .ref a0), (1, .int p1)]) C dX9_records_116 rfl rfl (by decide) rfl ?_
        refine r_iload_n (q := 118) C 0 dX9_records_117 rfl rfl ?_
        refine r_if_eq (t := 135) (q := 121) C dX9_records_118 (by decide) rfl (fun c28 => ?_) (fun c28 => ?_)
        · replace hf := m_if1 hf c28
          refine r_iload_n (q := 136) C 0 dX9_records_135 rfl rfl ?_
          obtain ⟨g29, hf⟩ := m_gd_of hf
          obtain ⟨rfl, rfl⟩ := m_so2 hf
          exact r_zret C F (m_zn g29) dX9_records_136
        · replace hf := m_if0 hf c28
          refine r_aload_n (q := 122) C 1 dX9_records_121 rfl rfl ?_
          refine r_iload_n (q := 123) C 2 dX9_records_122 rfl rfl ?_
          refine r_iconst (q := 124) (v := (5 : Int32)) C dX9_records_123 (by decide) rfl ?_
          refine r_aload_n (q := 125) C 1 dX9_records_124 rfl rfl ?_
          refine r_iload_n (q := 126) C 2 dX9_records_125 rfl rfl ?_
          refine r_iconst (q := 127) (v := (5 : Int32)) C dX9_records_126 (by decide) rfl ?_
          obtain ⟨v31, h30, hf⟩ := m_b1_of hf
          refine r_callV (mc := 0) (ms := 0) (q := 130) (st1 := [.int v31, .int (5 : Int32), .int p1, .ref a0]) C (c_X9_of hl h30) rfl w_937 w_938 w_1325 w_11 w_939 hd_X9_of rfl (by decide) g1 rfl rfl rfl ⟨(Nat.le_of_ble_eq_true rfl), (Nat.le_of_ble_eq_true rfl)⟩ (Nat.le_of_ble_eq_true rfl) ⟨(Nat.le_of_ble_eq_true rfl), (Nat.le_of_ble_eq_true rfl)⟩ dX9_records_127 rfl rfl ?_
          refine r_iconst (q := 131) (v := (1 : Int32)) C dX9_records_130 (by decide) rfl ?_
          refine r_iadd (q := 132) C dX9_records_131 rfl ?_
          obtain ⟨_u, S33, h32, hf⟩ := m_bw_of hf
          refine r_callV (mc := 0) (ms := 0) (q := 135) (st1 := []) C (c_X9_lays hl h32) rfl w_955 w_956 w_1330 w_11 w_957 hd_X9_lays rfl (by decide) g1 rfl rfl rfl ⟨(Nat.le_of_ble_eq_true rfl), (Nat.le_of_ble_eq_true rfl)⟩ (Nat.le_of_ble_eq_true rfl) ⟨(Nat.le_of_ble_eq_true rfl), (Nat.le_of_ble_eq_true rfl)⟩ dX9_records_132 rfl rfl ?_
          refine r_iload_n (q := 136) C 0 dX9_records_135 rfl rfl ?_
          obtain ⟨g34, hf⟩ := m_gd_of hf
          obtain ⟨rfl, rfl⟩ := m_so2 hf
          exact r_zret C F (m_zn g34) dX9_records_136
      refine r_if_ne (t := 115) (q := 111) C dX9_records_108 (by decide) rfl (fun c35 => ?_) (fun c35 => ?_)
      · replace hf := m_if1 hf c35
        refine r_iconst (q := 116) (v := (0 : Int32)) C dX9_records_115 (by decide) rfl ?_
        refine r_sub [0, 1] rfl ?_
        exact J26 (0 : Int32) hf
      · replace hf := m_if0 hf (fun z => z c35)
        refine r_iconst (q := 112) (v := (1 : Int32)) C dX9_records_111 (by decide) rfl ?_
        refine r_goto (t := 116) C dX9_records_112 (by decide) ?_
        refine r_sub [0, 1] rfl ?_
        exact J26 (1 : Int32) hf
    obtain ⟨j36, ej36, hf⟩ := m_jp_of hf
    have J36 : ∀ (_ : Unit), j36 () = some (rZ9, SZ9) → m_G x Z S15 4 0 0 84 [(0, .ref a0), (1, .int p1), (2, .int v3)] [] := by
      intro _ hf
      rw [ej36] at hf
      refine r_aload_n (q := 85) C 0 dX9_records_84 rfl rfl ?_
      refine r_iload_n (q := 86) C 1 dX9_records_85 rfl rfl ?_
      refine r_bipush (q := 88) (v := (7 : Int32)) C dX9_records_86 (by decide) rfl ?_
      refine r_iload_n (q := 89) C 2 dX9_records_88 rfl rfl ?_
      obtain ⟨_u, S38, h37, hf⟩ := m_bw_of hf
      refine r_callV (mc := 0) (ms := 0) (q := 92) (st1 := []) C (c_X9_lays hl h37) rfl w_955 w_956 w_1330 w_11 w_957 hd_X9_lays rfl (by decide) g1 rfl rfl rfl ⟨(Nat.le_of_ble_eq_true rfl), (Nat.le_of_ble_eq_true rfl)⟩ (Nat.le_of_ble_eq_true rfl) ⟨(Nat.le_of_ble_eq_true rfl), (Nat.le_of_ble_eq_true rfl)⟩ dX9_records_89 rfl rfl ?_
      exact J18 S38 hf
    refine r_icmp_eq (t := 84) (q := 73) C dX9_records_70 (by decide) rfl (fun c39 => ?_) (fun c39 => ?_)
    · replace hf := m_if1 hf c39
      exact J36 ()  hf
    · replace hf := m_if0 hf c39
      refine r_iload_n (q := 74) C 2 dX9_records_73 rfl rfl ?_
      refine r_aload_n (q := 75) C 0 dX9_records_74 rfl rfl ?_
      refine r_iload_n (q := 76) C 1 dX9_records_75 rfl rfl ?_
      refine r_bipush (q := 78) (v := (7 : Int32)) C dX9_records_76 (by decide) rfl ?_
      obtain ⟨v41, h40, hf⟩ := m_b1_of hf
      refine r_callV (mc := 0) (ms := 0) (q := 81) (st1 := [.int v41, .int v3]) C (c_X9_of hl h40) rfl w_937 w_938 w_1325 w_11 w_939 hd_X9_of rfl (by decide) g1 rfl rfl rfl ⟨(Nat.le_of_ble_eq_true rfl), (Nat.le_of_ble_eq_true rfl)⟩ (Nat.le_of_ble_eq_true rfl) ⟨(Nat.le_of_ble_eq_true rfl), (Nat.le_of_ble_eq_true rfl)⟩ dX9_records_78 rfl rfl ?_
      refine r_icmp_le (t := 92) (q := 84) C dX9_records_81 (by decide) rfl (fun c42 => ?_) (fun c42 => ?_)
      · replace hf := m_if1 hf c42
        exact J18 S15 hf
      · replace hf := m_if0 hf c42
        exact J36 ()  hf
  obtain ⟨j43, ej43, hf⟩ := m_jp_of hf
  have J43 : ∀ (_ : Unit), j43 () = some (rZ9, SZ9) → m_G x Z S11 4 0 0 54 [(0, .ref a0), (1, .int p1), (2, .int v3)] [] := by
    intro _ hf
    rw [ej43] at hf
    refine r_aload_n (q := 55) C 0 dX9_records_54 rfl rfl ?_
    refine r_iload_n (q := 56) C 1 dX9_records_55 rfl rfl ?_
    refine r_bipush (q := 58) (v := (6 : Int32)) C dX9_records_56 (by decide) rfl ?_
    refine r_iload_n (q := 59) C 2 dX9_records_58 rfl rfl ?_
    obtain ⟨_u, S45, h44, hf⟩ := m_bw_of hf
    refine r_callV (mc := 0) (ms := 0) (q := 62) (st1 := []) C (c_X9_lays hl h44) rfl w_955 w_956 w_1330 w_11 w_957 hd_X9_lays rfl (by decide) g1 rfl rfl rfl ⟨(Nat.le_of_ble_eq_true rfl), (Nat.le_of_ble_eq_true rfl)⟩ (Nat.le_of_ble_eq_true rfl) ⟨(Nat.le_of_ble_eq_true rfl), (Nat.le_of_ble_eq_true rfl)⟩ dX9_records_59 rfl rfl ?_
    exact J14 S45 hf
  refine r_icmp_eq (t := 54) (q := 43) C dX9_records_40 (by decide) rfl (fun c46 => ?_) (fun c46 => ?_)
  · replace hf := m_if1 hf c46
    refine r_sub [1, 2, 0] rfl ?_
    exact J43 ()  hf
  · replace hf := m_if0 hf c46
    refine r_iload_n (q := 44) C 0 dX9_records_43 rfl rfl ?_
    refine r_aload_n (q := 45) C 1 dX9_records_44 rfl rfl ?_
    refine r_iload_n (q := 46) C 2 dX9_records_45 rfl rfl ?_
    refine r_bipush (q := 48) (v := (6 : Int32)) C dX9_records_46 (by decide) rfl ?_
    obtain ⟨v48, h47, hf⟩ := m_b1_of hf
    refine r_callV (mc := 0) (ms := 0) (q := 51) (st1 := [.int v48, .int v3]) C (c_X9_of hl h47) rfl w_937 w_938 w_1325 w_11 w_939 hd_X9_of rfl (by decide) g1 rfl rfl rfl ⟨(Nat.le_of_ble_eq_true rfl), (Nat.le_of_ble_eq_true rfl)⟩ (Nat.le_of_ble_eq_true rfl) ⟨(Nat.le_of_ble_eq_true rfl), (Nat.le_of_ble_eq_true rfl)⟩ dX9_records_48 rfl rfl ?_
    refine r_icmp_ge (t := 62) (q := 54) C dX9_records_51 (by decide) rfl (fun c49 => ?_) (fun c49 => ?_)
    · replace hf := m_if1 hf c49
      refine r_sub [1, 2, 0] rfl ?_
      exact J14 S11 hf
    · replace hf := m_if0 hf c49
      refine r_sub [1, 2, 0] rfl ?_
      exact J43 ()  hf
def F_X9_hour_80 (Z : m_Z) (a0 : Nat) (p2 : Int32) (j38 : (Int32 → m_S → Option (Int32 × m_S))) (lp42 : (Int32 × Int32 × m_S) → Option (Int32 × m_S)) (p61 : (Int32 × Int32 × m_S)) : Option (Int32 × m_S) := match p61 with
  | (v39, v40, S41) => (if p2 < v40 then j38 v39 S41 else m_bw (f_X9_airs Z S41 a0 v40 (S41.1 a0 25)) (fun _u S48 => m_bw (f_X9_records Z S48 a0 v40) (fun v51 S50 => (if v51 = 0 then m_lt (v39 + (0 : Int32)) (fun v53 => m_lt (v40 + (1 : Int32)) (fun v55 => lp42 (v53, v55, S50))) else m_lt (v39 + (1 : Int32)) (fun v57 => m_lt (v40 + (1 : Int32)) (fun v59 => lp42 (v57, v59, S50)))))))
def f_X9_hour (Z : m_Z) (S : m_S) (a0 : Nat) (p1 : Int32) (p2 : Int32) : Option (Int32 × m_S) := m_gd (m_ok Z a0 9) (m_b1 (S.2.2 a0 3) (fun b2 => m_gd (m_ok Z b2 11) (m_gd (m_in (1 : Int32) (Z.2.2 b2)) (m_b1 (S.2.2 a0 1) (fun b6 => m_gd (m_ok Z b6 11) (m_gd (m_in (0 : Int32) (Z.2.2 b6)) (m_gd (m_in (1 : Int32) (Z.2.2 b6)) (m_gd (m_in (0 : Int32) (Z.2.2 b2)) (m_lt ((30 : Int32) + ((S.1 b2 (0 : Int32).toNatClampNeg) - (S.1 b2 (0 : Int32).toNatClampNeg) / (24 : Int32) * (24 : Int32))) (fun v12 => m_gd (m_in v12 (Z.2.2 b6)) (m_gd (m_in (2 : Int32) (Z.2.2 b2)) (m_gd (m_in (1 : Int32) (Z.2.2 b2)) (m_lt (m_pI S b2 (1 : Int32).toNatClampNeg (((((S.1 b2 (1 : Int32).toNatClampNeg).toInt64 * (S.1 b6 (0 : Int32).toNatClampNeg).toInt64) / (1000 : Int64)) + ((S.1 b6 (1 : Int32).toNatClampNeg).toInt64 * ((S.1 b6 v12.toNatClampNeg) + (S.1 b2 (2 : Int32).toNatClampNeg)).toInt64)).toInt32)) (fun S17 => m_b1 (S17.2.2 a0 3) (fun b19 => m_gd (m_ok Z b19 11) (m_gd (m_in (2 : Int32) (Z.2.2 b19)) (m_lt (m_pI S17 b19 (2 : Int32).toNatClampNeg (0 : Int32)) (fun S23 => m_b1 (f_X9_roomNow Z S23 a0) (fun v26 => m_lt (m_pI S23 a0 25 v26) (fun S27 => m_jp (fun (v29 : Int32) (S30 : m_S) => m_b1 (S30.2.2 a0 3) (fun b31 => m_gd (m_ok Z b31 11) (m_gd (m_in (0 : Int32) (Z.2.2 b31)) (m_gd (m_in (0 : Int32) (Z.2.2 b31)) (m_lt (m_pI S30 b31 (0 : Int32).toNatClampNeg ((S30.1 b31 (0 : Int32).toNatClampNeg) + (1 : Int32))) (fun S36 => some (v29, S36))))))) (fun j38 => m_fx (F_X9_hour_80 Z a0 p2 j38) 100000 ((0 : Int32), p1, S27))))))))))))))))))))))
abbrev rm_X9_hour : Room := { frames := 4, cells := 0, slots := 0, locals := 98 }
theorem hd_X9_hour : yX9_hour.cls = RX9 ∧ yX9_hour.cls ≠ "java/lang/invoke/MethodHandle" ∧ yX9_hour.cls ≠ "java/lang/invoke/VarHandle" ∧ (parseMethodDescriptor yX9_hour.desc).map (fun d => d.parameters.length) = some 2 := by decide +kernel
set_option maxHeartbeats 4000000 in
set_option maxRecDepth 100000 in
theorem c_X9_hour {l : Launch} (hl : l.stackTraces = false) {Z : m_Z} {S : m_S} {a0 : Nat} {p1 : Int32} {p2 : Int32} {rZ9 : Int32} {SZ9 : m_S} (hf : f_X9_hour Z S a0 p1 p2 = some (rZ9, SZ9)) : m_Ct l yX9_hour (.code yX9_hour cX9_hour 5 (some .int) :: m_ws) rm_X9_hour (fun f => [.ref a0, .int p1, .int p2]) Z S (some (.int rZ9)) SZ9 := by
  unfold f_X9_hour at hf
  refine m_ent hl (by decide) (fun _ => Nat.le_of_ble_eq_true rfl) (fun x C F => ?_)
  have C : m_H x l RX9 cX9_hour 5 rm_X9_hour := C
  show m_G x Z S 5 0 0 0 [(0, .ref a0), (1, .int p1), (2, .int p2)] []
  refine r_aload_n (q := 1) C 0 dX9_hour_0 rfl rfl ?_
  obtain ⟨g1, hf⟩ := m_gd_of hf
  obtain ⟨b2, e3, hf⟩ := m_b1_of hf
  refine gf_X9_16 (q := 4) C dX9_hour_1 g1 e3 rfl ?_
  refine r_iconst (q := 5) (v := (1 : Int32)) C dX9_hour_4 (by decide) rfl ?_
  refine r_aload_n (q := 6) C 0 dX9_hour_5 rfl rfl ?_
  refine gf_X9_16 (q := 9) C dX9_hour_6 g1 e3 rfl ?_
  refine r_iconst (q := 10) (v := (1 : Int32)) C dX9_hour_9 (by decide) rfl ?_
  obtain ⟨g4, hf⟩ := m_gd_of hf
  obtain ⟨g5, hf⟩ := m_gd_of hf
  refine r_iald (q := 11) C dX9_hour_10 ⟨g4, g5⟩ rfl ?_
  refine r_i2l (q := 12) C dX9_hour_11 rfl ?_
  refine r_aload_n (q := 13) C 0 dX9_hour_12 rfl rfl ?_
  obtain ⟨b6, e7, hf⟩ := m_b1_of hf
  refine gf_X9_7 (q := 16) C dX9_hour_13 g1 e7 rfl ?_
  refine r_iconst (q := 17) (v := (0 : Int32)) C dX9_hour_16 (by decide) rfl ?_
  obtain ⟨g8, hf⟩ := m_gd_of hf
  obtain ⟨g9, hf⟩ := m_gd_of hf
  refine r_iald (q := 18) C dX9_hour_17 ⟨g8, g9⟩ rfl ?_
  refine r_i2l (q := 19) C dX9_hour_18 rfl ?_
  refine r_lmul (q := 20) C dX9_hour_19 rfl ?_
  refine r_ldc2 (q := 23) C dX9_hour_20 w_1152 rfl ?_
  refine r_ldiv (q := 24) C dX9_hour_23 (by decide) rfl ?_
  refine r_aload_n (q := 25) C 0 dX9_hour_24 rfl rfl ?_
  refine gf_X9_7 (q := 28) C dX9_hour_25 g1 e7 rfl ?_
  refine r_iconst (q := 29) (v := (1 : Int32)) C dX9_hour_28 (by decide) rfl ?_
  obtain ⟨g10, hf⟩ := m_gd_of hf
  refine r_iald (q := 30) C dX9_hour_29 ⟨g8, g10⟩ rfl ?_
  refine r_i2l (q := 31) C dX9_hour_30 rfl ?_
  refine r_aload_n (q := 32) C 0 dX9_hour_31 rfl rfl ?_
  refine gf_X9_7 (q := 35) C dX9_hour_32 g1 e7 rfl ?_
  refine r_bipush (q := 37) (v := (30 : Int32)) C dX9_hour_35 (by decide) rfl ?_
  refine r_aload_n (q := 38) C 0 dX9_hour_37 rfl rfl ?_
  refine gf_X9_16 (q := 41) C dX9_hour_38 g1 e3 rfl ?_
  refine r_iconst (q := 42) (v := (0 : Int32)) C dX9_hour_41 (by decide) rfl ?_
  obtain ⟨g11, hf⟩ := m_gd_of hf
  refine r_iald (q := 43) C dX9_hour_42 ⟨g4, g11⟩ rfl ?_
  refine r_bipush (q := 45) (v := (24 : Int32)) C dX9_hour_43 (by decide) rfl ?_
  refine r_irem (q := 46) C dX9_hour_45 (by decide) rfl ?_
  refine r_iadd (q := 47) C dX9_hour_46 rfl ?_
  obtain ⟨v12, e13, hf⟩ := m_lt_of hf
  refine r_nm e13 ?_
  obtain ⟨g14, hf⟩ := m_gd_of hf
  refine r_iald (q := 48) C dX9_hour_47 ⟨g8, g14⟩ rfl ?_
  refine r_aload_n (q := 49) C 0 dX9_hour_48 rfl rfl ?_
  refine gf_X9_16 (q := 52) C dX9_hour_49 g1 e3 rfl ?_
  refine r_iconst (q := 53) (v := (2 : Int32)) C dX9_hour_52 (by decide) rfl ?_
  obtain ⟨g15, hf⟩ := m_gd_of hf
  refine r_iald (q := 54) C dX9_hour_53 ⟨g4, g15⟩ rfl ?_
  refine r_iadd (q := 55) C dX9_hour_54 rfl ?_
  refine r_i2l (q := 56) C dX9_hour_55 rfl ?_
  refine r_lmul (q := 57) C dX9_hour_56 rfl ?_
  refine r_ladd (q := 58) C dX9_hour_57 rfl ?_
  refine r_l2i (q := 59) C dX9_hour_58 rfl ?_
  obtain ⟨g16, hf⟩ := m_gd_of hf
  obtain ⟨S17, e18, hf⟩ := m_lt_of hf
  refine r_iast (q := 60) C dX9_hour_59 ⟨g4, g16⟩ rfl ?_
  rw [← e18]
  refine r_aload_n (q := 61) C 0 dX9_hour_60 rfl rfl ?_
  obtain ⟨b19, e20, hf⟩ := m_b1_of hf
  refine gf_X9_16 (q := 64) C dX9_hour_61 g1 e20 rfl ?_
  refine r_iconst (q := 65) (v := (2 : Int32)) C dX9_hour_64 (by decide) rfl ?_
  refine r_iconst (q := 66) (v := (0 : Int32)) C dX9_hour_65 (by decide) rfl ?_
  obtain ⟨g21, hf⟩ := m_gd_of hf
  obtain ⟨g22, hf⟩ := m_gd_of hf
  obtain ⟨S23, e24, hf⟩ := m_lt_of hf
  refine r_iast (q := 67) C dX9_hour_66 ⟨g21, g22⟩ rfl ?_
  rw [← e24]
  refine r_aload_n (q := 68) C 0 dX9_hour_67 rfl rfl ?_
  refine r_aload_n (q := 69) C 0 dX9_hour_68 rfl rfl ?_
  obtain ⟨v26, h25, hf⟩ := m_b1_of hf
  refine r_callV (mc := 0) (ms := 0) (q := 72) (st1 := [.int v26, .ref a0]) C (c_X9_roomNow hl h25) rfl w_1117 w_1118 w_1353 w_11 w_1119 hd_X9_roomNow rfl (by decide) g1 rfl rfl rfl ⟨(Nat.le_of_ble_eq_true rfl), (Nat.le_of_ble_eq_true rfl)⟩ (Nat.le_of_ble_eq_true rfl) ⟨(Nat.le_of_ble_eq_true rfl), (Nat.le_of_ble_eq_true rfl)⟩ dX9_hour_69 rfl rfl ?_
  obtain ⟨S27, e28, hf⟩ := m_lt_of hf
  refine pf_X9_283 (q := 75) C dX9_hour_72 g1 e28 rfl ?_
  refine r_iconst (q := 76) (v := (0 : Int32)) C dX9_hour_75 (by decide) rfl ?_
  refine r_istore_n (q := 77) (L' := [(3, .int (0 : Int32)), (0, .ref a0), (1, .int p1), (2, .int p2)]) C dX9_hour_76 rfl rfl (by decide) rfl ?_
  refine r_iload_n (q := 78) C 2 dX9_hour_77 rfl rfl ?_
  refine r_istore (q := 80) (L' := [(4, .int p1), (3, .int (0 : Int32)), (0, .ref a0), (1, .int p1), (2, .int p2)]) C dX9_hour_78 rfl (by decide) rfl ?_
  obtain ⟨j38, ej38, hf⟩ := m_jp_of hf
  have J38 : ∀ (v29 : Int32) (S30 : m_S), j38 v29 S30 = some (rZ9, SZ9) → m_G x Z S30 5 0 0 119 [(0, .ref a0), (3, .int v29)] [] := by
    intro v29 S30 hf
    rw [ej38] at hf
    refine r_aload_n (q := 120) C 0 dX9_hour_119 rfl rfl ?_
    obtain ⟨b31, e32, hf⟩ := m_b1_of hf
    refine gf_X9_16 (q := 123) C dX9_hour_120 g1 e32 rfl ?_
    refine r_iconst (q := 124) (v := (0 : Int32)) C dX9_hour_123 (by decide) rfl ?_
    refine r_dup2 (q := 125) C dX9_hour_124 rfl rfl rfl ?_
    obtain ⟨g33, hf⟩ := m_gd_of hf
    obtain ⟨g34, hf⟩ := m_gd_of hf
    refine r_iald (q := 126) C dX9_hour_125 ⟨g33, g34⟩ rfl ?_
    refine r_iconst (q := 127) (v := (1 : Int32)) C dX9_hour_126 (by decide) rfl ?_
    refine r_iadd (q := 128) C dX9_hour_127 rfl ?_
    obtain ⟨g35, hf⟩ := m_gd_of hf
    obtain ⟨S36, e37, hf⟩ := m_lt_of hf
    refine r_iast (q := 129) C dX9_hour_128 ⟨g33, g35⟩ rfl ?_
    rw [← e37]
    refine r_iload_n (q := 130) C 1 dX9_hour_129 rfl rfl ?_
    obtain ⟨rfl, rfl⟩ := m_so2 hf
    exact r_iret C F dX9_hour_130
  have LL45 : ∀ (fu44 : Nat) (v39 : Int32) (v40 : Int32) (S41 : m_S), m_fx (F_X9_hour_80 Z a0 p2 j38) fu44 (v39, v40, S41) = some (rZ9, SZ9) → m_G x Z S41 5 0 0 80 [(0, .ref a0), (2, .int p2), (3, .int v39), (4, .int v40)] [] := by
    intro fu44
    induction fu44 with
    | zero => intros; rename_i hf; cases hf
    | succ fu44 ih43 =>
      intro v39 v40 S41 hf
      replace hf : F_X9_hour_80 Z a0 p2 j38 (m_fx (F_X9_hour_80 Z a0 p2 j38) fu44) (v39, v40, S41) = some (rZ9, SZ9) := hf
      unfold F_X9_hour_80 at hf
      dsimp only at hf
      refine r_iload (q := 82) C 3 dX9_hour_80 rfl rfl ?_
      refine r_iload_n (q := 83) C 1 dX9_hour_82 rfl rfl ?_
      refine r_icmp_gt (t := 119) (q := 86) C dX9_hour_83 (by decide) rfl (fun c46 => ?_) (fun c46 => ?_)
      · replace hf := m_if1 hf c46
        refine r_sub [0, 2] rfl ?_
        exact J38 v39 S41 hf
      · replace hf := m_if0 hf c46
        refine r_aload_n (q := 87) C 0 dX9_hour_86 rfl rfl ?_
        refine r_iload (q := 89) C 3 dX9_hour_87 rfl rfl ?_
        refine r_aload_n (q := 90) C 0 dX9_hour_89 rfl rfl ?_
        refine gf_X9_283 (q := 93) C dX9_hour_90 g1 rfl ?_
        obtain ⟨_u, S48, h47, hf⟩ := m_bw_of hf
        refine r_callV (mc := 0) (ms := 0) (q := 96) (st1 := []) C (c_X9_airs hl h47) rfl w_1247 w_1248 w_1369 w_11 w_1249 hd_X9_airs rfl (by decide) g1 rfl rfl rfl ⟨(Nat.le_of_ble_eq_true rfl), (Nat.le_of_ble_eq_true rfl)⟩ (Nat.le_of_ble_eq_true rfl) ⟨(Nat.le_of_ble_eq_true rfl), (Nat.le_of_ble_eq_true rfl)⟩ dX9_hour_93 rfl rfl ?_
        refine r_iload_n (q := 97) C 2 dX9_hour_96 rfl rfl ?_
        refine r_aload_n (q := 98) C 0 dX9_hour_97 rfl rfl ?_
        refine r_iload (q := 100) C 3 dX9_hour_98 rfl rfl ?_
        obtain ⟨v51, S50, h49, hf⟩ := m_bw_of hf
        refine r_callV (mc := 0) (ms := 0) (q := 103) (st1 := [.int v51, .int v39]) C (c_X9_records hl h49) rfl w_1251 w_1252 w_1370 w_11 w_1253 hd_X9_records rfl (by decide) g1 rfl rfl rfl ⟨(Nat.le_of_ble_eq_true rfl), (Nat.le_of_ble_eq_true rfl)⟩ (Nat.le_of_ble_eq_true rfl) ⟨(Nat.le_of_ble_eq_true rfl), (Nat.le_of_ble_eq_true rfl)⟩ dX9_hour_100 rfl rfl ?_
        refine r_if_eq (t := 110) (q := 106) C dX9_hour_103 (by decide) rfl (fun c52 => ?_) (fun c52 => ?_)
        · replace hf := m_if1 hf c52
          refine r_iconst (q := 111) (v := (0 : Int32)) C dX9_hour_110 (by decide) rfl ?_
          refine r_iadd (q := 112) C dX9_hour_111 rfl ?_
          obtain ⟨v53, e54, hf⟩ := m_lt_of hf
          refine r_nm e54 ?_
          refine r_istore_n (q := 113) (L' := [(3, .int v53), (0, .ref a0), (2, .int p2), (4, .int v40)]) C dX9_hour_112 rfl rfl (by decide) rfl ?_
          obtain ⟨v55, e56, hf⟩ := m_lt_of hf
          refine r_iinc (q := 116) (v := v55) (L' := [(4, .int v55), (3, .int v53), (0, .ref a0), (2, .int p2)]) C 3 dX9_hour_113 rfl (by rw [e56]; rfl) rfl (by decide) rfl ?_
          refine r_goto (t := 80) C dX9_hour_116 (by decide) ?_
          refine r_sub [2, 3, 1, 0] rfl ?_
          exact ih43 v53 v55 S50 hf
        · replace hf := m_if0 hf c52
          refine r_iconst (q := 107) (v := (1 : Int32)) C dX9_hour_106 (by decide) rfl ?_
          refine r_goto (t := 111) C dX9_hour_107 (by decide) ?_
          refine r_iadd (q := 112) C dX9_hour_111 rfl ?_
          obtain ⟨v57, e58, hf⟩ := m_lt_of hf
          refine r_nm e58 ?_
          refine r_istore_n (q := 113) (L' := [(3, .int v57), (0, .ref a0), (2, .int p2), (4, .int v40)]) C dX9_hour_112 rfl rfl (by decide) rfl ?_
          obtain ⟨v59, e60, hf⟩ := m_lt_of hf
          refine r_iinc (q := 116) (v := v59) (L' := [(4, .int v59), (3, .int v57), (0, .ref a0), (2, .int p2)]) C 3 dX9_hour_113 rfl (by rw [e60]; rfl) rfl (by decide) rfl ?_
          refine r_goto (t := 80) C dX9_hour_116 (by decide) ?_
          refine r_sub [2, 3, 1, 0] rfl ?_
          exact ih43 v57 v59 S50 hf
  refine r_sub [2, 4, 1, 0] rfl ?_
  exact LL45 100000 (0 : Int32) p1 S27 hf
def F_X9_hours_6 (Z : m_Z) (a0 : Nat) (p1 : Int32) (p2 : Int32) (p3 : Int32) (j3 : (Int32 → m_S → Option (Int32 × m_S))) (lp7 : (Int32 × Int32 × m_S) → Option (Int32 × m_S)) (p20 : (Int32 × Int32 × m_S)) : Option (Int32 × m_S) := match p20 with
  | (v4, v5, S6) => (if p1 ≤ v5 then j3 v4 S6 else m_gd (m_ok Z a0 9) (m_bw (f_X9_hour Z S6 a0 p2 p3) (fun v15 S14 => m_lt (v4 + v15) (fun v16 => m_lt (v5 + (1 : Int32)) (fun v18 => lp7 (v16, v18, S14))))))
def f_X9_hours (Z : m_Z) (S : m_S) (a0 : Nat) (p1 : Int32) (p2 : Int32) (p3 : Int32) : Option (Int32 × m_S) := m_jp (fun (v1 : Int32) (S2 : m_S) => some (v1, S2)) (fun j3 => m_fx (F_X9_hours_6 Z a0 p1 p2 p3 j3) 100000 ((0 : Int32), (0 : Int32), S))
abbrev rm_X9_hours : Room := { frames := 5, cells := 0, slots := 0, locals := 122 }
theorem hd_X9_hours : yX9_hours.cls = RX9 ∧ yX9_hours.cls ≠ "java/lang/invoke/MethodHandle" ∧ yX9_hours.cls ≠ "java/lang/invoke/VarHandle" ∧ (parseMethodDescriptor yX9_hours.desc).map (fun d => d.parameters.length) = some 3 := by decide +kernel
set_option maxHeartbeats 4000000 in
set_option maxRecDepth 100000 in
theorem c_X9_hours {l : Launch} (hl : l.stackTraces = false) {Z : m_Z} {S : m_S} {a0 : Nat} {p1 : Int32} {p2 : Int32} {p3 : Int32} {rZ9 : Int32} {SZ9 : m_S} (hf : f_X9_hours Z S a0 p1 p2 p3 = some (rZ9, SZ9)) : m_Ct l yX9_hours (.code yX9_hours cX9_hours 6 (some .int) :: m_ws) rm_X9_hours (fun f => [.ref a0, .int p1, .int p2, .int p3]) Z S (some (.int rZ9)) SZ9 := by
  unfold f_X9_hours at hf
  refine m_ent hl (by decide) (fun _ => Nat.le_of_ble_eq_true rfl) (fun x C F => ?_)
  have C : m_H x l RX9 cX9_hours 6 rm_X9_hours := C
  show m_G x Z S 6 0 0 0 [(0, .ref a0), (1, .int p1), (2, .int p2), (3, .int p3)] []
  refine r_iconst (q := 1) (v := (0 : Int32)) C dX9_hours_0 (by decide) rfl ?_
  refine r_istore (q := 3) (L' := [(4, .int (0 : Int32)), (0, .ref a0), (1, .int p1), (2, .int p2), (3, .int p3)]) C dX9_hours_1 rfl (by decide) rfl ?_
  refine r_iconst (q := 4) (v := (0 : Int32)) C dX9_hours_3 (by decide) rfl ?_
  refine r_istore (q := 6) (L' := [(5, .int (0 : Int32)), (4, .int (0 : Int32)), (0, .ref a0), (1, .int p1), (2, .int p2), (3, .int p3)]) C dX9_hours_4 rfl (by decide) rfl ?_
  obtain ⟨j3, ej3, hf⟩ := m_jp_of hf
  have J3 : ∀ (v1 : Int32) (S2 : m_S), j3 v1 S2 = some (rZ9, SZ9) → m_G x Z S2 6 0 0 29 [(4, .int v1)] [] := by
    intro v1 S2 hf
    rw [ej3] at hf
    refine r_iload (q := 31) C 0 dX9_hours_29 rfl rfl ?_
    obtain ⟨rfl, rfl⟩ := m_so2 hf
    exact r_iret C F dX9_hours_31
  have LL10 : ∀ (fu9 : Nat) (v4 : Int32) (v5 : Int32) (S6 : m_S), m_fx (F_X9_hours_6 Z a0 p1 p2 p3 j3) fu9 (v4, v5, S6) = some (rZ9, SZ9) → m_G x Z S6 6 0 0 6 [(0, .ref a0), (1, .int p1), (2, .int p2), (3, .int p3), (4, .int v4), (5, .int v5)] [] := by
    intro fu9
    induction fu9 with
    | zero => intros; rename_i hf; cases hf
    | succ fu9 ih8 =>
      intro v4 v5 S6 hf
      replace hf : F_X9_hours_6 Z a0 p1 p2 p3 j3 (m_fx (F_X9_hours_6 Z a0 p1 p2 p3 j3) fu9) (v4, v5, S6) = some (rZ9, SZ9) := hf
      unfold F_X9_hours_6 at hf
      dsimp only at hf
      refine r_iload (q := 8) C 5 dX9_hours_6 rfl rfl ?_
      refine r_iload_n (q := 9) C 1 dX9_hours_8 rfl rfl ?_
      refine r_icmp_ge (t := 29) (q := 12) C dX9_hours_9 (by decide) rfl (fun c11 => ?_) (fun c11 => ?_)
      · replace hf := m_if1 hf c11
        refine r_sub [4] rfl ?_
        exact J3 v4 S6 hf
      · replace hf := m_if0 hf c11
        refine r_iload (q := 14) C 4 dX9_hours_12 rfl rfl ?_
        refine r_aload_n (q := 15) C 0 dX9_hours_14 rfl rfl ?_
        refine r_iload_n (q := 16) C 2 dX9_hours_15 rfl rfl ?_
        refine r_iload_n (q := 17) C 3 dX9_hours_16 rfl rfl ?_
        obtain ⟨g12, hf⟩ := m_gd_of hf
        obtain ⟨v15, S14, h13, hf⟩ := m_bw_of hf
        refine r_callV (mc := 0) (ms := 0) (q := 20) (st1 := [.int v15, .int v4]) C (c_X9_hour hl h13) rfl w_1244 w_1245 w_1368 w_11 w_1246 hd_X9_hour rfl (by decide) g12 rfl rfl rfl ⟨(Nat.le_of_ble_eq_true rfl), (Nat.le_of_ble_eq_true rfl)⟩ (Nat.le_of_ble_eq_true rfl) ⟨(Nat.le_of_ble_eq_true rfl), (Nat.le_of_ble_eq_true rfl)⟩ dX9_hours_17 rfl rfl ?_
        refine r_iadd (q := 21) C dX9_hours_20 rfl ?_
        obtain ⟨v16, e17, hf⟩ := m_lt_of hf
        refine r_nm e17 ?_
        refine r_istore (q := 23) (L' := [(4, .int v16), (0, .ref a0), (1, .int p1), (2, .int p2), (3, .int p3), (5, .int v5)]) C dX9_hours_21 rfl (by decide) rfl ?_
        obtain ⟨v18, e19, hf⟩ := m_lt_of hf
        refine r_iinc (q := 26) (v := v18) (L' := [(5, .int v18), (4, .int v16), (0, .ref a0), (1, .int p1), (2, .int p2), (3, .int p3)]) C 5 dX9_hours_23 rfl (by rw [e19]; rfl) rfl (by decide) rfl ?_
        refine r_goto (t := 6) C dX9_hours_26 (by decide) ?_
        refine r_sub [2, 3, 4, 5, 1, 0] rfl ?_
        exact ih8 v16 v18 S14 hf
  refine r_sub [2, 3, 4, 5, 1, 0] rfl ?_
  exact LL10 100000 (0 : Int32) (0 : Int32) S hf
def f_X9_advance (Z : m_Z) (S : m_S) (a0 : Nat) (p1 : Int32) : Option (Int32 × m_S) := m_gd (m_ok Z a0 9) (m_lt (m_pI S a0 0 (0 : Int32)) (fun S2 => m_b1 (f_X9_isIn Z S2 p1 (1 : Int32) (2000 : Int32)) (fun v5 => m_bw (f_X9_may Z S2 a0 v5 (1 : Int32)) (fun v8 S7 => (if v8 = 0 then some ((0 : Int32), S7) else m_b1 (S7.2.2 a0 3) (fun b10 => m_gd (m_ok Z b10 11) (m_gd (m_in (0 : Int32) (Z.2.2 b10)) (m_jp (fun (v15 : Int32) => m_bw (f_X9_may Z S7 a0 v15 (2 : Int32)) (fun v18 S17 => (if v18 = 0 then some ((0 : Int32), S17) else m_b1 (S17.2.2 a0 1) (fun b20 => m_gd (m_ok Z b20 11) (m_gd (m_in (5 : Int32) (Z.2.2 b20)) (m_bw (f_X9_hours Z S17 a0 p1 (0 : Int32) ((S17.1 b20 (5 : Int32).toNatClampNeg) - (1 : Int32))) (fun v26 S25 => some (v26, S25)))))))) (fun j14 => (if (99999 : Int32) < ((S7.1 b10 (0 : Int32).toNatClampNeg) + p1) then j14 (0 : Int32) else j14 (1 : Int32)))))))))))
abbrev rm_X9_advance : Room := { frames := 6, cells := 0, slots := 0, locals := 147 }
theorem hd_X9_advance : yX9_advance.cls = RX9 ∧ yX9_advance.cls ≠ "java/lang/invoke/MethodHandle" ∧ yX9_advance.cls ≠ "java/lang/invoke/VarHandle" ∧ (parseMethodDescriptor yX9_advance.desc).map (fun d => d.parameters.length) = some 1 := by decide +kernel
set_option maxHeartbeats 4000000 in
set_option maxRecDepth 100000 in
theorem c_X9_advance {l : Launch} (hl : l.stackTraces = false) {Z : m_Z} {S : m_S} {a0 : Nat} {p1 : Int32} {rZ9 : Int32} {SZ9 : m_S} (hf : f_X9_advance Z S a0 p1 = some (rZ9, SZ9)) : m_Ct l yX9_advance (.code yX9_advance cX9_advance 2 (some .int) :: m_ws) rm_X9_advance (fun f => [.ref a0, .int p1]) Z S (some (.int rZ9)) SZ9 := by
  unfold f_X9_advance at hf
  refine m_ent hl (by decide) (fun _ => Nat.le_of_ble_eq_true rfl) (fun x C F => ?_)
  have C : m_H x l RX9 cX9_advance 2 rm_X9_advance := C
  show m_G x Z S 2 0 0 0 [(0, .ref a0), (1, .int p1)] []
  refine r_aload_n (q := 1) C 0 dX9_advance_0 rfl rfl ?_
  refine r_iconst (q := 2) (v := (0 : Int32)) C dX9_advance_1 (by decide) rfl ?_
  obtain ⟨g1, hf⟩ := m_gd_of hf
  obtain ⟨S2, e3, hf⟩ := m_lt_of hf
  refine pf_X9_61 (q := 5) C dX9_advance_2 g1 e3 rfl ?_
  refine r_aload_n (q := 6) C 0 dX9_advance_5 rfl rfl ?_
  refine r_iload_n (q := 7) C 1 dX9_advance_6 rfl rfl ?_
  refine r_iconst (q := 8) (v := (1 : Int32)) C dX9_advance_7 (by decide) rfl ?_
  refine r_sipush (q := 11) (v := (2000 : Int32)) C dX9_advance_8 (by decide) rfl ?_
  obtain ⟨v5, h4, hf⟩ := m_b1_of hf
  refine r_callS (mc := 0) (ms := 0) (q := 14) (st1 := [.int v5, .ref a0]) C (c_X9_isIn hl h4) rfl w_1031 w_1032 w_11 w_1033 hd_X9_isIn rfl rfl rfl ⟨(Nat.le_of_ble_eq_true rfl), (Nat.le_of_ble_eq_true rfl)⟩ (Nat.le_of_ble_eq_true rfl) ⟨(Nat.le_of_ble_eq_true rfl), (Nat.le_of_ble_eq_true rfl)⟩ dX9_advance_11 rfl rfl ?_
  refine r_iconst (q := 15) (v := (1 : Int32)) C dX9_advance_14 (by decide) rfl ?_
  obtain ⟨v8, S7, h6, hf⟩ := m_bw_of hf
  refine r_callV (mc := 0) (ms := 0) (q := 18) (st1 := [.int v8]) C (c_X9_may hl h6) rfl w_1024 w_1025 w_1333 w_11 w_1026 hd_X9_may rfl (by decide) g1 rfl rfl rfl ⟨(Nat.le_of_ble_eq_true rfl), (Nat.le_of_ble_eq_true rfl)⟩ (Nat.le_of_ble_eq_true rfl) ⟨(Nat.le_of_ble_eq_true rfl), (Nat.le_of_ble_eq_true rfl)⟩ dX9_advance_15 rfl rfl ?_
  refine r_if_eq (t := 65) (q := 21) C dX9_advance_18 (by decide) rfl (fun c9 => ?_) (fun c9 => ?_)
  · replace hf := m_if1 hf c9
    refine r_iconst (q := 66) (v := (0 : Int32)) C dX9_advance_65 (by decide) rfl ?_
    obtain ⟨rfl, rfl⟩ := m_so2 hf
    exact r_iret C F dX9_advance_66
  · replace hf := m_if0 hf c9
    refine r_aload_n (q := 22) C 0 dX9_advance_21 rfl rfl ?_
    refine r_aload_n (q := 23) C 0 dX9_advance_22 rfl rfl ?_
    obtain ⟨b10, e11, hf⟩ := m_b1_of hf
    refine gf_X9_16 (q := 26) C dX9_advance_23 g1 e11 rfl ?_
    refine r_iconst (q := 27) (v := (0 : Int32)) C dX9_advance_26 (by decide) rfl ?_
    obtain ⟨g12, hf⟩ := m_gd_of hf
    obtain ⟨g13, hf⟩ := m_gd_of hf
    refine r_iald (q := 28) C dX9_advance_27 ⟨g12, g13⟩ rfl ?_
    refine r_iload_n (q := 29) C 1 dX9_advance_28 rfl rfl ?_
    refine r_iadd (q := 30) C dX9_advance_29 rfl ?_
    refine r_ldc_w (q := 33) C dX9_advance_30 w_1240 rfl ?_
    obtain ⟨j14, ej14, hf⟩ := m_jp_of hf
    have J14 : ∀ (v15 : Int32), j14 v15 = some (rZ9, SZ9) → m_G x Z S7 2 0 0 41 [(0, .ref a0), (1, .int p1)] [.int v15, .ref a0] := by
      intro v15 hf
      rw [ej14] at hf
      refine r_iconst (q := 42) (v := (2 : Int32)) C dX9_advance_41 (by decide) rfl ?_
      obtain ⟨v18, S17, h16, hf⟩ := m_bw_of hf
      refine r_callV (mc := 0) (ms := 0) (q := 45) (st1 := [.int v18]) C (c_X9_may hl h16) rfl w_1024 w_1025 w_1333 w_11 w_1026 hd_X9_may rfl (by decide) g1 rfl rfl rfl ⟨(Nat.le_of_ble_eq_true rfl), (Nat.le_of_ble_eq_true rfl)⟩ (Nat.le_of_ble_eq_true rfl) ⟨(Nat.le_of_ble_eq_true rfl), (Nat.le_of_ble_eq_true rfl)⟩ dX9_advance_42 rfl rfl ?_
      refine r_if_eq (t := 65) (q := 48) C dX9_advance_45 (by decide) rfl (fun c19 => ?_) (fun c19 => ?_)
      · replace hf := m_if1 hf c19
        refine r_iconst (q := 66) (v := (0 : Int32)) C dX9_advance_65 (by decide) rfl ?_
        obtain ⟨rfl, rfl⟩ := m_so2 hf
        exact r_iret C F dX9_advance_66
      · replace hf := m_if0 hf c19
        refine r_aload_n (q := 49) C 0 dX9_advance_48 rfl rfl ?_
        refine r_iload_n (q := 50) C 1 dX9_advance_49 rfl rfl ?_
        refine r_iconst (q := 51) (v := (0 : Int32)) C dX9_advance_50 (by decide) rfl ?_
        refine r_aload_n (q := 52) C 0 dX9_advance_51 rfl rfl ?_
        obtain ⟨b20, e21, hf⟩ := m_b1_of hf
        refine gf_X9_7 (q := 55) C dX9_advance_52 g1 e21 rfl ?_
        refine r_iconst (q := 56) (v := (5 : Int32)) C dX9_advance_55 (by decide) rfl ?_
        obtain ⟨g22, hf⟩ := m_gd_of hf
        obtain ⟨g23, hf⟩ := m_gd_of hf
        refine r_iald (q := 57) C dX9_advance_56 ⟨g22, g23⟩ rfl ?_
        refine r_iconst (q := 58) (v := (1 : Int32)) C dX9_advance_57 (by decide) rfl ?_
        refine r_isub (q := 59) C dX9_advance_58 rfl ?_
        obtain ⟨v26, S25, h24, hf⟩ := m_bw_of hf
        refine r_callV (mc := 0) (ms := 0) (q := 62) (st1 := [.int v26]) C (c_X9_hours hl h24) rfl w_1241 w_1242 w_1367 w_11 w_1243 hd_X9_hours rfl (by decide) g1 rfl rfl rfl ⟨(Nat.le_of_ble_eq_true rfl), (Nat.le_of_ble_eq_true rfl)⟩ (Nat.le_of_ble_eq_true rfl) ⟨(Nat.le_of_ble_eq_true rfl), (Nat.le_of_ble_eq_true rfl)⟩ dX9_advance_59 rfl rfl ?_
        refine r_goto (t := 66) C dX9_advance_62 (by decide) ?_
        obtain ⟨rfl, rfl⟩ := m_so2 hf
        exact r_iret C F dX9_advance_66
    refine r_icmp_gt (t := 40) (q := 36) C dX9_advance_33 (by decide) rfl (fun c27 => ?_) (fun c27 => ?_)
    · replace hf := m_if1 hf c27
      refine r_iconst (q := 41) (v := (0 : Int32)) C dX9_advance_40 (by decide) rfl ?_
      exact J14 (0 : Int32) hf
    · replace hf := m_if0 hf c27
      refine r_iconst (q := 37) (v := (1 : Int32)) C dX9_advance_36 (by decide) rfl ?_
      refine r_goto (t := 41) C dX9_advance_37 (by decide) ?_
      exact J14 (1 : Int32) hf
def f_X9_announce (Z : m_Z) (S : m_S) (a0 : Nat) (p1 : Int32) : Option (Int32 × m_S) := m_gd (m_ok Z a0 9) (m_lt (m_pI S a0 0 (0 : Int32)) (fun S2 => m_b1 (f_X9_isIn Z S2 p1 (1 : Int32) (999 : Int32)) (fun v5 => m_bw (f_X9_may Z S2 a0 v5 (1 : Int32)) (fun v8 S7 => (if v8 = 0 then some ((0 : Int32), S7) else m_b1 (S7.2.2 a0 3) (fun b10 => m_gd (m_ok Z b10 11) (m_gd (m_in (2 : Int32) (Z.2.2 b10)) (m_jp (fun (v15 : Int32) => m_bw (f_X9_may Z S7 a0 v15 (2 : Int32)) (fun v18 S17 => (if ¬ v18 = 0 then m_b1 (S17.2.2 a0 3) (fun b20 => m_gd (m_ok Z b20 11) (m_gd (m_in (2 : Int32) (Z.2.2 b20)) (m_gd (m_in (2 : Int32) (Z.2.2 b20)) (m_lt (m_pI S17 b20 (2 : Int32).toNatClampNeg ((S17.1 b20 (2 : Int32).toNatClampNeg) + p1)) (fun S25 => m_b1 (S25.2.2 a0 3) (fun b27 => m_gd (m_ok Z b27 11) (m_gd (m_in (2 : Int32) (Z.2.2 b27)) (some ((S25.1 b27 (2 : Int32).toNatClampNeg), S25))))))))) else some ((0 : Int32), S17)))) (fun j14 => (if (5000 : Int32) < ((S7.1 b10 (2 : Int32).toNatClampNeg) + p1) then j14 (0 : Int32) else j14 (1 : Int32)))))))))))
abbrev rm_X9_announce : Room := { frames := 1, cells := 0, slots := 0, locals := 22 }
theorem hd_X9_announce : yX9_announce.cls = RX9 ∧ yX9_announce.cls ≠ "java/lang/invoke/MethodHandle" ∧ yX9_announce.cls ≠ "java/lang/invoke/VarHandle" ∧ (parseMethodDescriptor yX9_announce.desc).map (fun d => d.parameters.length) = some 1 := by decide +kernel
set_option maxHeartbeats 4000000 in
set_option maxRecDepth 100000 in
theorem c_X9_announce {l : Launch} (hl : l.stackTraces = false) {Z : m_Z} {S : m_S} {a0 : Nat} {p1 : Int32} {rZ9 : Int32} {SZ9 : m_S} (hf : f_X9_announce Z S a0 p1 = some (rZ9, SZ9)) : m_Ct l yX9_announce (.code yX9_announce cX9_announce 2 (some .int) :: m_ws) rm_X9_announce (fun f => [.ref a0, .int p1]) Z S (some (.int rZ9)) SZ9 := by
  unfold f_X9_announce at hf
  refine m_ent hl (by decide) (fun _ => Nat.le_of_ble_eq_true rfl) (fun x C F => ?_)
  have C : m_H x l RX9 cX9_announce 2 rm_X9_announce := C
  show m_G x Z S 2 0 0 0 [(0, .ref a0), (1, .int p1)] []
  refine r_aload_n (q := 1) C 0 dX9_announce_0 rfl rfl ?_
  refine r_iconst (q := 2) (v := (0 : Int32)) C dX9_announce_1 (by decide) rfl ?_
  obtain ⟨g1, hf⟩ := m_gd_of hf
  obtain ⟨S2, e3, hf⟩ := m_lt_of hf
  refine pf_X9_61 (q := 5) C dX9_announce_2 g1 e3 rfl ?_
  refine r_aload_n (q := 6) C 0 dX9_announce_5 rfl rfl ?_
  refine r_iload_n (q := 7) C 1 dX9_announce_6 rfl rfl ?_
  refine r_iconst (q := 8) (v := (1 : Int32)) C dX9_announce_7 (by decide) rfl ?_
  refine r_sipush (q := 11) (v := (999 : Int32)) C dX9_announce_8 (by decide) rfl ?_
  obtain ⟨v5, h4, hf⟩ := m_b1_of hf
  refine r_callS (mc := 0) (ms := 0) (q := 14) (st1 := [.int v5, .ref a0]) C (c_X9_isIn hl h4) rfl w_1031 w_1032 w_11 w_1033 hd_X9_isIn rfl rfl rfl ⟨(Nat.le_of_ble_eq_true rfl), (Nat.le_of_ble_eq_true rfl)⟩ (Nat.le_of_ble_eq_true rfl) ⟨(Nat.le_of_ble_eq_true rfl), (Nat.le_of_ble_eq_true rfl)⟩ dX9_announce_11 rfl rfl ?_
  refine r_iconst (q := 15) (v := (1 : Int32)) C dX9_announce_14 (by decide) rfl ?_
  obtain ⟨v8, S7, h6, hf⟩ := m_bw_of hf
  refine r_callV (mc := 0) (ms := 0) (q := 18) (st1 := [.int v8]) C (c_X9_may hl h6) rfl w_1024 w_1025 w_1333 w_11 w_1026 hd_X9_may rfl (by decide) g1 rfl rfl rfl ⟨(Nat.le_of_ble_eq_true rfl), (Nat.le_of_ble_eq_true rfl)⟩ (Nat.le_of_ble_eq_true rfl) ⟨(Nat.le_of_ble_eq_true rfl), (Nat.le_of_ble_eq_true rfl)⟩ dX9_announce_15 rfl rfl ?_
  refine r_if_eq (t := 48) (q := 21) C dX9_announce_18 (by decide) rfl (fun c9 => ?_) (fun c9 => ?_)
  · replace hf := m_if1 hf c9
    refine r_iconst (q := 49) (v := (0 : Int32)) C dX9_announce_48 (by decide) rfl ?_
    obtain ⟨rfl, rfl⟩ := m_so2 hf
    exact r_iret C F dX9_announce_49
  · replace hf := m_if0 hf c9
    refine r_aload_n (q := 22) C 0 dX9_announce_21 rfl rfl ?_
    refine r_aload_n (q := 23) C 0 dX9_announce_22 rfl rfl ?_
    obtain ⟨b10, e11, hf⟩ := m_b1_of hf
    refine gf_X9_16 (q := 26) C dX9_announce_23 g1 e11 rfl ?_
    refine r_iconst (q := 27) (v := (2 : Int32)) C dX9_announce_26 (by decide) rfl ?_
    obtain ⟨g12, hf⟩ := m_gd_of hf
    obtain ⟨g13, hf⟩ := m_gd_of hf
    refine r_iald (q := 28) C dX9_announce_27 ⟨g12, g13⟩ rfl ?_
    refine r_iload_n (q := 29) C 1 dX9_announce_28 rfl rfl ?_
    refine r_iadd (q := 30) C dX9_announce_29 rfl ?_
    refine r_sipush (q := 33) (v := (5000 : Int32)) C dX9_announce_30 (by decide) rfl ?_
    obtain ⟨j14, ej14, hf⟩ := m_jp_of hf
    have J14 : ∀ (v15 : Int32), j14 v15 = some (rZ9, SZ9) → m_G x Z S7 2 0 0 41 [(0, .ref a0), (1, .int p1)] [.int v15, .ref a0] := by
      intro v15 hf
      rw [ej14] at hf
      refine r_iconst (q := 42) (v := (2 : Int32)) C dX9_announce_41 (by decide) rfl ?_
      obtain ⟨v18, S17, h16, hf⟩ := m_bw_of hf
      refine r_callV (mc := 0) (ms := 0) (q := 45) (st1 := [.int v18]) C (c_X9_may hl h16) rfl w_1024 w_1025 w_1333 w_11 w_1026 hd_X9_may rfl (by decide) g1 rfl rfl rfl ⟨(Nat.le_of_ble_eq_true rfl), (Nat.le_of_ble_eq_true rfl)⟩ (Nat.le_of_ble_eq_true rfl) ⟨(Nat.le_of_ble_eq_true rfl), (Nat.le_of_ble_eq_true rfl)⟩ dX9_announce_42 rfl rfl ?_
      refine r_if_ne (t := 50) (q := 48) C dX9_announce_45 (by decide) rfl (fun c19 => ?_) (fun c19 => ?_)
      · replace hf := m_if1 hf c19
        refine r_aload_n (q := 51) C 0 dX9_announce_50 rfl rfl ?_
        obtain ⟨b20, e21, hf⟩ := m_b1_of hf
        refine gf_X9_16 (q := 54) C dX9_announce_51 g1 e21 rfl ?_
        refine r_iconst (q := 55) (v := (2 : Int32)) C dX9_announce_54 (by decide) rfl ?_
        refine r_dup2 (q := 56) C dX9_announce_55 rfl rfl rfl ?_
        obtain ⟨g22, hf⟩ := m_gd_of hf
        obtain ⟨g23, hf⟩ := m_gd_of hf
        refine r_iald (q := 57) C dX9_announce_56 ⟨g22, g23⟩ rfl ?_
        refine r_iload_n (q := 58) C 1 dX9_announce_57 rfl rfl ?_
        refine r_iadd (q := 59) C dX9_announce_58 rfl ?_
        obtain ⟨g24, hf⟩ := m_gd_of hf
        obtain ⟨S25, e26, hf⟩ := m_lt_of hf
        refine r_iast (q := 60) C dX9_announce_59 ⟨g22, g24⟩ rfl ?_
        rw [← e26]
        refine r_aload_n (q := 61) C 0 dX9_announce_60 rfl rfl ?_
        obtain ⟨b27, e28, hf⟩ := m_b1_of hf
        refine gf_X9_16 (q := 64) C dX9_announce_61 g1 e28 rfl ?_
        refine r_iconst (q := 65) (v := (2 : Int32)) C dX9_announce_64 (by decide) rfl ?_
        obtain ⟨g29, hf⟩ := m_gd_of hf
        obtain ⟨g30, hf⟩ := m_gd_of hf
        refine r_iald (q := 66) C dX9_announce_65 ⟨g29, g30⟩ rfl ?_
        obtain ⟨rfl, rfl⟩ := m_so2 hf
        exact r_iret C F dX9_announce_66
      · replace hf := m_if0 hf (fun z => z c19)
        refine r_iconst (q := 49) (v := (0 : Int32)) C dX9_announce_48 (by decide) rfl ?_
        obtain ⟨rfl, rfl⟩ := m_so2 hf
        exact r_iret C F dX9_announce_49
    refine r_icmp_gt (t := 40) (q := 36) C dX9_announce_33 (by decide) rfl (fun c31 => ?_) (fun c31 => ?_)
    · replace hf := m_if1 hf c31
      refine r_iconst (q := 41) (v := (0 : Int32)) C dX9_announce_40 (by decide) rfl ?_
      exact J14 (0 : Int32) hf
    · replace hf := m_if0 hf c31
      refine r_iconst (q := 37) (v := (1 : Int32)) C dX9_announce_36 (by decide) rfl ?_
      refine r_goto (t := 41) C dX9_announce_37 (by decide) ?_
      exact J14 (1 : Int32) hf
def F_X9_append_36 (Z : m_Z) (a0 : Nat) (p1 : Int32) (p2 : Int32) (p3 : Int32) (p4 : Int32) (p5 : Int32) (j13 : (m_S → Option (Int32 × m_S))) (lp16 : (Int32 × m_S) → Option (Int32 × m_S)) (p35 : (Int32 × m_S)) : Option (Int32 × m_S) := match p35 with
  | (v14, S15) => (if (20 : Int32) ≤ v14 then j13 S15 else m_jp (fun (v22 : Int32) => m_b1 (S15.2.2 a0 11) (fun b23 => m_gd (m_ok Z b23 11) (m_gd (m_in ((S15.1 a0 12) + v14) (Z.2.2 b23)) (m_lt (m_pI S15 b23 ((S15.1 a0 12) + v14).toNatClampNeg ((v22 >>> (((24 : Int32) - ((8 : Int32) * (v14 - v14 / (4 : Int32) * (4 : Int32)))) &&& 31)) &&& (255 : Int32))) (fun S27 => m_lt (v14 + (1 : Int32)) (fun v29 => lp16 (v29, S27))))))) (fun j21 => (if (4 : Int32) ≤ v14 then (if (8 : Int32) ≤ v14 then (if (12 : Int32) ≤ v14 then (if (16 : Int32) ≤ v14 then j21 p5 else j21 p4) else j21 p3) else j21 p2) else j21 p1)))
def f_X9_append (Z : m_Z) (S : m_S) (a0 : Nat) (p1 : Int32) (p2 : Int32) (p3 : Int32) (p4 : Int32) (p5 : Int32) : Option (Int32 × m_S) := m_gd (m_ok Z a0 9) (m_lt (m_pI S a0 0 (0 : Int32)) (fun S2 => m_jp (fun (v5 : Int32) => m_bw (f_X9_may Z S2 a0 v5 (1 : Int32)) (fun v8 S7 => (if ¬ v8 = 0 then m_jp (fun (S10 : m_S) => m_lt (m_pI S10 a0 12 ((S10.1 a0 12) + (20 : Int32))) (fun S11 => some ((S11.1 a0 12), S11))) (fun j13 => m_fx (F_X9_append_36 Z a0 p1 p2 p3 p4 p5 j13) 100000 ((0 : Int32), S7)) else some ((0 : Int32), S7)))) (fun j4 => (if (900 : Int32) < ((S2.1 a0 12) + (20 : Int32)) then j4 (0 : Int32) else j4 (1 : Int32)))))
abbrev rm_X9_append : Room := { frames := 1, cells := 0, slots := 0, locals := 22 }
theorem hd_X9_append : yX9_append.cls = RX9 ∧ yX9_append.cls ≠ "java/lang/invoke/MethodHandle" ∧ yX9_append.cls ≠ "java/lang/invoke/VarHandle" ∧ (parseMethodDescriptor yX9_append.desc).map (fun d => d.parameters.length) = some 5 := by decide +kernel
set_option maxHeartbeats 4000000 in
set_option maxRecDepth 100000 in
theorem c_X9_append {l : Launch} (hl : l.stackTraces = false) {Z : m_Z} {S : m_S} {a0 : Nat} {p1 : Int32} {p2 : Int32} {p3 : Int32} {p4 : Int32} {p5 : Int32} {rZ9 : Int32} {SZ9 : m_S} (hf : f_X9_append Z S a0 p1 p2 p3 p4 p5 = some (rZ9, SZ9)) : m_Ct l yX9_append (.code yX9_append cX9_append 8 (some .int) :: m_ws) rm_X9_append (fun f => [.ref a0, .int p1, .int p2, .int p3, .int p4, .int p5]) Z S (some (.int rZ9)) SZ9 := by
  unfold f_X9_append at hf
  refine m_ent hl (by decide) (fun _ => Nat.le_of_ble_eq_true rfl) (fun x C F => ?_)
  have C : m_H x l RX9 cX9_append 8 rm_X9_append := C
  show m_G x Z S 8 0 0 0 [(0, .ref a0), (1, .int p1), (2, .int p2), (3, .int p3), (4, .int p4), (5, .int p5)] []
  refine r_aload_n (q := 1) C 0 dX9_append_0 rfl rfl ?_
  refine r_iconst (q := 2) (v := (0 : Int32)) C dX9_append_1 (by decide) rfl ?_
  obtain ⟨g1, hf⟩ := m_gd_of hf
  obtain ⟨S2, e3, hf⟩ := m_lt_of hf
  refine pf_X9_61 (q := 5) C dX9_append_2 g1 e3 rfl ?_
  refine r_aload_n (q := 6) C 0 dX9_append_5 rfl rfl ?_
  refine r_aload_n (q := 7) C 0 dX9_append_6 rfl rfl ?_
  refine gf_X9_87 (q := 10) C dX9_append_7 g1 rfl ?_
  refine r_bipush (q := 12) (v := (20 : Int32)) C dX9_append_10 (by decide) rfl ?_
  refine r_iadd (q := 13) C dX9_append_12 rfl ?_
  refine r_sipush (q := 16) (v := (900 : Int32)) C dX9_append_13 (by decide) rfl ?_
  obtain ⟨j4, ej4, hf⟩ := m_jp_of hf
  have J4 : ∀ (v5 : Int32), j4 v5 = some (rZ9, SZ9) → m_G x Z S2 8 0 0 24 [(0, .ref a0), (1, .int p1), (2, .int p2), (3, .int p3), (4, .int p4), (5, .int p5)] [.int v5, .ref a0] := by
    intro v5 hf
    rw [ej4] at hf
    refine r_iconst (q := 25) (v := (1 : Int32)) C dX9_append_24 (by decide) rfl ?_
    obtain ⟨v8, S7, h6, hf⟩ := m_bw_of hf
    refine r_callV (mc := 0) (ms := 0) (q := 28) (st1 := [.int v8]) C (c_X9_may hl h6) rfl w_1024 w_1025 w_1333 w_11 w_1026 hd_X9_may rfl (by decide) g1 rfl rfl rfl ⟨(Nat.le_of_ble_eq_true rfl), (Nat.le_of_ble_eq_true rfl)⟩ (Nat.le_of_ble_eq_true rfl) ⟨(Nat.le_of_ble_eq_true rfl), (Nat.le_of_ble_eq_true rfl)⟩ dX9_append_25 rfl rfl ?_
    refine r_if_ne (t := 33) (q := 31) C dX9_append_28 (by decide) rfl (fun c9 => ?_) (fun c9 => ?_)
    · replace hf := m_if1 hf c9
      refine r_iconst (q := 34) (v := (0 : Int32)) C dX9_append_33 (by decide) rfl ?_
      refine r_istore (q := 36) (L' := [(6, .int (0 : Int32)), (0, .ref a0), (1, .int p1), (2, .int p2), (3, .int p3), (4, .int p4), (5, .int p5)]) C dX9_append_34 rfl (by decide) rfl ?_
      obtain ⟨j13, ej13, hf⟩ := m_jp_of hf
      have J13 : ∀ (S10 : m_S), j13 S10 = some (rZ9, SZ9) → m_G x Z S10 8 0 0 126 [(0, .ref a0)] [] := by
        intro S10 hf
        rw [ej13] at hf
        refine r_aload_n (q := 127) C 0 dX9_append_126 rfl rfl ?_
        refine r_dup (q := 128) C dX9_append_127 rfl rfl ?_
        refine gf_X9_87 (q := 131) C dX9_append_128 g1 rfl ?_
        refine r_bipush (q := 133) (v := (20 : Int32)) C dX9_append_131 (by decide) rfl ?_
        refine r_iadd (q := 134) C dX9_append_133 rfl ?_
        obtain ⟨S11, e12, hf⟩ := m_lt_of hf
        refine pf_X9_87 (q := 137) C dX9_append_134 g1 e12 rfl ?_
        refine r_aload_n (q := 138) C 0 dX9_append_137 rfl rfl ?_
        refine gf_X9_87 (q := 141) C dX9_append_138 g1 rfl ?_
        obtain ⟨rfl, rfl⟩ := m_so2 hf
        exact r_iret C F dX9_append_141
      have LL19 : ∀ (fu18 : Nat) (v14 : Int32) (S15 : m_S), m_fx (F_X9_append_36 Z a0 p1 p2 p3 p4 p5 j13) fu18 (v14, S15) = some (rZ9, SZ9) → m_G x Z S15 8 0 0 36 [(0, .ref a0), (1, .int p1), (2, .int p2), (3, .int p3), (4, .int p4), (5, .int p5), (6, .int v14)] [] := by
        intro fu18
        induction fu18 with
        | zero => intros; rename_i hf; cases hf
        | succ fu18 ih17 =>
          intro v14 S15 hf
          replace hf : F_X9_append_36 Z a0 p1 p2 p3 p4 p5 j13 (m_fx (F_X9_append_36 Z a0 p1 p2 p3 p4 p5 j13) fu18) (v14, S15) = some (rZ9, SZ9) := hf
          unfold F_X9_append_36 at hf
          dsimp only at hf
          refine r_iload (q := 38) C 6 dX9_append_36 rfl rfl ?_
          refine r_bipush (q := 40) (v := (20 : Int32)) C dX9_append_38 (by decide) rfl ?_
          refine r_icmp_ge (t := 126) (q := 43) C dX9_append_40 (by decide) rfl (fun c20 => ?_) (fun c20 => ?_)
          · replace hf := m_if1 hf c20
            refine r_sub [0] rfl ?_
            exact J13 S15 hf
          · replace hf := m_if0 hf c20
            refine r_iload (q := 45) C 6 dX9_append_43 rfl rfl ?_
            refine r_iconst (q := 46) (v := (4 : Int32)) C dX9_append_45 (by decide) rfl ?_
            obtain ⟨j21, ej21, hf⟩ := m_jp_of hf
            have J21 : ∀ (v22 : Int32), j21 v22 = some (rZ9, SZ9) → m_G x Z S15 8 0 0 89 [(0, .ref a0), (1, .int p1), (2, .int p2), (3, .int p3), (4, .int p4), (5, .int p5), (6, .int v14)] [.int v22] := by
              intro v22 hf
              rw [ej21] at hf
              refine r_istore (q := 91) (L' := [(7, .int v22), (0, .ref a0), (1, .int p1), (2, .int p2), (3, .int p3), (4, .int p4), (5, .int p5), (6, .int v14)]) C dX9_append_89 rfl (by decide) rfl ?_
              refine r_aload_n (q := 92) C 1 dX9_append_91 rfl rfl ?_
              obtain ⟨b23, e24, hf⟩ := m_b1_of hf
              refine gf_X9_42 (q := 95) C dX9_append_92 g1 e24 rfl ?_
              refine r_aload_n (q := 96) C 1 dX9_append_95 rfl rfl ?_
              refine gf_X9_87 (q := 99) C dX9_append_96 g1 rfl ?_
              refine r_iload (q := 101) C 7 dX9_append_99 rfl rfl ?_
              refine r_iadd (q := 102) C dX9_append_101 rfl ?_
              refine r_iload (q := 104) C 0 dX9_append_102 rfl rfl ?_
              refine r_bipush (q := 106) (v := (24 : Int32)) C dX9_append_104 (by decide) rfl ?_
              refine r_bipush (q := 108) (v := (8 : Int32)) C dX9_append_106 (by decide) rfl ?_
              refine r_iload (q := 110) C 7 dX9_append_108 rfl rfl ?_
              refine r_iconst (q := 111) (v := (4 : Int32)) C dX9_append_110 (by decide) rfl ?_
              refine r_irem (q := 112) C dX9_append_111 (by decide) rfl ?_
              refine r_imul (q := 113) C dX9_append_112 rfl ?_
              refine r_isub (q := 114) C dX9_append_113 rfl ?_
              refine r_ishr (q := 115) C dX9_append_114 rfl ?_
              refine r_sipush (q := 118) (v := (255 : Int32)) C dX9_append_115 (by decide) rfl ?_
              refine r_iand (q := 119) C dX9_append_118 rfl ?_
              obtain ⟨g25, hf⟩ := m_gd_of hf
              obtain ⟨g26, hf⟩ := m_gd_of hf
              obtain ⟨S27, e28, hf⟩ := m_lt_of hf
              refine r_iast (q := 120) C dX9_append_119 ⟨g25, g26⟩ rfl ?_
              rw [← e28]
              obtain ⟨v29, e30, hf⟩ := m_lt_of hf
              refine r_iinc (q := 123) (v := v29) (L' := [(6, .int v29), (7, .int v22), (0, .ref a0), (1, .int p1), (2, .int p2), (3, .int p3), (4, .int p4), (5, .int p5)]) C 7 dX9_append_120 rfl (by rw [e30]; rfl) rfl (by decide) rfl ?_
              refine r_goto (t := 36) C dX9_append_123 (by decide) ?_
              refine r_sub [2, 3, 4, 5, 6, 7, 0] rfl ?_
              exact ih17 v29 S27 hf
            refine r_icmp_ge (t := 53) (q := 49) C dX9_append_46 (by decide) rfl (fun c31 => ?_) (fun c31 => ?_)
            · replace hf := m_if1 hf c31
              refine r_iload (q := 55) C 6 dX9_append_53 rfl rfl ?_
              refine r_bipush (q := 57) (v := (8 : Int32)) C dX9_append_55 (by decide) rfl ?_
              refine r_icmp_ge (t := 64) (q := 60) C dX9_append_57 (by decide) rfl (fun c32 => ?_) (fun c32 => ?_)
              · replace hf := m_if1 hf c32
                refine r_iload (q := 66) C 6 dX9_append_64 rfl rfl ?_
                refine r_bipush (q := 68) (v := (12 : Int32)) C dX9_append_66 (by decide) rfl ?_
                refine r_icmp_ge (t := 75) (q := 71) C dX9_append_68 (by decide) rfl (fun c33 => ?_) (fun c33 => ?_)
                · replace hf := m_if1 hf c33
                  refine r_iload (q := 77) C 6 dX9_append_75 rfl rfl ?_
                  refine r_bipush (q := 79) (v := (16 : Int32)) C dX9_append_77 (by decide) rfl ?_
                  refine r_icmp_ge (t := 87) (q := 82) C dX9_append_79 (by decide) rfl (fun c34 => ?_) (fun c34 => ?_)
                  · replace hf := m_if1 hf c34
                    refine r_iload (q := 89) C 5 dX9_append_87 rfl rfl ?_
                    exact J21 p5 hf
                  · replace hf := m_if0 hf c34
                    refine r_iload (q := 84) C 4 dX9_append_82 rfl rfl ?_
                    refine r_goto (t := 89) C dX9_append_84 (by decide) ?_
                    exact J21 p4 hf
                · replace hf := m_if0 hf c33
                  refine r_iload_n (q := 72) C 3 dX9_append_71 rfl rfl ?_
                  refine r_goto (t := 89) C dX9_append_72 (by decide) ?_
                  exact J21 p3 hf
              · replace hf := m_if0 hf c32
                refine r_iload_n (q := 61) C 2 dX9_append_60 rfl rfl ?_
                refine r_goto (t := 89) C dX9_append_61 (by decide) ?_
                exact J21 p2 hf
            · replace hf := m_if0 hf c31
              refine r_iload_n (q := 50) C 1 dX9_append_49 rfl rfl ?_
              refine r_goto (t := 89) C dX9_append_50 (by decide) ?_
              exact J21 p1 hf
      refine r_sub [1, 2, 3, 4, 5, 6, 0] rfl ?_
      exact LL19 100000 (0 : Int32) S7 hf
    · replace hf := m_if0 hf (fun z => z c9)
      refine r_iconst (q := 32) (v := (0 : Int32)) C dX9_append_31 (by decide) rfl ?_
      obtain ⟨rfl, rfl⟩ := m_so2 hf
      exact r_iret C F dX9_append_32
  refine r_icmp_gt (t := 23) (q := 19) C dX9_append_16 (by decide) rfl (fun c36 => ?_) (fun c36 => ?_)
  · replace hf := m_if1 hf c36
    refine r_iconst (q := 24) (v := (0 : Int32)) C dX9_append_23 (by decide) rfl ?_
    exact J4 (0 : Int32) hf
  · replace hf := m_if0 hf c36
    refine r_iconst (q := 20) (v := (1 : Int32)) C dX9_append_19 (by decide) rfl ?_
    refine r_goto (t := 24) C dX9_append_20 (by decide) ?_
    exact J4 (1 : Int32) hf
def f_X9_at (Z : m_Z) (S : m_S) (a0 : Nat) (p1 : Int32) : Option (Int32) := m_gd (m_ok Z a0 9) ((if (S.1 a0 13) ≤ p1 then some (-1 : Int32) else m_b1 (S.2.2 a0 11) (fun b3 => m_gd (m_ok Z b3 11) (m_gd (m_in p1 (Z.2.2 b3)) (some (S.1 b3 p1.toNatClampNeg))))))
abbrev rm_X9_at : Room := { frames := 0, cells := 0, slots := 0, locals := 0 }
theorem hd_X9_at : yX9_at.cls = RX9 ∧ yX9_at.cls ≠ "java/lang/invoke/MethodHandle" ∧ yX9_at.cls ≠ "java/lang/invoke/VarHandle" ∧ (parseMethodDescriptor yX9_at.desc).map (fun d => d.parameters.length) = some 1 := by decide +kernel
set_option maxHeartbeats 4000000 in
set_option maxRecDepth 100000 in
theorem c_X9_at {l : Launch} (hl : l.stackTraces = false) {Z : m_Z} {S : m_S} {a0 : Nat} {p1 : Int32} {rZ9 : Int32} (hf : f_X9_at Z S a0 p1 = some rZ9) : m_Ct l yX9_at (.code yX9_at cX9_at 2 (some .int) :: m_ws) rm_X9_at (fun f => [.ref a0, .int p1]) Z S (some (.int rZ9)) S := by
  unfold f_X9_at at hf
  refine m_ent hl (by decide) (fun _ => Nat.le_of_ble_eq_true rfl) (fun x C F => ?_)
  have C : m_H x l RX9 cX9_at 2 rm_X9_at := C
  show m_G x Z S 2 0 0 0 [(0, .ref a0), (1, .int p1)] []
  refine r_iload_n (q := 1) C 1 dX9_at_0 rfl rfl ?_
  refine r_aload_n (q := 2) C 0 dX9_at_1 rfl rfl ?_
  obtain ⟨g1, hf⟩ := m_gd_of hf
  refine gf_X9_98 (q := 5) C dX9_at_2 g1 rfl ?_
  refine r_icmp_ge (t := 17) (q := 8) C dX9_at_5 (by decide) rfl (fun c2 => ?_) (fun c2 => ?_)
  · replace hf := m_if1 hf c2
    refine r_iconst (q := 18) (v := (-1 : Int32)) C dX9_at_17 (by decide) rfl ?_
    obtain rfl := m_so1 hf
    exact r_iret C F dX9_at_18
  · replace hf := m_if0 hf c2
    refine r_aload_n (q := 9) C 0 dX9_at_8 rfl rfl ?_
    obtain ⟨b3, e4, hf⟩ := m_b1_of hf
    refine gf_X9_42 (q := 12) C dX9_at_9 g1 e4 rfl ?_
    refine r_iload_n (q := 13) C 1 dX9_at_12 rfl rfl ?_
    obtain ⟨g5, hf⟩ := m_gd_of hf
    obtain ⟨g6, hf⟩ := m_gd_of hf
    refine r_iald (q := 14) C dX9_at_13 ⟨g5, g6⟩ rfl ?_
    refine r_goto (t := 18) C dX9_at_14 (by decide) ?_
    obtain rfl := m_so1 hf
    exact r_iret C F dX9_at_18
def F_X9_inCassettes_4 (Z : m_Z) (S : m_S) (a0 : Nat) (p1 : Int32) (j2 : (Int32 → Option (Int32))) (lp5 : (Int32 × Int32) → Option (Int32)) (p19 : (Int32 × Int32)) : Option (Int32) := match p19 with
  | (v3, v4) => m_gd (m_ok Z a0 9) (m_b1 (f_X9_of Z S a0 p1 (4 : Int32)) (fun v11 => (if v11 ≤ v4 then j2 v3 else m_b1 (f_X9_its Z S a0 p1 v4 (3 : Int32)) (fun v14 => m_lt (v3 + v14) (fun v15 => m_lt (v4 + (1 : Int32)) (fun v17 => lp5 (v15, v17)))))))
def f_X9_inCassettes (Z : m_Z) (S : m_S) (a0 : Nat) (p1 : Int32) : Option (Int32) := m_jp (fun (v1 : Int32) => some v1) (fun j2 => m_fx (F_X9_inCassettes_4 Z S a0 p1 j2) 100000 ((0 : Int32), (0 : Int32)))
abbrev rm_X9_inCassettes : Room := { frames := 1, cells := 0, slots := 0, locals := 23 }
theorem hd_X9_inCassettes : yX9_inCassettes.cls = RX9 ∧ yX9_inCassettes.cls ≠ "java/lang/invoke/MethodHandle" ∧ yX9_inCassettes.cls ≠ "java/lang/invoke/VarHandle" ∧ (parseMethodDescriptor yX9_inCassettes.desc).map (fun d => d.parameters.length) = some 1 := by decide +kernel
set_option maxHeartbeats 4000000 in
set_option maxRecDepth 100000 in
theorem c_X9_inCassettes {l : Launch} (hl : l.stackTraces = false) {Z : m_Z} {S : m_S} {a0 : Nat} {p1 : Int32} {rZ9 : Int32} (hf : f_X9_inCassettes Z S a0 p1 = some rZ9) : m_Ct l yX9_inCassettes (.code yX9_inCassettes cX9_inCassettes 4 (some .int) :: m_ws) rm_X9_inCassettes (fun f => [.ref a0, .int p1]) Z S (some (.int rZ9)) S := by
  unfold f_X9_inCassettes at hf
  refine m_ent hl (by decide) (fun _ => Nat.le_of_ble_eq_true rfl) (fun x C F => ?_)
  have C : m_H x l RX9 cX9_inCassettes 4 rm_X9_inCassettes := C
  show m_G x Z S 4 0 0 0 [(0, .ref a0), (1, .int p1)] []
  refine r_iconst (q := 1) (v := (0 : Int32)) C dX9_inCassettes_0 (by decide) rfl ?_
  refine r_istore_n (q := 2) (L' := [(2, .int (0 : Int32)), (0, .ref a0), (1, .int p1)]) C dX9_inCassettes_1 rfl rfl (by decide) rfl ?_
  refine r_iconst (q := 3) (v := (0 : Int32)) C dX9_inCassettes_2 (by decide) rfl ?_
  refine r_istore_n (q := 4) (L' := [(3, .int (0 : Int32)), (2, .int (0 : Int32)), (0, .ref a0), (1, .int p1)]) C dX9_inCassettes_3 rfl rfl (by decide) rfl ?_
  obtain ⟨j2, ej2, hf⟩ := m_jp_of hf
  have J2 : ∀ (v1 : Int32), j2 v1 = some rZ9 → m_G x Z S 4 0 0 30 [(2, .int v1)] [] := by
    intro v1 hf
    rw [ej2] at hf
    refine r_iload_n (q := 31) C 0 dX9_inCassettes_30 rfl rfl ?_
    obtain rfl := m_so1 hf
    exact r_iret C F dX9_inCassettes_31
  have LL8 : ∀ (fu7 : Nat) (v3 : Int32) (v4 : Int32), m_fx (F_X9_inCassettes_4 Z S a0 p1 j2) fu7 (v3, v4) = some rZ9 → m_G x Z S 4 0 0 4 [(0, .ref a0), (1, .int p1), (2, .int v3), (3, .int v4)] [] := by
    intro fu7
    induction fu7 with
    | zero => intros; rename_i hf; cases hf
    | succ fu7 ih6 =>
      intro v3 v4 hf
      replace hf : F_X9_inCassettes_4 Z S a0 p1 j2 (m_fx (F_X9_inCassettes_4 Z S a0 p1 j2) fu7) (v3, v4) = some rZ9 := hf
      unfold F_X9_inCassettes_4 at hf
      dsimp only at hf
      refine r_iload_n (q := 5) C 3 dX9_inCassettes_4 rfl rfl ?_
      refine r_aload_n (q := 6) C 0 dX9_inCassettes_5 rfl rfl ?_
      refine r_iload_n (q := 7) C 1 dX9_inCassettes_6 rfl rfl ?_
      refine r_iconst (q := 8) (v := (4 : Int32)) C dX9_inCassettes_7 (by decide) rfl ?_
      obtain ⟨g9, hf⟩ := m_gd_of hf
      obtain ⟨v11, h10, hf⟩ := m_b1_of hf
      refine r_callV (mc := 0) (ms := 0) (q := 11) (st1 := [.int v11, .int v4]) C (c_X9_of hl h10) rfl w_937 w_938 w_1325 w_11 w_939 hd_X9_of rfl (by decide) g9 rfl rfl rfl ⟨(Nat.le_of_ble_eq_true rfl), (Nat.le_of_ble_eq_true rfl)⟩ (Nat.le_of_ble_eq_true rfl) ⟨(Nat.le_of_ble_eq_true rfl), (Nat.le_of_ble_eq_true rfl)⟩ dX9_inCassettes_8 rfl rfl ?_
      refine r_icmp_ge (t := 30) (q := 14) C dX9_inCassettes_11 (by decide) rfl (fun c12 => ?_) (fun c12 => ?_)
      · replace hf := m_if1 hf c12
        refine r_sub [2] rfl ?_
        exact J2 v3 hf
      · replace hf := m_if0 hf c12
        refine r_iload_n (q := 15) C 2 dX9_inCassettes_14 rfl rfl ?_
        refine r_aload_n (q := 16) C 0 dX9_inCassettes_15 rfl rfl ?_
        refine r_iload_n (q := 17) C 1 dX9_inCassettes_16 rfl rfl ?_
        refine r_iload_n (q := 18) C 3 dX9_inCassettes_17 rfl rfl ?_
        refine r_iconst (q := 19) (v := (3 : Int32)) C dX9_inCassettes_18 (by decide) rfl ?_
        obtain ⟨v14, h13, hf⟩ := m_b1_of hf
        refine r_callV (mc := 0) (ms := 0) (q := 22) (st1 := [.int v14, .int v3]) C (c_X9_its hl h13) rfl w_940 w_941 w_1326 w_11 w_942 hd_X9_its rfl (by decide) g9 rfl rfl rfl ⟨(Nat.le_of_ble_eq_true rfl), (Nat.le_of_ble_eq_true rfl)⟩ (Nat.le_of_ble_eq_true rfl) ⟨(Nat.le_of_ble_eq_true rfl), (Nat.le_of_ble_eq_true rfl)⟩ dX9_inCassettes_19 rfl rfl ?_
        refine r_iadd (q := 23) C dX9_inCassettes_22 rfl ?_
        obtain ⟨v15, e16, hf⟩ := m_lt_of hf
        refine r_nm e16 ?_
        refine r_istore_n (q := 24) (L' := [(2, .int v15), (0, .ref a0), (1, .int p1), (3, .int v4)]) C dX9_inCassettes_23 rfl rfl (by decide) rfl ?_
        obtain ⟨v17, e18, hf⟩ := m_lt_of hf
        refine r_iinc (q := 27) (v := v17) (L' := [(3, .int v17), (2, .int v15), (0, .ref a0), (1, .int p1)]) C 3 dX9_inCassettes_24 rfl (by rw [e18]; rfl) rfl (by decide) rfl ?_
        refine r_goto (t := 4) C dX9_inCassettes_27 (by decide) ?_
        refine r_sub [2, 3, 1, 0] rfl ?_
        exact ih6 v15 v17 hf
  refine r_sub [2, 3, 1, 0] rfl ?_
  exact LL8 100000 (0 : Int32) (0 : Int32) hf
def f_X9_moistureOf (Z : m_Z) (S : m_S) (a0 : Nat) (p1 : Int32) : Option (Int64) := m_gd (m_ok Z a0 9) (m_b1 (f_X9_of Z S a0 p1 (3 : Int32)) (fun v3 => m_b1 (f_X9_inCassettes Z S a0 p1) (fun v5 => some (v3.toInt64 + v5.toInt64))))
abbrev rm_X9_moistureOf : Room := { frames := 2, cells := 0, slots := 0, locals := 46 }
theorem hd_X9_moistureOf : yX9_moistureOf.cls = RX9 ∧ yX9_moistureOf.cls ≠ "java/lang/invoke/MethodHandle" ∧ yX9_moistureOf.cls ≠ "java/lang/invoke/VarHandle" ∧ (parseMethodDescriptor yX9_moistureOf.desc).map (fun d => d.parameters.length) = some 1 := by decide +kernel
set_option maxHeartbeats 4000000 in
set_option maxRecDepth 100000 in
theorem c_X9_moistureOf {l : Launch} (hl : l.stackTraces = false) {Z : m_Z} {S : m_S} {a0 : Nat} {p1 : Int32} {rZ9 : Int64} (hf : f_X9_moistureOf Z S a0 p1 = some rZ9) : m_Ct l yX9_moistureOf (.code yX9_moistureOf cX9_moistureOf 2 (some .long) :: m_ws) rm_X9_moistureOf (fun f => [.ref a0, .int p1]) Z S (some (.long rZ9)) S := by
  unfold f_X9_moistureOf at hf
  refine m_ent hl (by decide) (fun _ => Nat.le_of_ble_eq_true rfl) (fun x C F => ?_)
  have C : m_H x l RX9 cX9_moistureOf 2 rm_X9_moistureOf := C
  show m_G x Z S 2 0 0 0 [(0, .ref a0), (1, .int p1)] []
  refine r_aload_n (q := 1) C 0 dX9_moistureOf_0 rfl rfl ?_
  refine r_iload_n (q := 2) C 1 dX9_moistureOf_1 rfl rfl ?_
  refine r_iconst (q := 3) (v := (3 : Int32)) C dX9_moistureOf_2 (by decide) rfl ?_
  obtain ⟨g1, hf⟩ := m_gd_of hf
  obtain ⟨v3, h2, hf⟩ := m_b1_of hf
  refine r_callV (mc := 0) (ms := 0) (q := 6) (st1 := [.int v3]) C (c_X9_of hl h2) rfl w_937 w_938 w_1325 w_11 w_939 hd_X9_of rfl (by decide) g1 rfl rfl rfl ⟨(Nat.le_of_ble_eq_true rfl), (Nat.le_of_ble_eq_true rfl)⟩ (Nat.le_of_ble_eq_true rfl) ⟨(Nat.le_of_ble_eq_true rfl), (Nat.le_of_ble_eq_true rfl)⟩ dX9_moistureOf_3 rfl rfl ?_
  refine r_i2l (q := 7) C dX9_moistureOf_6 rfl ?_
  refine r_aload_n (q := 8) C 0 dX9_moistureOf_7 rfl rfl ?_
  refine r_iload_n (q := 9) C 1 dX9_moistureOf_8 rfl rfl ?_
  obtain ⟨v5, h4, hf⟩ := m_b1_of hf
  refine r_callV (mc := 0) (ms := 0) (q := 12) (st1 := [.int v5, .long v3.toInt64]) C (c_X9_inCassettes hl h4) rfl w_961 w_962 w_1332 w_11 w_963 hd_X9_inCassettes rfl (by decide) g1 rfl rfl rfl ⟨(Nat.le_of_ble_eq_true rfl), (Nat.le_of_ble_eq_true rfl)⟩ (Nat.le_of_ble_eq_true rfl) ⟨(Nat.le_of_ble_eq_true rfl), (Nat.le_of_ble_eq_true rfl)⟩ dX9_moistureOf_9 rfl rfl ?_
  refine r_i2l (q := 13) C dX9_moistureOf_12 rfl ?_
  refine r_ladd (q := 14) C dX9_moistureOf_13 rfl ?_
  obtain rfl := m_so1 hf
  exact r_lret C F dX9_moistureOf_14
def f_X9_balance (Z : m_Z) (S : m_S) (a0 : Nat) (p1 : Int32) (p2 : Int32) : Option (Int64 × m_S) := m_gd (m_ok Z a0 9) (m_lt (m_pI S a0 0 (0 : Int32)) (fun S2 => m_b1 (f_X9_isCase Z S2 a0 p1) (fun v5 => m_bw (f_X9_may Z S2 a0 v5 (1 : Int32)) (fun v8 S7 => (if v8 = 0 then some ((0 : Int64), S7) else m_b1 (f_X9_isIn Z S7 p2 (0 : Int32) (4 : Int32)) (fun v11 => m_bw (f_X9_may Z S7 a0 v11 (2 : Int32)) (fun v14 S13 => (if ¬ v14 = 0 then (if ¬ p2 = (4 : Int32) then m_b1 (S13.2.2 a0 7) (fun b17 => m_gd (m_ok Z b17 12) (m_lt ((((5 : Int32) * p1) + (1 : Int32)) + p2) (fun v20 => m_gd (m_in v20 (Z.2.2 b17)) (some ((S13.2.1 b17 v20.toNatClampNeg), S13))))) else m_b1 (f_X9_moistureOf Z S13 a0 p1) (fun w24 => some (w24, S13))) else some ((0 : Int64), S13)))))))))
abbrev rm_X9_balance : Room := { frames := 3, cells := 0, slots := 0, locals := 67 }
theorem hd_X9_balance : yX9_balance.cls = RX9 ∧ yX9_balance.cls ≠ "java/lang/invoke/MethodHandle" ∧ yX9_balance.cls ≠ "java/lang/invoke/VarHandle" ∧ (parseMethodDescriptor yX9_balance.desc).map (fun d => d.parameters.length) = some 2 := by decide +kernel
set_option maxHeartbeats 4000000 in
set_option maxRecDepth 100000 in
theorem c_X9_balance {l : Launch} (hl : l.stackTraces = false) {Z : m_Z} {S : m_S} {a0 : Nat} {p1 : Int32} {p2 : Int32} {rZ9 : Int64} {SZ9 : m_S} (hf : f_X9_balance Z S a0 p1 p2 = some (rZ9, SZ9)) : m_Ct l yX9_balance (.code yX9_balance cX9_balance 3 (some .long) :: m_ws) rm_X9_balance (fun f => [.ref a0, .int p1, .int p2]) Z S (some (.long rZ9)) SZ9 := by
  unfold f_X9_balance at hf
  refine m_ent hl (by decide) (fun _ => Nat.le_of_ble_eq_true rfl) (fun x C F => ?_)
  have C : m_H x l RX9 cX9_balance 3 rm_X9_balance := C
  show m_G x Z S 3 0 0 0 [(0, .ref a0), (1, .int p1), (2, .int p2)] []
  refine r_aload_n (q := 1) C 0 dX9_balance_0 rfl rfl ?_
  refine r_iconst (q := 2) (v := (0 : Int32)) C dX9_balance_1 (by decide) rfl ?_
  obtain ⟨g1, hf⟩ := m_gd_of hf
  obtain ⟨S2, e3, hf⟩ := m_lt_of hf
  refine pf_X9_61 (q := 5) C dX9_balance_2 g1 e3 rfl ?_
  refine r_aload_n (q := 6) C 0 dX9_balance_5 rfl rfl ?_
  refine r_aload_n (q := 7) C 0 dX9_balance_6 rfl rfl ?_
  refine r_iload_n (q := 8) C 1 dX9_balance_7 rfl rfl ?_
  obtain ⟨v5, h4, hf⟩ := m_b1_of hf
  refine r_callV (mc := 0) (ms := 0) (q := 11) (st1 := [.int v5, .ref a0]) C (c_X9_isCase hl h4) rfl w_1146 w_1147 w_1356 w_11 w_1148 hd_X9_isCase rfl (by decide) g1 rfl rfl rfl ⟨(Nat.le_of_ble_eq_true rfl), (Nat.le_of_ble_eq_true rfl)⟩ (Nat.le_of_ble_eq_true rfl) ⟨(Nat.le_of_ble_eq_true rfl), (Nat.le_of_ble_eq_true rfl)⟩ dX9_balance_8 rfl rfl ?_
  refine r_iconst (q := 12) (v := (1 : Int32)) C dX9_balance_11 (by decide) rfl ?_
  obtain ⟨v8, S7, h6, hf⟩ := m_bw_of hf
  refine r_callV (mc := 0) (ms := 0) (q := 15) (st1 := [.int v8]) C (c_X9_may hl h6) rfl w_1024 w_1025 w_1333 w_11 w_1026 hd_X9_may rfl (by decide) g1 rfl rfl rfl ⟨(Nat.le_of_ble_eq_true rfl), (Nat.le_of_ble_eq_true rfl)⟩ (Nat.le_of_ble_eq_true rfl) ⟨(Nat.le_of_ble_eq_true rfl), (Nat.le_of_ble_eq_true rfl)⟩ dX9_balance_12 rfl rfl ?_
  refine r_if_eq (t := 32) (q := 18) C dX9_balance_15 (by decide) rfl (fun c9 => ?_) (fun c9 => ?_)
  · replace hf := m_if1 hf c9
    refine r_lconst (q := 33) (v := (0 : Int64)) C dX9_balance_32 (by decide) rfl ?_
    obtain ⟨rfl, rfl⟩ := m_so2 hf
    exact r_lret C F dX9_balance_33
  · replace hf := m_if0 hf c9
    refine r_aload_n (q := 19) C 0 dX9_balance_18 rfl rfl ?_
    refine r_iload_n (q := 20) C 2 dX9_balance_19 rfl rfl ?_
    refine r_iconst (q := 21) (v := (0 : Int32)) C dX9_balance_20 (by decide) rfl ?_
    refine r_iconst (q := 22) (v := (4 : Int32)) C dX9_balance_21 (by decide) rfl ?_
    obtain ⟨v11, h10, hf⟩ := m_b1_of hf
    refine r_callS (mc := 0) (ms := 0) (q := 25) (st1 := [.int v11, .ref a0]) C (c_X9_isIn hl h10) rfl w_1031 w_1032 w_11 w_1033 hd_X9_isIn rfl rfl rfl ⟨(Nat.le_of_ble_eq_true rfl), (Nat.le_of_ble_eq_true rfl)⟩ (Nat.le_of_ble_eq_true rfl) ⟨(Nat.le_of_ble_eq_true rfl), (Nat.le_of_ble_eq_true rfl)⟩ dX9_balance_22 rfl rfl ?_
    refine r_iconst (q := 26) (v := (2 : Int32)) C dX9_balance_25 (by decide) rfl ?_
    obtain ⟨v14, S13, h12, hf⟩ := m_bw_of hf
    refine r_callV (mc := 0) (ms := 0) (q := 29) (st1 := [.int v14]) C (c_X9_may hl h12) rfl w_1024 w_1025 w_1333 w_11 w_1026 hd_X9_may rfl (by decide) g1 rfl rfl rfl ⟨(Nat.le_of_ble_eq_true rfl), (Nat.le_of_ble_eq_true rfl)⟩ (Nat.le_of_ble_eq_true rfl) ⟨(Nat.le_of_ble_eq_true rfl), (Nat.le_of_ble_eq_true rfl)⟩ dX9_balance_26 rfl rfl ?_
    refine r_if_ne (t := 34) (q := 32) C dX9_balance_29 (by decide) rfl (fun c15 => ?_) (fun c15 => ?_)
    · replace hf := m_if1 hf c15
      refine r_iload_n (q := 35) C 2 dX9_balance_34 rfl rfl ?_
      refine r_iconst (q := 36) (v := (4 : Int32)) C dX9_balance_35 (by decide) rfl ?_
      refine r_icmp_ne (t := 47) (q := 39) C dX9_balance_36 (by decide) rfl (fun c16 => ?_) (fun c16 => ?_)
      · replace hf := m_if1 hf c16
        refine r_aload_n (q := 48) C 0 dX9_balance_47 rfl rfl ?_
        obtain ⟨b17, e18, hf⟩ := m_b1_of hf
        refine gf_X9_28 (q := 51) C dX9_balance_48 g1 e18 rfl ?_
        refine r_iconst (q := 52) (v := (5 : Int32)) C dX9_balance_51 (by decide) rfl ?_
        refine r_iload_n (q := 53) C 1 dX9_balance_52 rfl rfl ?_
        refine r_imul (q := 54) C dX9_balance_53 rfl ?_
        refine r_iconst (q := 55) (v := (1 : Int32)) C dX9_balance_54 (by decide) rfl ?_
        refine r_iadd (q := 56) C dX9_balance_55 rfl ?_
        refine r_iload_n (q := 57) C 2 dX9_balance_56 rfl rfl ?_
        refine r_iadd (q := 58) C dX9_balance_57 rfl ?_
        obtain ⟨g19, hf⟩ := m_gd_of hf
        obtain ⟨v20, e21, hf⟩ := m_lt_of hf
        refine r_nm e21 ?_
        obtain ⟨g22, hf⟩ := m_gd_of hf
        refine r_lald (q := 59) C dX9_balance_58 ⟨g19, g22⟩ rfl ?_
        obtain ⟨rfl, rfl⟩ := m_so2 hf
        exact r_lret C F dX9_balance_59
      · replace hf := m_if0 hf (fun z => z c16)
        refine r_aload_n (q := 40) C 0 dX9_balance_39 rfl rfl ?_
        refine r_iload_n (q := 41) C 1 dX9_balance_40 rfl rfl ?_
        obtain ⟨w24, h23, hf⟩ := m_b1_of hf
        refine r_callV (mc := 0) (ms := 0) (q := 44) (st1 := [.long w24]) C (c_X9_moistureOf hl h23) rfl w_958 w_959 w_1331 w_11 w_960 hd_X9_moistureOf rfl (by decide) g1 rfl rfl rfl ⟨(Nat.le_of_ble_eq_true rfl), (Nat.le_of_ble_eq_true rfl)⟩ (Nat.le_of_ble_eq_true rfl) ⟨(Nat.le_of_ble_eq_true rfl), (Nat.le_of_ble_eq_true rfl)⟩ dX9_balance_41 rfl rfl ?_
        refine r_goto (t := 59) C dX9_balance_44 (by decide) ?_
        obtain ⟨rfl, rfl⟩ := m_so2 hf
        exact r_lret C F dX9_balance_59
    · replace hf := m_if0 hf (fun z => z c15)
      refine r_lconst (q := 33) (v := (0 : Int64)) C dX9_balance_32 (by decide) rfl ?_
      obtain ⟨rfl, rfl⟩ := m_so2 hf
      exact r_lret C F dX9_balance_33
def f_X9_isWrong (Z : m_Z) (S : m_S) (a0 : Nat) : Option (Int32) := m_gd (m_ok Z a0 9) ((if (S.1 a0 18) = 0 then some (0 : Int32) else some (1 : Int32)))
abbrev rm_X9_isWrong : Room := { frames := 0, cells := 0, slots := 0, locals := 0 }
theorem hd_X9_isWrong : yX9_isWrong.cls = RX9 ∧ yX9_isWrong.cls ≠ "java/lang/invoke/MethodHandle" ∧ yX9_isWrong.cls ≠ "java/lang/invoke/VarHandle" ∧ (parseMethodDescriptor yX9_isWrong.desc).map (fun d => d.parameters.length) = some 0 := by decide +kernel
set_option maxHeartbeats 4000000 in
set_option maxRecDepth 100000 in
theorem c_X9_isWrong {l : Launch} (hl : l.stackTraces = false) {Z : m_Z} {S : m_S} {a0 : Nat} {rZ9 : Int32} (hf : f_X9_isWrong Z S a0 = some rZ9) : m_Ct l yX9_isWrong (.code yX9_isWrong cX9_isWrong 1 (some .boolean) :: m_ws) rm_X9_isWrong (fun f => [.ref a0]) Z S (some (.int rZ9)) S := by
  unfold f_X9_isWrong at hf
  refine m_ent hl (by decide) (fun _ => Nat.le_of_ble_eq_true rfl) (fun x C F => ?_)
  have C : m_H x l RX9 cX9_isWrong 1 rm_X9_isWrong := C
  show m_G x Z S 1 0 0 0 [(0, .ref a0)] []
  refine r_aload_n (q := 1) C 0 dX9_isWrong_0 rfl rfl ?_
  obtain ⟨g1, hf⟩ := m_gd_of hf
  refine gf_X9_132 (q := 4) C dX9_isWrong_1 g1 rfl ?_
  refine r_if_eq (t := 11) (q := 7) C dX9_isWrong_4 (by decide) rfl (fun c2 => ?_) (fun c2 => ?_)
  · replace hf := m_if1 hf c2
    refine r_iconst (q := 12) (v := (0 : Int32)) C dX9_isWrong_11 (by decide) rfl ?_
    obtain rfl := m_so1 hf
    exact r_zret C F (by decide) dX9_isWrong_12
  · replace hf := m_if0 hf c2
    refine r_iconst (q := 8) (v := (1 : Int32)) C dX9_isWrong_7 (by decide) rfl ?_
    refine r_goto (t := 12) C dX9_isWrong_8 (by decide) ?_
    obtain rfl := m_so1 hf
    exact r_zret C F (by decide) dX9_isWrong_12
def f_X9_fails (Z : m_Z) (S : m_S) (a0 : Nat) (p1 : Int32) : Option (Unit × m_S) := m_gd (m_ok Z a0 9) (m_b1 (f_X9_isWrong Z S a0) (fun v3 => (if v3 = 0 then m_lt (m_pI S a0 18 p1) (fun S5 => m_lt (m_pI S5 a0 19 (S5.1 a0 15)) (fun S7 => some ((), S7))) else some ((), S))))
abbrev rm_X9_fails : Room := { frames := 1, cells := 0, slots := 0, locals := 20 }
theorem hd_X9_fails : yX9_fails.cls = RX9 ∧ yX9_fails.cls ≠ "java/lang/invoke/MethodHandle" ∧ yX9_fails.cls ≠ "java/lang/invoke/VarHandle" ∧ (parseMethodDescriptor yX9_fails.desc).map (fun d => d.parameters.length) = some 1 := by decide +kernel
set_option maxHeartbeats 4000000 in
set_option maxRecDepth 100000 in
theorem c_X9_fails {l : Launch} (hl : l.stackTraces = false) {Z : m_Z} {S : m_S} {a0 : Nat} {p1 : Int32} {rZ9 : Unit} {SZ9 : m_S} (hf : f_X9_fails Z S a0 p1 = some (rZ9, SZ9)) : m_Ct l yX9_fails (.code yX9_fails cX9_fails 2 none :: m_ws) rm_X9_fails (fun f => [.ref a0, .int p1]) Z S (none) SZ9 := by
  unfold f_X9_fails at hf
  refine m_ent hl (by decide) (fun _ => Nat.le_of_ble_eq_true rfl) (fun x C F => ?_)
  have C : m_H x l RX9 cX9_fails 2 rm_X9_fails := C
  show m_G x Z S 2 0 0 0 [(0, .ref a0), (1, .int p1)] []
  refine r_aload_n (q := 1) C 0 dX9_fails_0 rfl rfl ?_
  obtain ⟨g1, hf⟩ := m_gd_of hf
  obtain ⟨v3, h2, hf⟩ := m_b1_of hf
  refine r_callV (mc := 0) (ms := 0) (q := 4) (st1 := [.int v3]) C (c_X9_isWrong hl h2) rfl w_1061 w_1062 w_1339 w_11 w_1063 hd_X9_isWrong rfl (by decide) g1 rfl rfl rfl ⟨(Nat.le_of_ble_eq_true rfl), (Nat.le_of_ble_eq_true rfl)⟩ (Nat.le_of_ble_eq_true rfl) ⟨(Nat.le_of_ble_eq_true rfl), (Nat.le_of_ble_eq_true rfl)⟩ dX9_fails_1 rfl rfl ?_
  refine r_if_eq (t := 8) (q := 7) C dX9_fails_4 (by decide) rfl (fun c4 => ?_) (fun c4 => ?_)
  · replace hf := m_if1 hf c4
    refine r_aload_n (q := 9) C 0 dX9_fails_8 rfl rfl ?_
    refine r_iload_n (q := 10) C 1 dX9_fails_9 rfl rfl ?_
    obtain ⟨S5, e6, hf⟩ := m_lt_of hf
    refine pf_X9_132 (q := 13) C dX9_fails_10 g1 e6 rfl ?_
    refine r_aload_n (q := 14) C 0 dX9_fails_13 rfl rfl ?_
    refine r_aload_n (q := 15) C 0 dX9_fails_14 rfl rfl ?_
    refine gf_X9_108 (q := 18) C dX9_fails_15 g1 rfl ?_
    obtain ⟨S7, e8, hf⟩ := m_lt_of hf
    refine pf_X9_45 (q := 21) C dX9_fails_18 g1 e8 rfl ?_
    obtain ⟨rfl, rfl⟩ := m_so2 hf
    exact r_vret C F dX9_fails_21
  · replace hf := m_if0 hf c4
    obtain ⟨rfl, rfl⟩ := m_so2 hf
    exact r_vret C F dX9_fails_7
def f_X9_isLetter (Z : m_Z) (S : m_S) (p0 : Int32) : Option (Int32) := (if p0 < (97 : Int32) then some (0 : Int32) else (if (122 : Int32) < p0 then some (0 : Int32) else some (1 : Int32)))
abbrev rm_X9_isLetter : Room := { frames := 0, cells := 0, slots := 0, locals := 0 }
theorem hd_X9_isLetter : yX9_isLetter.cls ≠ "java/lang/invoke/MethodHandle" ∧ yX9_isLetter.cls ≠ "java/lang/invoke/VarHandle" ∧ (parseMethodDescriptor yX9_isLetter.desc).map (fun d => d.parameters.length) = some 1 := by decide +kernel
set_option maxHeartbeats 4000000 in
set_option maxRecDepth 100000 in
theorem c_X9_isLetter {l : Launch} (hl : l.stackTraces = false) {Z : m_Z} {S : m_S} {p0 : Int32} {rZ9 : Int32} (hf : f_X9_isLetter Z S p0 = some rZ9) : m_Ct l yX9_isLetter (.code yX9_isLetter cX9_isLetter 1 (some .boolean) :: m_ws) rm_X9_isLetter (fun f => [.int p0]) Z S (some (.int rZ9)) S := by
  unfold f_X9_isLetter at hf
  refine m_ent hl (by decide) (fun _ => Nat.le_of_ble_eq_true rfl) (fun x C F => ?_)
  have C : m_H x l RX9 cX9_isLetter 1 rm_X9_isLetter := C
  show m_G x Z S 1 0 0 0 [(0, .int p0)] []
  refine r_iload_n (q := 1) C 0 dX9_isLetter_0 rfl rfl ?_
  refine r_bipush (q := 3) (v := (97 : Int32)) C dX9_isLetter_1 (by decide) rfl ?_
  refine r_icmp_lt (t := 16) (q := 6) C dX9_isLetter_3 (by decide) rfl (fun c1 => ?_) (fun c1 => ?_)
  · replace hf := m_if1 hf c1
    refine r_iconst (q := 17) (v := (0 : Int32)) C dX9_isLetter_16 (by decide) rfl ?_
    obtain rfl := m_so1 hf
    exact r_zret C F (by decide) dX9_isLetter_17
  · replace hf := m_if0 hf c1
    refine r_iload_n (q := 7) C 0 dX9_isLetter_6 rfl rfl ?_
    refine r_bipush (q := 9) (v := (122 : Int32)) C dX9_isLetter_7 (by decide) rfl ?_
    refine r_icmp_gt (t := 16) (q := 12) C dX9_isLetter_9 (by decide) rfl (fun c2 => ?_) (fun c2 => ?_)
    · replace hf := m_if1 hf c2
      refine r_iconst (q := 17) (v := (0 : Int32)) C dX9_isLetter_16 (by decide) rfl ?_
      obtain rfl := m_so1 hf
      exact r_zret C F (by decide) dX9_isLetter_17
    · replace hf := m_if0 hf c2
      refine r_iconst (q := 13) (v := (1 : Int32)) C dX9_isLetter_12 (by decide) rfl ?_
      refine r_goto (t := 17) C dX9_isLetter_13 (by decide) ?_
      obtain rfl := m_so1 hf
      exact r_zret C F (by decide) dX9_isLetter_17
def f_X9_isDigit (Z : m_Z) (S : m_S) (p0 : Int32) : Option (Int32) := (if p0 < (48 : Int32) then some (0 : Int32) else (if (57 : Int32) < p0 then some (0 : Int32) else some (1 : Int32)))
abbrev rm_X9_isDigit : Room := { frames := 0, cells := 0, slots := 0, locals := 0 }
theorem hd_X9_isDigit : yX9_isDigit.cls ≠ "java/lang/invoke/MethodHandle" ∧ yX9_isDigit.cls ≠ "java/lang/invoke/VarHandle" ∧ (parseMethodDescriptor yX9_isDigit.desc).map (fun d => d.parameters.length) = some 1 := by decide +kernel
set_option maxHeartbeats 4000000 in
set_option maxRecDepth 100000 in
theorem c_X9_isDigit {l : Launch} (hl : l.stackTraces = false) {Z : m_Z} {S : m_S} {p0 : Int32} {rZ9 : Int32} (hf : f_X9_isDigit Z S p0 = some rZ9) : m_Ct l yX9_isDigit (.code yX9_isDigit cX9_isDigit 1 (some .boolean) :: m_ws) rm_X9_isDigit (fun f => [.int p0]) Z S (some (.int rZ9)) S := by
  unfold f_X9_isDigit at hf
  refine m_ent hl (by decide) (fun _ => Nat.le_of_ble_eq_true rfl) (fun x C F => ?_)
  have C : m_H x l RX9 cX9_isDigit 1 rm_X9_isDigit := C
  show m_G x Z S 1 0 0 0 [(0, .int p0)] []
  refine r_iload_n (q := 1) C 0 dX9_isDigit_0 rfl rfl ?_
  refine r_bipush (q := 3) (v := (48 : Int32)) C dX9_isDigit_1 (by decide) rfl ?_
  refine r_icmp_lt (t := 16) (q := 6) C dX9_isDigit_3 (by decide) rfl (fun c1 => ?_) (fun c1 => ?_)
  · replace hf := m_if1 hf c1
    refine r_iconst (q := 17) (v := (0 : Int32)) C dX9_isDigit_16 (by decide) rfl ?_
    obtain rfl := m_so1 hf
    exact r_zret C F (by decide) dX9_isDigit_17
  · replace hf := m_if0 hf c1
    refine r_iload_n (q := 7) C 0 dX9_isDigit_6 rfl rfl ?_
    refine r_bipush (q := 9) (v := (57 : Int32)) C dX9_isDigit_7 (by decide) rfl ?_
    refine r_icmp_gt (t := 16) (q := 12) C dX9_isDigit_9 (by decide) rfl (fun c2 => ?_) (fun c2 => ?_)
    · replace hf := m_if1 hf c2
      refine r_iconst (q := 17) (v := (0 : Int32)) C dX9_isDigit_16 (by decide) rfl ?_
      obtain rfl := m_so1 hf
      exact r_zret C F (by decide) dX9_isDigit_17
    · replace hf := m_if0 hf c2
      refine r_iconst (q := 13) (v := (1 : Int32)) C dX9_isDigit_12 (by decide) rfl ?_
      refine r_goto (t := 17) C dX9_isDigit_13 (by decide) ?_
      obtain rfl := m_so1 hf
      exact r_zret C F (by decide) dX9_isDigit_17
def F_X9_token_168 (Z : m_Z) (a0 : Nat) (j29 : (m_S → Option (Unit × m_S))) (lp31 : m_S → Option (Unit × m_S)) (S30 : m_S) : Option (Unit × m_S) := m_b1 (f_X9_at Z S30 a0 (S30.1 a0 14)) (fun v36 => m_b1 (f_X9_isDigit Z S30 v36) (fun v38 => (if v38 = 0 then j29 S30 else (if (4 : Int32) ≤ ((S30.1 a0 14) - (S30.1 a0 15)) then m_lt (m_pI S30 a0 14 ((S30.1 a0 14) + (1 : Int32))) (fun S41 => lp31 S41) else m_b1 (f_X9_at Z S30 a0 (S30.1 a0 14)) (fun v44 => m_lt (m_pI S30 a0 17 ((((10 : Int32) * (S30.1 a0 17)) + v44) - (48 : Int32))) (fun S45 => m_lt (m_pI S45 a0 14 ((S45.1 a0 14) + (1 : Int32))) (fun S47 => lp31 S47)))))))
def F_X9_token_81 (Z : m_Z) (a0 : Nat) (j55 : (m_S → Option (Unit × m_S))) (lp57 : m_S → Option (Unit × m_S)) (S56 : m_S) : Option (Unit × m_S) := m_b1 (f_X9_at Z S56 a0 (S56.1 a0 14)) (fun v62 => m_b1 (f_X9_isLetter Z S56 v62) (fun v64 => (if v64 = 0 then j55 S56 else (if (8 : Int32) ≤ ((S56.1 a0 14) - (S56.1 a0 15)) then m_lt (m_pI S56 a0 14 ((S56.1 a0 14) + (1 : Int32))) (fun S67 => lp57 S67) else m_b1 (f_X9_at Z S56 a0 (S56.1 a0 14)) (fun v70 => m_lt (m_pJ S56 a0 20 ((((27 : Int64) * (S56.2.1 a0 20)) + v70.toInt64) - (96 : Int64))) (fun S71 => m_lt (m_pI S71 a0 14 ((S71.1 a0 14) + (1 : Int32))) (fun S73 => lp57 S73)))))))
def F_X9_token_0 (Z : m_Z) (a0 : Nat) (j78 : (m_S → Option (Unit × m_S))) (lp80 : m_S → Option (Unit × m_S)) (S79 : m_S) : Option (Unit × m_S) := m_gd (m_ok Z a0 9) (m_b1 (f_X9_at Z S79 a0 (S79.1 a0 14)) (fun v86 => (if v86 = (10 : Int32) then m_lt (m_pI S79 a0 14 ((S79.1 a0 14) + (1 : Int32))) (fun S88 => lp80 S88) else m_b1 (f_X9_at Z S79 a0 (S79.1 a0 14)) (fun v91 => (if ¬ v91 = (32 : Int32) then j78 S79 else m_lt (m_pI S79 a0 14 ((S79.1 a0 14) + (1 : Int32))) (fun S93 => lp80 S93))))))
def f_X9_token (Z : m_Z) (S : m_S) (a0 : Nat) : Option (Unit × m_S) := m_jp (fun (S1 : m_S) => m_gd (m_ok Z a0 9) (m_lt (m_pI S1 a0 15 (S1.1 a0 14)) (fun S3 => m_b1 (f_X9_at Z S3 a0 (S3.1 a0 14)) (fun v6 => (if ¬ v6 = (-1 : Int32) then m_b1 (f_X9_isLetter Z S3 v6) (fun v9 => (if v9 = 0 then m_b1 (f_X9_isDigit Z S3 v6) (fun v12 => (if v12 = 0 then m_lt (m_pI S3 a0 14 ((S3.1 a0 14) + (1 : Int32))) (fun S14 => (if ¬ v6 = (59 : Int32) then m_lt (m_pI S14 a0 16 (4 : Int32)) (fun S17 => some ((), S17)) else m_lt (m_pI S14 a0 16 (3 : Int32)) (fun S19 => some ((), S19)))) else m_lt (m_pI S3 a0 17 (0 : Int32)) (fun S21 => m_jp (fun (S23 : m_S) => (if ((S23.1 a0 14) - (S23.1 a0 15)) ≤ (4 : Int32) then m_lt (m_pI S23 a0 16 (2 : Int32)) (fun S25 => some ((), S25)) else m_lt (m_pI S23 a0 16 (4 : Int32)) (fun S27 => some ((), S27)))) (fun j29 => m_fx (F_X9_token_168 Z a0 j29) 100000 S21)))) else m_lt (m_pJ S3 a0 20 (0 : Int64)) (fun S50 => m_jp (fun (S52 : m_S) => m_lt (m_pI S52 a0 16 (1 : Int32)) (fun S53 => some ((), S53))) (fun j55 => m_fx (F_X9_token_81 Z a0 j55) 100000 S50)))) else m_lt (m_pI S3 a0 16 (0 : Int32)) (fun S76 => some ((), S76))))))) (fun j78 => m_fx (F_X9_token_0 Z a0 j78) 100000 S)
abbrev rm_X9_token : Room := { frames := 1, cells := 0, slots := 0, locals := 21 }
theorem hd_X9_token : yX9_token.cls = RX9 ∧ yX9_token.cls ≠ "java/lang/invoke/MethodHandle" ∧ yX9_token.cls ≠ "java/lang/invoke/VarHandle" ∧ (parseMethodDescriptor yX9_token.desc).map (fun d => d.parameters.length) = some 0 := by decide +kernel
set_option maxHeartbeats 4000000 in
set_option maxRecDepth 100000 in
theorem c_X9_token {l : Launch} (hl : l.stackTraces = false) {Z : m_Z} {S : m_S} {a0 : Nat} {rZ9 : Unit} {SZ9 : m_S} (hf : f_X9_token Z S a0 = some (rZ9, SZ9)) : m_Ct l yX9_token (.code yX9_token cX9_token 2 none :: m_ws) rm_X9_token (fun f => [.ref a0]) Z S (none) SZ9 := by
  unfold f_X9_token at hf
  refine m_ent hl (by decide) (fun _ => Nat.le_of_ble_eq_true rfl) (fun x C F => ?_)
  have C : m_H x l RX9 cX9_token 2 rm_X9_token := C
  show m_G x Z S 2 0 0 0 [(0, .ref a0)] []
  obtain ⟨j78, ej78, hf⟩ := m_jp_of hf
  have J78 : ∀ (S1 : m_S), j78 S1 = some (rZ9, SZ9) → m_G x Z S1 2 0 0 39 [(0, .ref a0)] [] := by
    intro S1 hf
    rw [ej78] at hf
    refine r_aload_n (q := 40) C 0 dX9_token_39 rfl rfl ?_
    refine r_aload_n (q := 41) C 0 dX9_token_40 rfl rfl ?_
    obtain ⟨g2, hf⟩ := m_gd_of hf
    refine gf_X9_101 (q := 44) C dX9_token_41 g2 rfl ?_
    obtain ⟨S3, e4, hf⟩ := m_lt_of hf
    refine pf_X9_108 (q := 47) C dX9_token_44 g2 e4 rfl ?_
    refine r_aload_n (q := 48) C 0 dX9_token_47 rfl rfl ?_
    refine r_aload_n (q := 49) C 0 dX9_token_48 rfl rfl ?_
    refine gf_X9_101 (q := 52) C dX9_token_49 g2 rfl ?_
    obtain ⟨v6, h5, hf⟩ := m_b1_of hf
    refine r_callV (mc := 0) (ms := 0) (q := 55) (st1 := [.int v6]) C (c_X9_at hl h5) rfl w_1041 w_1042 w_1335 w_11 w_1043 hd_X9_at rfl (by decide) g2 rfl rfl rfl ⟨(Nat.le_of_ble_eq_true rfl), (Nat.le_of_ble_eq_true rfl)⟩ (Nat.le_of_ble_eq_true rfl) ⟨(Nat.le_of_ble_eq_true rfl), (Nat.le_of_ble_eq_true rfl)⟩ dX9_token_52 rfl rfl ?_
    refine r_istore_n (q := 56) (L' := [(1, .int v6), (0, .ref a0)]) C dX9_token_55 rfl rfl (by decide) rfl ?_
    refine r_iload_n (q := 57) C 0 dX9_token_56 rfl rfl ?_
    refine r_iconst (q := 58) (v := (-1 : Int32)) C dX9_token_57 (by decide) rfl ?_
    refine r_icmp_ne (t := 69) (q := 61) C dX9_token_58 (by decide) rfl (fun c7 => ?_) (fun c7 => ?_)
    · replace hf := m_if1 hf c7
      refine r_iload_n (q := 70) C 0 dX9_token_69 rfl rfl ?_
      obtain ⟨v9, h8, hf⟩ := m_b1_of hf
      refine r_callS (mc := 0) (ms := 0) (q := 73) (st1 := [.int v9]) C (c_X9_isLetter hl h8) rfl w_1044 w_1045 w_11 w_1046 hd_X9_isLetter rfl rfl rfl ⟨(Nat.le_of_ble_eq_true rfl), (Nat.le_of_ble_eq_true rfl)⟩ (Nat.le_of_ble_eq_true rfl) ⟨(Nat.le_of_ble_eq_true rfl), (Nat.le_of_ble_eq_true rfl)⟩ dX9_token_70 rfl rfl ?_
      refine r_if_eq (t := 156) (q := 76) C dX9_token_73 (by decide) rfl (fun c10 => ?_) (fun c10 => ?_)
      · replace hf := m_if1 hf c10
        refine r_iload_n (q := 157) C 0 dX9_token_156 rfl rfl ?_
        obtain ⟨v12, h11, hf⟩ := m_b1_of hf
        refine r_callS (mc := 0) (ms := 0) (q := 160) (st1 := [.int v12]) C (c_X9_isDigit hl h11) rfl w_1049 w_1050 w_11 w_1051 hd_X9_isDigit rfl rfl rfl ⟨(Nat.le_of_ble_eq_true rfl), (Nat.le_of_ble_eq_true rfl)⟩ (Nat.le_of_ble_eq_true rfl) ⟨(Nat.le_of_ble_eq_true rfl), (Nat.le_of_ble_eq_true rfl)⟩ dX9_token_157 rfl rfl ?_
        refine r_if_eq (t := 256) (q := 163) C dX9_token_160 (by decide) rfl (fun c13 => ?_) (fun c13 => ?_)
        · replace hf := m_if1 hf c13
          refine r_aload_n (q := 257) C 1 dX9_token_256 rfl rfl ?_
          refine r_dup (q := 258) C dX9_token_257 rfl rfl ?_
          refine gf_X9_101 (q := 261) C dX9_token_258 g2 rfl ?_
          refine r_iconst (q := 262) (v := (1 : Int32)) C dX9_token_261 (by decide) rfl ?_
          refine r_iadd (q := 263) C dX9_token_262 rfl ?_
          obtain ⟨S14, e15, hf⟩ := m_lt_of hf
          refine pf_X9_101 (q := 266) C dX9_token_263 g2 e15 rfl ?_
          refine r_aload_n (q := 267) C 1 dX9_token_266 rfl rfl ?_
          refine r_iload_n (q := 268) C 0 dX9_token_267 rfl rfl ?_
          refine r_bipush (q := 270) (v := (59 : Int32)) C dX9_token_268 (by decide) rfl ?_
          refine r_icmp_ne (t := 277) (q := 273) C dX9_token_270 (by decide) rfl (fun c16 => ?_) (fun c16 => ?_)
          · replace hf := m_if1 hf c16
            refine r_iconst (q := 278) (v := (4 : Int32)) C dX9_token_277 (by decide) rfl ?_
            obtain ⟨S17, e18, hf⟩ := m_lt_of hf
            refine pf_X9_111 (q := 281) C dX9_token_278 g2 e18 rfl ?_
            obtain ⟨rfl, rfl⟩ := m_so2 hf
            exact r_vret C F dX9_token_281
          · replace hf := m_if0 hf (fun z => z c16)
            refine r_iconst (q := 274) (v := (3 : Int32)) C dX9_token_273 (by decide) rfl ?_
            refine r_goto (t := 278) C dX9_token_274 (by decide) ?_
            obtain ⟨S19, e20, hf⟩ := m_lt_of hf
            refine pf_X9_111 (q := 281) C dX9_token_278 g2 e20 rfl ?_
            obtain ⟨rfl, rfl⟩ := m_so2 hf
            exact r_vret C F dX9_token_281
        · replace hf := m_if0 hf c13
          refine r_aload_n (q := 164) C 1 dX9_token_163 rfl rfl ?_
          refine r_iconst (q := 165) (v := (0 : Int32)) C dX9_token_164 (by decide) rfl ?_
          obtain ⟨S21, e22, hf⟩ := m_lt_of hf
          refine pf_X9_129 (q := 168) C dX9_token_165 g2 e22 rfl ?_
          obtain ⟨j29, ej29, hf⟩ := m_jp_of hf
          have J29 : ∀ (S23 : m_S), j29 S23 = some (rZ9, SZ9) → m_G x Z S23 2 0 0 231 [(0, .ref a0)] [] := by
            intro S23 hf
            rw [ej29] at hf
            refine r_aload_n (q := 232) C 0 dX9_token_231 rfl rfl ?_
            refine r_aload_n (q := 233) C 0 dX9_token_232 rfl rfl ?_
            refine gf_X9_101 (q := 236) C dX9_token_233 g2 rfl ?_
            refine r_aload_n (q := 237) C 0 dX9_token_236 rfl rfl ?_
            refine gf_X9_108 (q := 240) C dX9_token_237 g2 rfl ?_
            refine r_isub (q := 241) C dX9_token_240 rfl ?_
            refine r_iconst (q := 242) (v := (4 : Int32)) C dX9_token_241 (by decide) rfl ?_
            refine r_icmp_le (t := 249) (q := 245) C dX9_token_242 (by decide) rfl (fun c24 => ?_) (fun c24 => ?_)
            · replace hf := m_if1 hf c24
              refine r_iconst (q := 250) (v := (2 : Int32)) C dX9_token_249 (by decide) rfl ?_
              obtain ⟨S25, e26, hf⟩ := m_lt_of hf
              refine pf_X9_111 (q := 253) C dX9_token_250 g2 e26 rfl ?_
              refine r_goto (t := 281) C dX9_token_253 (by decide) ?_
              obtain ⟨rfl, rfl⟩ := m_so2 hf
              exact r_vret C F dX9_token_281
            · replace hf := m_if0 hf c24
              refine r_iconst (q := 246) (v := (4 : Int32)) C dX9_token_245 (by decide) rfl ?_
              refine r_goto (t := 250) C dX9_token_246 (by decide) ?_
              obtain ⟨S27, e28, hf⟩ := m_lt_of hf
              refine pf_X9_111 (q := 253) C dX9_token_250 g2 e28 rfl ?_
              refine r_goto (t := 281) C dX9_token_253 (by decide) ?_
              obtain ⟨rfl, rfl⟩ := m_so2 hf
              exact r_vret C F dX9_token_281
          have LL34 : ∀ (fu33 : Nat) (S30 : m_S), m_fx (F_X9_token_168 Z a0 j29) fu33 S30 = some (rZ9, SZ9) → m_G x Z S30 2 0 0 168 [(0, .ref a0)] [] := by
            intro fu33
            induction fu33 with
            | zero => intros; rename_i hf; cases hf
            | succ fu33 ih32 =>
              intro S30 hf
              replace hf : F_X9_token_168 Z a0 j29 (m_fx (F_X9_token_168 Z a0 j29) fu33) S30 = some (rZ9, SZ9) := hf
              unfold F_X9_token_168 at hf
              refine r_aload_n (q := 169) C 0 dX9_token_168 rfl rfl ?_
              refine r_aload_n (q := 170) C 0 dX9_token_169 rfl rfl ?_
              refine gf_X9_101 (q := 173) C dX9_token_170 g2 rfl ?_
              obtain ⟨v36, h35, hf⟩ := m_b1_of hf
              refine r_callV (mc := 0) (ms := 0) (q := 176) (st1 := [.int v36]) C (c_X9_at hl h35) rfl w_1041 w_1042 w_1335 w_11 w_1043 hd_X9_at rfl (by decide) g2 rfl rfl rfl ⟨(Nat.le_of_ble_eq_true rfl), (Nat.le_of_ble_eq_true rfl)⟩ (Nat.le_of_ble_eq_true rfl) ⟨(Nat.le_of_ble_eq_true rfl), (Nat.le_of_ble_eq_true rfl)⟩ dX9_token_173 rfl rfl ?_
              obtain ⟨v38, h37, hf⟩ := m_b1_of hf
              refine r_callS (mc := 0) (ms := 0) (q := 179) (st1 := [.int v38]) C (c_X9_isDigit hl h37) rfl w_1049 w_1050 w_11 w_1051 hd_X9_isDigit rfl rfl rfl ⟨(Nat.le_of_ble_eq_true rfl), (Nat.le_of_ble_eq_true rfl)⟩ (Nat.le_of_ble_eq_true rfl) ⟨(Nat.le_of_ble_eq_true rfl), (Nat.le_of_ble_eq_true rfl)⟩ dX9_token_176 rfl rfl ?_
              refine r_if_eq (t := 231) (q := 182) C dX9_token_179 (by decide) rfl (fun c39 => ?_) (fun c39 => ?_)
              · replace hf := m_if1 hf c39
                exact J29 S30 hf
              · replace hf := m_if0 hf c39
                refine r_aload_n (q := 183) C 0 dX9_token_182 rfl rfl ?_
                refine gf_X9_101 (q := 186) C dX9_token_183 g2 rfl ?_
                refine r_aload_n (q := 187) C 0 dX9_token_186 rfl rfl ?_
                refine gf_X9_108 (q := 190) C dX9_token_187 g2 rfl ?_
                refine r_isub (q := 191) C dX9_token_190 rfl ?_
                refine r_iconst (q := 192) (v := (4 : Int32)) C dX9_token_191 (by decide) rfl ?_
                refine r_icmp_ge (t := 218) (q := 195) C dX9_token_192 (by decide) rfl (fun c40 => ?_) (fun c40 => ?_)
                · replace hf := m_if1 hf c40
                  refine r_aload_n (q := 219) C 0 dX9_token_218 rfl rfl ?_
                  refine r_dup (q := 220) C dX9_token_219 rfl rfl ?_
                  refine gf_X9_101 (q := 223) C dX9_token_220 g2 rfl ?_
                  refine r_iconst (q := 224) (v := (1 : Int32)) C dX9_token_223 (by decide) rfl ?_
                  refine r_iadd (q := 225) C dX9_token_224 rfl ?_
                  obtain ⟨S41, e42, hf⟩ := m_lt_of hf
                  refine pf_X9_101 (q := 228) C dX9_token_225 g2 e42 rfl ?_
                  refine r_goto (t := 168) C dX9_token_228 (by decide) ?_
                  exact ih32 S41 hf
                · replace hf := m_if0 hf c40
                  refine r_aload_n (q := 196) C 0 dX9_token_195 rfl rfl ?_
                  refine r_bipush (q := 198) (v := (10 : Int32)) C dX9_token_196 (by decide) rfl ?_
                  refine r_aload_n (q := 199) C 0 dX9_token_198 rfl rfl ?_
                  refine gf_X9_129 (q := 202) C dX9_token_199 g2 rfl ?_
                  refine r_imul (q := 203) C dX9_token_202 rfl ?_
                  refine r_aload_n (q := 204) C 0 dX9_token_203 rfl rfl ?_
                  refine r_aload_n (q := 205) C 0 dX9_token_204 rfl rfl ?_
                  refine gf_X9_101 (q := 208) C dX9_token_205 g2 rfl ?_
                  obtain ⟨v44, h43, hf⟩ := m_b1_of hf
                  refine r_callV (mc := 0) (ms := 0) (q := 211) (st1 := [.int v44, .int ((10 : Int32) * (S30.1 a0 17)), .ref a0]) C (c_X9_at hl h43) rfl w_1041 w_1042 w_1335 w_11 w_1043 hd_X9_at rfl (by decide) g2 rfl rfl rfl ⟨(Nat.le_of_ble_eq_true rfl), (Nat.le_of_ble_eq_true rfl)⟩ (Nat.le_of_ble_eq_true rfl) ⟨(Nat.le_of_ble_eq_true rfl), (Nat.le_of_ble_eq_true rfl)⟩ dX9_token_208 rfl rfl ?_
                  refine r_iadd (q := 212) C dX9_token_211 rfl ?_
                  refine r_bipush (q := 214) (v := (48 : Int32)) C dX9_token_212 (by decide) rfl ?_
                  refine r_isub (q := 215) C dX9_token_214 rfl ?_
                  obtain ⟨S45, e46, hf⟩ := m_lt_of hf
                  refine pf_X9_129 (q := 218) C dX9_token_215 g2 e46 rfl ?_
                  refine r_aload_n (q := 219) C 0 dX9_token_218 rfl rfl ?_
                  refine r_dup (q := 220) C dX9_token_219 rfl rfl ?_
                  refine gf_X9_101 (q := 223) C dX9_token_220 g2 rfl ?_
                  refine r_iconst (q := 224) (v := (1 : Int32)) C dX9_token_223 (by decide) rfl ?_
                  refine r_iadd (q := 225) C dX9_token_224 rfl ?_
                  obtain ⟨S47, e48, hf⟩ := m_lt_of hf
                  refine pf_X9_101 (q := 228) C dX9_token_225 g2 e48 rfl ?_
                  refine r_goto (t := 168) C dX9_token_228 (by decide) ?_
                  exact ih32 S47 hf
          refine r_sub [1] rfl ?_
          exact LL34 100000 S21 hf
      · replace hf := m_if0 hf c10
        refine r_aload_n (q := 77) C 1 dX9_token_76 rfl rfl ?_
        refine r_lconst (q := 78) (v := (0 : Int64)) C dX9_token_77 (by decide) rfl ?_
        obtain ⟨S50, e51, hf⟩ := m_lt_of hf
        refine pf_X9_118 (q := 81) C dX9_token_78 g2 e51 rfl ?_
        obtain ⟨j55, ej55, hf⟩ := m_jp_of hf
        have J55 : ∀ (S52 : m_S), j55 S52 = some (rZ9, SZ9) → m_G x Z S52 2 0 0 148 [(0, .ref a0)] [] := by
          intro S52 hf
          rw [ej55] at hf
          refine r_aload_n (q := 149) C 0 dX9_token_148 rfl rfl ?_
          refine r_iconst (q := 150) (v := (1 : Int32)) C dX9_token_149 (by decide) rfl ?_
          obtain ⟨S53, e54, hf⟩ := m_lt_of hf
          refine pf_X9_111 (q := 153) C dX9_token_150 g2 e54 rfl ?_
          refine r_goto (t := 281) C dX9_token_153 (by decide) ?_
          obtain ⟨rfl, rfl⟩ := m_so2 hf
          exact r_vret C F dX9_token_281
        have LL60 : ∀ (fu59 : Nat) (S56 : m_S), m_fx (F_X9_token_81 Z a0 j55) fu59 S56 = some (rZ9, SZ9) → m_G x Z S56 2 0 0 81 [(0, .ref a0)] [] := by
          intro fu59
          induction fu59 with
          | zero => intros; rename_i hf; cases hf
          | succ fu59 ih58 =>
            intro S56 hf
            replace hf : F_X9_token_81 Z a0 j55 (m_fx (F_X9_token_81 Z a0 j55) fu59) S56 = some (rZ9, SZ9) := hf
            unfold F_X9_token_81 at hf
            refine r_aload_n (q := 82) C 0 dX9_token_81 rfl rfl ?_
            refine r_aload_n (q := 83) C 0 dX9_token_82 rfl rfl ?_
            refine gf_X9_101 (q := 86) C dX9_token_83 g2 rfl ?_
            obtain ⟨v62, h61, hf⟩ := m_b1_of hf
            refine r_callV (mc := 0) (ms := 0) (q := 89) (st1 := [.int v62]) C (c_X9_at hl h61) rfl w_1041 w_1042 w_1335 w_11 w_1043 hd_X9_at rfl (by decide) g2 rfl rfl rfl ⟨(Nat.le_of_ble_eq_true rfl), (Nat.le_of_ble_eq_true rfl)⟩ (Nat.le_of_ble_eq_true rfl) ⟨(Nat.le_of_ble_eq_true rfl), (Nat.le_of_ble_eq_true rfl)⟩ dX9_token_86 rfl rfl ?_
            obtain ⟨v64, h63, hf⟩ := m_b1_of hf
            refine r_callS (mc := 0) (ms := 0) (q := 92) (st1 := [.int v64]) C (c_X9_isLetter hl h63) rfl w_1044 w_1045 w_11 w_1046 hd_X9_isLetter rfl rfl rfl ⟨(Nat.le_of_ble_eq_true rfl), (Nat.le_of_ble_eq_true rfl)⟩ (Nat.le_of_ble_eq_true rfl) ⟨(Nat.le_of_ble_eq_true rfl), (Nat.le_of_ble_eq_true rfl)⟩ dX9_token_89 rfl rfl ?_
            refine r_if_eq (t := 148) (q := 95) C dX9_token_92 (by decide) rfl (fun c65 => ?_) (fun c65 => ?_)
            · replace hf := m_if1 hf c65
              exact J55 S56 hf
            · replace hf := m_if0 hf c65
              refine r_aload_n (q := 96) C 0 dX9_token_95 rfl rfl ?_
              refine gf_X9_101 (q := 99) C dX9_token_96 g2 rfl ?_
              refine r_aload_n (q := 100) C 0 dX9_token_99 rfl rfl ?_
              refine gf_X9_108 (q := 103) C dX9_token_100 g2 rfl ?_
              refine r_isub (q := 104) C dX9_token_103 rfl ?_
              refine r_bipush (q := 106) (v := (8 : Int32)) C dX9_token_104 (by decide) rfl ?_
              refine r_icmp_ge (t := 135) (q := 109) C dX9_token_106 (by decide) rfl (fun c66 => ?_) (fun c66 => ?_)
              · replace hf := m_if1 hf c66
                refine r_aload_n (q := 136) C 0 dX9_token_135 rfl rfl ?_
                refine r_dup (q := 137) C dX9_token_136 rfl rfl ?_
                refine gf_X9_101 (q := 140) C dX9_token_137 g2 rfl ?_
                refine r_iconst (q := 141) (v := (1 : Int32)) C dX9_token_140 (by decide) rfl ?_
                refine r_iadd (q := 142) C dX9_token_141 rfl ?_
                obtain ⟨S67, e68, hf⟩ := m_lt_of hf
                refine pf_X9_101 (q := 145) C dX9_token_142 g2 e68 rfl ?_
                refine r_goto (t := 81) C dX9_token_145 (by decide) ?_
                exact ih58 S67 hf
              · replace hf := m_if0 hf c66
                refine r_aload_n (q := 110) C 0 dX9_token_109 rfl rfl ?_
                refine r_ldc2 (q := 113) C dX9_token_110 w_1047 rfl ?_
                refine r_aload_n (q := 114) C 0 dX9_token_113 rfl rfl ?_
                refine gf_X9_118 (q := 117) C dX9_token_114 g2 rfl ?_
                refine r_lmul (q := 118) C dX9_token_117 rfl ?_
                refine r_aload_n (q := 119) C 0 dX9_token_118 rfl rfl ?_
                refine r_aload_n (q := 120) C 0 dX9_token_119 rfl rfl ?_
                refine gf_X9_101 (q := 123) C dX9_token_120 g2 rfl ?_
                obtain ⟨v70, h69, hf⟩ := m_b1_of hf
                refine r_callV (mc := 0) (ms := 0) (q := 126) (st1 := [.int v70, .long ((27 : Int64) * (S56.2.1 a0 20)), .ref a0]) C (c_X9_at hl h69) rfl w_1041 w_1042 w_1335 w_11 w_1043 hd_X9_at rfl (by decide) g2 rfl rfl rfl ⟨(Nat.le_of_ble_eq_true rfl), (Nat.le_of_ble_eq_true rfl)⟩ (Nat.le_of_ble_eq_true rfl) ⟨(Nat.le_of_ble_eq_true rfl), (Nat.le_of_ble_eq_true rfl)⟩ dX9_token_123 rfl rfl ?_
                refine r_i2l (q := 127) C dX9_token_126 rfl ?_
                refine r_ladd (q := 128) C dX9_token_127 rfl ?_
                refine r_ldc2 (q := 131) C dX9_token_128 w_1048 rfl ?_
                refine r_lsub (q := 132) C dX9_token_131 rfl ?_
                obtain ⟨S71, e72, hf⟩ := m_lt_of hf
                refine pf_X9_118 (q := 135) C dX9_token_132 g2 e72 rfl ?_
                refine r_aload_n (q := 136) C 0 dX9_token_135 rfl rfl ?_
                refine r_dup (q := 137) C dX9_token_136 rfl rfl ?_
                refine gf_X9_101 (q := 140) C dX9_token_137 g2 rfl ?_
                refine r_iconst (q := 141) (v := (1 : Int32)) C dX9_token_140 (by decide) rfl ?_
                refine r_iadd (q := 142) C dX9_token_141 rfl ?_
                obtain ⟨S73, e74, hf⟩ := m_lt_of hf
                refine pf_X9_101 (q := 145) C dX9_token_142 g2 e74 rfl ?_
                refine r_goto (t := 81) C dX9_token_145 (by decide) ?_
                exact ih58 S73 hf
        refine r_sub [1] rfl ?_
        exact LL60 100000 S50 hf
    · replace hf := m_if0 hf (fun z => z c7)
      refine r_aload_n (q := 62) C 1 dX9_token_61 rfl rfl ?_
      refine r_iconst (q := 63) (v := (0 : Int32)) C dX9_token_62 (by decide) rfl ?_
      obtain ⟨S76, e77, hf⟩ := m_lt_of hf
      refine pf_X9_111 (q := 66) C dX9_token_63 g2 e77 rfl ?_
      refine r_goto (t := 281) C dX9_token_66 (by decide) ?_
      obtain ⟨rfl, rfl⟩ := m_so2 hf
      exact r_vret C F dX9_token_281
  have LL83 : ∀ (fu82 : Nat) (S79 : m_S), m_fx (F_X9_token_0 Z a0 j78) fu82 S79 = some (rZ9, SZ9) → m_G x Z S79 2 0 0 0 [(0, .ref a0)] [] := by
    intro fu82
    induction fu82 with
    | zero => intros; rename_i hf; cases hf
    | succ fu82 ih81 =>
      intro S79 hf
      replace hf : F_X9_token_0 Z a0 j78 (m_fx (F_X9_token_0 Z a0 j78) fu82) S79 = some (rZ9, SZ9) := hf
      unfold F_X9_token_0 at hf
      refine r_aload_n (q := 1) C 0 dX9_token_0 rfl rfl ?_
      refine r_aload_n (q := 2) C 0 dX9_token_1 rfl rfl ?_
      obtain ⟨g84, hf⟩ := m_gd_of hf
      refine gf_X9_101 (q := 5) C dX9_token_2 g84 rfl ?_
      obtain ⟨v86, h85, hf⟩ := m_b1_of hf
      refine r_callV (mc := 0) (ms := 0) (q := 8) (st1 := [.int v86]) C (c_X9_at hl h85) rfl w_1041 w_1042 w_1335 w_11 w_1043 hd_X9_at rfl (by decide) g84 rfl rfl rfl ⟨(Nat.le_of_ble_eq_true rfl), (Nat.le_of_ble_eq_true rfl)⟩ (Nat.le_of_ble_eq_true rfl) ⟨(Nat.le_of_ble_eq_true rfl), (Nat.le_of_ble_eq_true rfl)⟩ dX9_token_5 rfl rfl ?_
      refine r_bipush (q := 10) (v := (10 : Int32)) C dX9_token_8 (by decide) rfl ?_
      refine r_icmp_eq (t := 26) (q := 13) C dX9_token_10 (by decide) rfl (fun c87 => ?_) (fun c87 => ?_)
      · replace hf := m_if1 hf c87
        refine r_aload_n (q := 27) C 0 dX9_token_26 rfl rfl ?_
        refine r_dup (q := 28) C dX9_token_27 rfl rfl ?_
        refine gf_X9_101 (q := 31) C dX9_token_28 g84 rfl ?_
        refine r_iconst (q := 32) (v := (1 : Int32)) C dX9_token_31 (by decide) rfl ?_
        refine r_iadd (q := 33) C dX9_token_32 rfl ?_
        obtain ⟨S88, e89, hf⟩ := m_lt_of hf
        refine pf_X9_101 (q := 36) C dX9_token_33 g84 e89 rfl ?_
        refine r_goto (t := 0) C dX9_token_36 (by decide) ?_
        exact ih81 S88 hf
      · replace hf := m_if0 hf c87
        refine r_aload_n (q := 14) C 0 dX9_token_13 rfl rfl ?_
        refine r_aload_n (q := 15) C 0 dX9_token_14 rfl rfl ?_
        refine gf_X9_101 (q := 18) C dX9_token_15 g84 rfl ?_
        obtain ⟨v91, h90, hf⟩ := m_b1_of hf
        refine r_callV (mc := 0) (ms := 0) (q := 21) (st1 := [.int v91]) C (c_X9_at hl h90) rfl w_1041 w_1042 w_1335 w_11 w_1043 hd_X9_at rfl (by decide) g84 rfl rfl rfl ⟨(Nat.le_of_ble_eq_true rfl), (Nat.le_of_ble_eq_true rfl)⟩ (Nat.le_of_ble_eq_true rfl) ⟨(Nat.le_of_ble_eq_true rfl), (Nat.le_of_ble_eq_true rfl)⟩ dX9_token_18 rfl rfl ?_
        refine r_bipush (q := 23) (v := (32 : Int32)) C dX9_token_21 (by decide) rfl ?_
        refine r_icmp_ne (t := 39) (q := 26) C dX9_token_23 (by decide) rfl (fun c92 => ?_) (fun c92 => ?_)
        · replace hf := m_if1 hf c92
          exact J78 S79 hf
        · replace hf := m_if0 hf (fun z => z c92)
          refine r_aload_n (q := 27) C 0 dX9_token_26 rfl rfl ?_
          refine r_dup (q := 28) C dX9_token_27 rfl rfl ?_
          refine gf_X9_101 (q := 31) C dX9_token_28 g84 rfl ?_
          refine r_iconst (q := 32) (v := (1 : Int32)) C dX9_token_31 (by decide) rfl ?_
          refine r_iadd (q := 33) C dX9_token_32 rfl ?_
          obtain ⟨S93, e94, hf⟩ := m_lt_of hf
          refine pf_X9_101 (q := 36) C dX9_token_33 g84 e94 rfl ?_
          refine r_goto (t := 0) C dX9_token_36 (by decide) ?_
          exact ih81 S93 hf
  exact LL83 100000 S hf
def f_X9_begins (Z : m_Z) (S : m_S) (a0 : Nat) (p1 : Int32) (p2 : Int32) : Option (Int32 × m_S) := m_gd (m_ok Z a0 9) (m_b1 (S.2.2 a0 2) (fun b2 => m_gd (m_ok Z b2 11) (m_gd (m_in p1 (Z.2.2 b2)) (m_jp (fun (S7 : m_S) => m_b1 (f_X9_isWrong Z S7 a0) (fun v9 => (if ¬ v9 = 0 then m_b1 (f_X9_isWrong Z S7 a0) (fun v12 => (if ¬ v12 = 0 then some ((0 : Int32), S7) else some ((1 : Int32), S7))) else m_bw (f_X9_token Z S7 a0) (fun _u S15 => m_b1 (f_X9_isWrong Z S15 a0) (fun v17 => (if ¬ v17 = 0 then some ((0 : Int32), S15) else some ((1 : Int32), S15))))))) (fun j6 => (if ¬ (S.1 b2 p1.toNatClampNeg) = p2 then j6 S else m_bw (f_X9_fails Z S a0 (4 : Int32)) (fun _u S21 => j6 S21)))))))
abbrev rm_X9_begins : Room := { frames := 2, cells := 0, slots := 0, locals := 42 }
theorem hd_X9_begins : yX9_begins.cls = RX9 ∧ yX9_begins.cls ≠ "java/lang/invoke/MethodHandle" ∧ yX9_begins.cls ≠ "java/lang/invoke/VarHandle" ∧ (parseMethodDescriptor yX9_begins.desc).map (fun d => d.parameters.length) = some 2 := by decide +kernel
set_option maxHeartbeats 4000000 in
set_option maxRecDepth 100000 in
theorem c_X9_begins {l : Launch} (hl : l.stackTraces = false) {Z : m_Z} {S : m_S} {a0 : Nat} {p1 : Int32} {p2 : Int32} {rZ9 : Int32} {SZ9 : m_S} (hf : f_X9_begins Z S a0 p1 p2 = some (rZ9, SZ9)) : m_Ct l yX9_begins (.code yX9_begins cX9_begins 3 (some .boolean) :: m_ws) rm_X9_begins (fun f => [.ref a0, .int p1, .int p2]) Z S (some (.int rZ9)) SZ9 := by
  unfold f_X9_begins at hf
  refine m_ent hl (by decide) (fun _ => Nat.le_of_ble_eq_true rfl) (fun x C F => ?_)
  have C : m_H x l RX9 cX9_begins 3 rm_X9_begins := C
  show m_G x Z S 3 0 0 0 [(0, .ref a0), (1, .int p1), (2, .int p2)] []
  refine r_aload_n (q := 1) C 0 dX9_begins_0 rfl rfl ?_
  obtain ⟨g1, hf⟩ := m_gd_of hf
  obtain ⟨b2, e3, hf⟩ := m_b1_of hf
  refine gf_X9_13 (q := 4) C dX9_begins_1 g1 e3 rfl ?_
  refine r_iload_n (q := 5) C 1 dX9_begins_4 rfl rfl ?_
  obtain ⟨g4, hf⟩ := m_gd_of hf
  obtain ⟨g5, hf⟩ := m_gd_of hf
  refine r_iald (q := 6) C dX9_begins_5 ⟨g4, g5⟩ rfl ?_
  refine r_iload_n (q := 7) C 2 dX9_begins_6 rfl rfl ?_
  obtain ⟨j6, ej6, hf⟩ := m_jp_of hf
  have J6 : ∀ (S7 : m_S), j6 S7 = some (rZ9, SZ9) → m_G x Z S7 3 0 0 15 [(0, .ref a0)] [] := by
    intro S7 hf
    rw [ej6] at hf
    refine r_aload_n (q := 16) C 0 dX9_begins_15 rfl rfl ?_
    obtain ⟨v9, h8, hf⟩ := m_b1_of hf
    refine r_callV (mc := 0) (ms := 0) (q := 19) (st1 := [.int v9]) C (c_X9_isWrong hl h8) rfl w_1061 w_1062 w_1339 w_11 w_1063 hd_X9_isWrong rfl (by decide) g1 rfl rfl rfl ⟨(Nat.le_of_ble_eq_true rfl), (Nat.le_of_ble_eq_true rfl)⟩ (Nat.le_of_ble_eq_true rfl) ⟨(Nat.le_of_ble_eq_true rfl), (Nat.le_of_ble_eq_true rfl)⟩ dX9_begins_16 rfl rfl ?_
    refine r_if_ne (t := 26) (q := 22) C dX9_begins_19 (by decide) rfl (fun c10 => ?_) (fun c10 => ?_)
    · replace hf := m_if1 hf c10
      refine r_aload_n (q := 27) C 0 dX9_begins_26 rfl rfl ?_
      obtain ⟨v12, h11, hf⟩ := m_b1_of hf
      refine r_callV (mc := 0) (ms := 0) (q := 30) (st1 := [.int v12]) C (c_X9_isWrong hl h11) rfl w_1061 w_1062 w_1339 w_11 w_1063 hd_X9_isWrong rfl (by decide) g1 rfl rfl rfl ⟨(Nat.le_of_ble_eq_true rfl), (Nat.le_of_ble_eq_true rfl)⟩ (Nat.le_of_ble_eq_true rfl) ⟨(Nat.le_of_ble_eq_true rfl), (Nat.le_of_ble_eq_true rfl)⟩ dX9_begins_27 rfl rfl ?_
      refine r_if_ne (t := 37) (q := 33) C dX9_begins_30 (by decide) rfl (fun c13 => ?_) (fun c13 => ?_)
      · replace hf := m_if1 hf c13
        refine r_iconst (q := 38) (v := (0 : Int32)) C dX9_begins_37 (by decide) rfl ?_
        obtain ⟨rfl, rfl⟩ := m_so2 hf
        exact r_zret C F (by decide) dX9_begins_38
      · replace hf := m_if0 hf (fun z => z c13)
        refine r_iconst (q := 34) (v := (1 : Int32)) C dX9_begins_33 (by decide) rfl ?_
        refine r_goto (t := 38) C dX9_begins_34 (by decide) ?_
        obtain ⟨rfl, rfl⟩ := m_so2 hf
        exact r_zret C F (by decide) dX9_begins_38
    · replace hf := m_if0 hf (fun z => z c10)
      refine r_aload_n (q := 23) C 0 dX9_begins_22 rfl rfl ?_
      obtain ⟨_u, S15, h14, hf⟩ := m_bw_of hf
      refine r_callV (mc := 0) (ms := 0) (q := 26) (st1 := []) C (c_X9_token hl h14) rfl w_1038 w_1039 w_1334 w_11 w_1040 hd_X9_token rfl (by decide) g1 rfl rfl rfl ⟨(Nat.le_of_ble_eq_true rfl), (Nat.le_of_ble_eq_true rfl)⟩ (Nat.le_of_ble_eq_true rfl) ⟨(Nat.le_of_ble_eq_true rfl), (Nat.le_of_ble_eq_true rfl)⟩ dX9_begins_23 rfl rfl ?_
      refine r_aload_n (q := 27) C 0 dX9_begins_26 rfl rfl ?_
      obtain ⟨v17, h16, hf⟩ := m_b1_of hf
      refine r_callV (mc := 0) (ms := 0) (q := 30) (st1 := [.int v17]) C (c_X9_isWrong hl h16) rfl w_1061 w_1062 w_1339 w_11 w_1063 hd_X9_isWrong rfl (by decide) g1 rfl rfl rfl ⟨(Nat.le_of_ble_eq_true rfl), (Nat.le_of_ble_eq_true rfl)⟩ (Nat.le_of_ble_eq_true rfl) ⟨(Nat.le_of_ble_eq_true rfl), (Nat.le_of_ble_eq_true rfl)⟩ dX9_begins_27 rfl rfl ?_
      refine r_if_ne (t := 37) (q := 33) C dX9_begins_30 (by decide) rfl (fun c18 => ?_) (fun c18 => ?_)
      · replace hf := m_if1 hf c18
        refine r_iconst (q := 38) (v := (0 : Int32)) C dX9_begins_37 (by decide) rfl ?_
        obtain ⟨rfl, rfl⟩ := m_so2 hf
        exact r_zret C F (by decide) dX9_begins_38
      · replace hf := m_if0 hf (fun z => z c18)
        refine r_iconst (q := 34) (v := (1 : Int32)) C dX9_begins_33 (by decide) rfl ?_
        refine r_goto (t := 38) C dX9_begins_34 (by decide) ?_
        obtain ⟨rfl, rfl⟩ := m_so2 hf
        exact r_zret C F (by decide) dX9_begins_38
  refine r_icmp_ne (t := 15) (q := 10) C dX9_begins_7 (by decide) rfl (fun c19 => ?_) (fun c19 => ?_)
  · replace hf := m_if1 hf c19
    refine r_sub [0] rfl ?_
    exact J6 S hf
  · replace hf := m_if0 hf (fun z => z c19)
    refine r_aload_n (q := 11) C 0 dX9_begins_10 rfl rfl ?_
    refine r_iconst (q := 12) (v := (4 : Int32)) C dX9_begins_11 (by decide) rfl ?_
    obtain ⟨_u, S21, h20, hf⟩ := m_bw_of hf
    refine r_callV (mc := 0) (ms := 0) (q := 15) (st1 := []) C (c_X9_fails hl h20) rfl w_1066 w_1067 w_1340 w_11 w_1068 hd_X9_fails rfl (by decide) g1 rfl rfl rfl ⟨(Nat.le_of_ble_eq_true rfl), (Nat.le_of_ble_eq_true rfl)⟩ (Nat.le_of_ble_eq_true rfl) ⟨(Nat.le_of_ble_eq_true rfl), (Nat.le_of_ble_eq_true rfl)⟩ dX9_begins_12 rfl rfl ?_
    refine r_sub [0] rfl ?_
    exact J6 S21 hf
def F_X9_finds_19 (Z : m_Z) (a0 : Nat) (p1 : Int32) (v7 : Int32) (j21 : (m_S → Option (Int32 × m_S))) (lp24 : (Int32 × m_S) → Option (Int32 × m_S)) (p42 : (Int32 × m_S)) : Option (Int32 × m_S) := match p42 with
  | (v22, S23) => m_b1 (f_X9_of Z S23 a0 v7 (4 : Int32)) (fun v29 => (if v29 ≤ v22 then j21 S23 else m_b1 (f_X9_its Z S23 a0 v7 v22 (0 : Int32)) (fun v32 => (if v32 = p1 then m_lt (m_pI S23 a0 23 v7) (fun S34 => m_lt (m_pI S34 a0 24 v22) (fun S36 => m_lt (v22 + (1 : Int32)) (fun v38 => lp24 (v38, S36)))) else m_lt (v22 + (1 : Int32)) (fun v40 => lp24 (v40, S23))))))
def F_X9_finds_7 (Z : m_Z) (a0 : Nat) (p1 : Int32) (j6 : (m_S → Option (Int32 × m_S))) (lp9 : (Int32 × m_S) → Option (Int32 × m_S)) (p43 : (Int32 × m_S)) : Option (Int32 × m_S) := match p43 with
  | (v7, S8) => m_b1 (S8.2.2 a0 1) (fun b13 => m_gd (m_ok Z b13 11) (m_gd (m_in (5 : Int32) (Z.2.2 b13)) ((if (S8.1 b13 (5 : Int32).toNatClampNeg) ≤ v7 then j6 S8 else m_jp (fun (S18 : m_S) => m_lt (v7 + (1 : Int32)) (fun v19 => lp9 (v19, S18))) (fun j21 => m_fx (F_X9_finds_19 Z a0 p1 v7 j21) 100000 ((0 : Int32), S8))))))
def f_X9_finds (Z : m_Z) (S : m_S) (a0 : Nat) (p1 : Int32) : Option (Int32 × m_S) := m_gd (m_ok Z a0 9) (m_lt (m_pI S a0 23 (-1 : Int32)) (fun S2 => m_jp (fun (S4 : m_S) => (if (S4.1 a0 23) = (-1 : Int32) then some ((0 : Int32), S4) else some ((1 : Int32), S4))) (fun j6 => m_fx (F_X9_finds_7 Z a0 p1 j6) 100000 ((0 : Int32), S2))))
abbrev rm_X9_finds : Room := { frames := 1, cells := 0, slots := 0, locals := 23 }
theorem hd_X9_finds : yX9_finds.cls = RX9 ∧ yX9_finds.cls ≠ "java/lang/invoke/MethodHandle" ∧ yX9_finds.cls ≠ "java/lang/invoke/VarHandle" ∧ (parseMethodDescriptor yX9_finds.desc).map (fun d => d.parameters.length) = some 1 := by decide +kernel
set_option maxHeartbeats 4000000 in
set_option maxRecDepth 100000 in
theorem c_X9_finds {l : Launch} (hl : l.stackTraces = false) {Z : m_Z} {S : m_S} {a0 : Nat} {p1 : Int32} {rZ9 : Int32} {SZ9 : m_S} (hf : f_X9_finds Z S a0 p1 = some (rZ9, SZ9)) : m_Ct l yX9_finds (.code yX9_finds cX9_finds 4 (some .boolean) :: m_ws) rm_X9_finds (fun f => [.ref a0, .int p1]) Z S (some (.int rZ9)) SZ9 := by
  unfold f_X9_finds at hf
  refine m_ent hl (by decide) (fun _ => Nat.le_of_ble_eq_true rfl) (fun x C F => ?_)
  have C : m_H x l RX9 cX9_finds 4 rm_X9_finds := C
  show m_G x Z S 4 0 0 0 [(0, .ref a0), (1, .int p1)] []
  refine r_aload_n (q := 1) C 0 dX9_finds_0 rfl rfl ?_
  refine r_iconst (q := 2) (v := (-1 : Int32)) C dX9_finds_1 (by decide) rfl ?_
  obtain ⟨g1, hf⟩ := m_gd_of hf
  obtain ⟨S2, e3, hf⟩ := m_lt_of hf
  refine pf_X9_252 (q := 5) C dX9_finds_2 g1 e3 rfl ?_
  refine r_iconst (q := 6) (v := (0 : Int32)) C dX9_finds_5 (by decide) rfl ?_
  refine r_istore_n (q := 7) (L' := [(2, .int (0 : Int32)), (0, .ref a0), (1, .int p1)]) C dX9_finds_6 rfl rfl (by decide) rfl ?_
  obtain ⟨j6, ej6, hf⟩ := m_jp_of hf
  have J6 : ∀ (S4 : m_S), j6 S4 = some (rZ9, SZ9) → m_G x Z S4 4 0 0 65 [(0, .ref a0)] [] := by
    intro S4 hf
    rw [ej6] at hf
    refine r_aload_n (q := 66) C 0 dX9_finds_65 rfl rfl ?_
    refine gf_X9_252 (q := 69) C dX9_finds_66 g1 rfl ?_
    refine r_iconst (q := 70) (v := (-1 : Int32)) C dX9_finds_69 (by decide) rfl ?_
    refine r_icmp_eq (t := 77) (q := 73) C dX9_finds_70 (by decide) rfl (fun c5 => ?_) (fun c5 => ?_)
    · replace hf := m_if1 hf c5
      refine r_iconst (q := 78) (v := (0 : Int32)) C dX9_finds_77 (by decide) rfl ?_
      obtain ⟨rfl, rfl⟩ := m_so2 hf
      exact r_zret C F (by decide) dX9_finds_78
    · replace hf := m_if0 hf c5
      refine r_iconst (q := 74) (v := (1 : Int32)) C dX9_finds_73 (by decide) rfl ?_
      refine r_goto (t := 78) C dX9_finds_74 (by decide) ?_
      obtain ⟨rfl, rfl⟩ := m_so2 hf
      exact r_zret C F (by decide) dX9_finds_78
  have LL12 : ∀ (fu11 : Nat) (v7 : Int32) (S8 : m_S), m_fx (F_X9_finds_7 Z a0 p1 j6) fu11 (v7, S8) = some (rZ9, SZ9) → m_G x Z S8 4 0 0 7 [(0, .ref a0), (1, .int p1), (2, .int v7)] [] := by
    intro fu11
    induction fu11 with
    | zero => intros; rename_i hf; cases hf
    | succ fu11 ih10 =>
      intro v7 S8 hf
      replace hf : F_X9_finds_7 Z a0 p1 j6 (m_fx (F_X9_finds_7 Z a0 p1 j6) fu11) (v7, S8) = some (rZ9, SZ9) := hf
      unfold F_X9_finds_7 at hf
      dsimp only at hf
      refine r_iload_n (q := 8) C 2 dX9_finds_7 rfl rfl ?_
      refine r_aload_n (q := 9) C 0 dX9_finds_8 rfl rfl ?_
      obtain ⟨b13, e14, hf⟩ := m_b1_of hf
      refine gf_X9_7 (q := 12) C dX9_finds_9 g1 e14 rfl ?_
      refine r_iconst (q := 13) (v := (5 : Int32)) C dX9_finds_12 (by decide) rfl ?_
      obtain ⟨g15, hf⟩ := m_gd_of hf
      obtain ⟨g16, hf⟩ := m_gd_of hf
      refine r_iald (q := 14) C dX9_finds_13 ⟨g15, g16⟩ rfl ?_
      refine r_icmp_ge (t := 65) (q := 17) C dX9_finds_14 (by decide) rfl (fun c17 => ?_) (fun c17 => ?_)
      · replace hf := m_if1 hf c17
        refine r_sub [0] rfl ?_
        exact J6 S8 hf
      · replace hf := m_if0 hf c17
        refine r_iconst (q := 18) (v := (0 : Int32)) C dX9_finds_17 (by decide) rfl ?_
        refine r_istore_n (q := 19) (L' := [(3, .int (0 : Int32)), (0, .ref a0), (1, .int p1), (2, .int v7)]) C dX9_finds_18 rfl rfl (by decide) rfl ?_
        obtain ⟨j21, ej21, hf⟩ := m_jp_of hf
        have J21 : ∀ (S18 : m_S), j21 S18 = some (rZ9, SZ9) → m_G x Z S18 4 0 0 59 [(0, .ref a0), (1, .int p1), (2, .int v7)] [] := by
          intro S18 hf
          rw [ej21] at hf
          obtain ⟨v19, e20, hf⟩ := m_lt_of hf
          refine r_iinc (q := 62) (v := v19) (L' := [(2, .int v19), (0, .ref a0), (1, .int p1)]) C 2 dX9_finds_59 rfl (by rw [e20]; rfl) rfl (by decide) rfl ?_
          refine r_goto (t := 7) C dX9_finds_62 (by decide) ?_
          refine r_sub [1, 2, 0] rfl ?_
          exact ih10 v19 S18 hf
        have LL27 : ∀ (fu26 : Nat) (v22 : Int32) (S23 : m_S), m_fx (F_X9_finds_19 Z a0 p1 v7 j21) fu26 (v22, S23) = some (rZ9, SZ9) → m_G x Z S23 4 0 0 19 [(0, .ref a0), (1, .int p1), (2, .int v7), (3, .int v22)] [] := by
          intro fu26
          induction fu26 with
          | zero => intros; rename_i hf; cases hf
          | succ fu26 ih25 =>
            intro v22 S23 hf
            replace hf : F_X9_finds_19 Z a0 p1 v7 j21 (m_fx (F_X9_finds_19 Z a0 p1 v7 j21) fu26) (v22, S23) = some (rZ9, SZ9) := hf
            unfold F_X9_finds_19 at hf
            dsimp only at hf
            refine r_iload_n (q := 20) C 3 dX9_finds_19 rfl rfl ?_
            refine r_aload_n (q := 21) C 0 dX9_finds_20 rfl rfl ?_
            refine r_iload_n (q := 22) C 2 dX9_finds_21 rfl rfl ?_
            refine r_iconst (q := 23) (v := (4 : Int32)) C dX9_finds_22 (by decide) rfl ?_
            obtain ⟨v29, h28, hf⟩ := m_b1_of hf
            refine r_callV (mc := 0) (ms := 0) (q := 26) (st1 := [.int v29, .int v22]) C (c_X9_of hl h28) rfl w_937 w_938 w_1325 w_11 w_939 hd_X9_of rfl (by decide) g1 rfl rfl rfl ⟨(Nat.le_of_ble_eq_true rfl), (Nat.le_of_ble_eq_true rfl)⟩ (Nat.le_of_ble_eq_true rfl) ⟨(Nat.le_of_ble_eq_true rfl), (Nat.le_of_ble_eq_true rfl)⟩ dX9_finds_23 rfl rfl ?_
            refine r_icmp_ge (t := 59) (q := 29) C dX9_finds_26 (by decide) rfl (fun c30 => ?_) (fun c30 => ?_)
            · replace hf := m_if1 hf c30
              refine r_sub [0, 1, 2] rfl ?_
              exact J21 S23 hf
            · replace hf := m_if0 hf c30
              refine r_aload_n (q := 30) C 0 dX9_finds_29 rfl rfl ?_
              refine r_iload_n (q := 31) C 2 dX9_finds_30 rfl rfl ?_
              refine r_iload_n (q := 32) C 3 dX9_finds_31 rfl rfl ?_
              refine r_iconst (q := 33) (v := (0 : Int32)) C dX9_finds_32 (by decide) rfl ?_
              obtain ⟨v32, h31, hf⟩ := m_b1_of hf
              refine r_callV (mc := 0) (ms := 0) (q := 36) (st1 := [.int v32]) C (c_X9_its hl h31) rfl w_940 w_941 w_1326 w_11 w_942 hd_X9_its rfl (by decide) g1 rfl rfl rfl ⟨(Nat.le_of_ble_eq_true rfl), (Nat.le_of_ble_eq_true rfl)⟩ (Nat.le_of_ble_eq_true rfl) ⟨(Nat.le_of_ble_eq_true rfl), (Nat.le_of_ble_eq_true rfl)⟩ dX9_finds_33 rfl rfl ?_
              refine r_iload_n (q := 37) C 1 dX9_finds_36 rfl rfl ?_
              refine r_icmp_eq (t := 43) (q := 40) C dX9_finds_37 (by decide) rfl (fun c33 => ?_) (fun c33 => ?_)
              · replace hf := m_if1 hf c33
                refine r_aload_n (q := 44) C 0 dX9_finds_43 rfl rfl ?_
                refine r_iload_n (q := 45) C 2 dX9_finds_44 rfl rfl ?_
                obtain ⟨S34, e35, hf⟩ := m_lt_of hf
                refine pf_X9_252 (q := 48) C dX9_finds_45 g1 e35 rfl ?_
                refine r_aload_n (q := 49) C 0 dX9_finds_48 rfl rfl ?_
                refine r_iload_n (q := 50) C 3 dX9_finds_49 rfl rfl ?_
                obtain ⟨S36, e37, hf⟩ := m_lt_of hf
                refine pf_X9_255 (q := 53) C dX9_finds_50 g1 e37 rfl ?_
                obtain ⟨v38, e39, hf⟩ := m_lt_of hf
                refine r_iinc (q := 56) (v := v38) (L' := [(3, .int v38), (0, .ref a0), (1, .int p1), (2, .int v7)]) C 3 dX9_finds_53 rfl (by rw [e39]; rfl) rfl (by decide) rfl ?_
                refine r_goto (t := 19) C dX9_finds_56 (by decide) ?_
                refine r_sub [1, 2, 3, 0] rfl ?_
                exact ih25 v38 S36 hf
              · replace hf := m_if0 hf c33
                refine r_goto (t := 53) C dX9_finds_40 (by decide) ?_
                obtain ⟨v40, e41, hf⟩ := m_lt_of hf
                refine r_iinc (q := 56) (v := v40) (L' := [(3, .int v40), (0, .ref a0), (1, .int p1), (2, .int v7)]) C 3 dX9_finds_53 rfl (by rw [e41]; rfl) rfl (by decide) rfl ?_
                refine r_goto (t := 19) C dX9_finds_56 (by decide) ?_
                refine r_sub [1, 2, 3, 0] rfl ?_
                exact ih25 v40 S23 hf
        refine r_sub [1, 2, 3, 0] rfl ?_
        exact LL27 100000 (0 : Int32) S8 hf
  refine r_sub [1, 2, 0] rfl ?_
  exact LL12 100000 (0 : Int32) S2 hf
def F_X9_setsAside_29 (Z : m_Z) (a0 : Nat) (j3 : (m_S → Option (Unit × m_S))) (lp6 : (Int32 × m_S) → Option (Unit × m_S)) (p24 : (Int32 × m_S)) : Option (Unit × m_S) := match p24 with
  | (v4, S5) => (if (30 : Int32) ≤ v4 then j3 S5 else m_gd (m_ok Z a0 9) (m_b1 (S5.2.2 a0 8) (fun b12 => m_b1 (S5.2.2 a0 7) (fun b14 => m_gd (m_ok Z b14 12) (m_gd (m_in v4 (Z.2.2 b14)) (m_gd (m_ok Z b12 12) (m_gd (m_in v4 (Z.2.2 b12)) (m_lt (m_pJ S5 b12 v4.toNatClampNeg (S5.2.1 b14 v4.toNatClampNeg)) (fun S20 => m_lt (v4 + (1 : Int32)) (fun v22 => lp6 (v22, S20)))))))))))
def F_X9_setsAside_2 (Z : m_Z) (a0 : Nat) (j25 : (m_S → Option (Unit × m_S))) (lp28 : (Int32 × m_S) → Option (Unit × m_S)) (p46 : (Int32 × m_S)) : Option (Unit × m_S) := match p46 with
  | (v26, S27) => (if (340 : Int32) ≤ v26 then j25 S27 else m_gd (m_ok Z a0 9) (m_b1 (S27.2.2 a0 4) (fun b34 => m_b1 (S27.2.2 a0 3) (fun b36 => m_gd (m_ok Z b36 11) (m_gd (m_in v26 (Z.2.2 b36)) (m_gd (m_ok Z b34 11) (m_gd (m_in v26 (Z.2.2 b34)) (m_lt (m_pI S27 b34 v26.toNatClampNeg (S27.1 b36 v26.toNatClampNeg)) (fun S42 => m_lt (v26 + (1 : Int32)) (fun v44 => lp28 (v44, S42)))))))))))
def f_X9_setsAside (Z : m_Z) (S : m_S) (a0 : Nat) : Option (Unit × m_S) := m_jp (fun (S1 : m_S) => m_jp (fun (S2 : m_S) => some ((), S2)) (fun j3 => m_fx (F_X9_setsAside_29 Z a0 j3) 100000 ((0 : Int32), S1))) (fun j25 => m_fx (F_X9_setsAside_2 Z a0 j25) 100000 ((0 : Int32), S))
abbrev rm_X9_setsAside : Room := { frames := 0, cells := 0, slots := 0, locals := 0 }
theorem hd_X9_setsAside : yX9_setsAside.cls = RX9 ∧ yX9_setsAside.cls ≠ "java/lang/invoke/MethodHandle" ∧ yX9_setsAside.cls ≠ "java/lang/invoke/VarHandle" ∧ (parseMethodDescriptor yX9_setsAside.desc).map (fun d => d.parameters.length) = some 0 := by decide +kernel
set_option maxHeartbeats 4000000 in
set_option maxRecDepth 100000 in
theorem c_X9_setsAside {l : Launch} (hl : l.stackTraces = false) {Z : m_Z} {S : m_S} {a0 : Nat} {rZ9 : Unit} {SZ9 : m_S} (hf : f_X9_setsAside Z S a0 = some (rZ9, SZ9)) : m_Ct l yX9_setsAside (.code yX9_setsAside cX9_setsAside 2 none :: m_ws) rm_X9_setsAside (fun f => [.ref a0]) Z S (none) SZ9 := by
  unfold f_X9_setsAside at hf
  refine m_ent hl (by decide) (fun _ => Nat.le_of_ble_eq_true rfl) (fun x C F => ?_)
  have C : m_H x l RX9 cX9_setsAside 2 rm_X9_setsAside := C
  show m_G x Z S 2 0 0 0 [(0, .ref a0)] []
  refine r_iconst (q := 1) (v := (0 : Int32)) C dX9_setsAside_0 (by decide) rfl ?_
  refine r_istore_n (q := 2) (L' := [(1, .int (0 : Int32)), (0, .ref a0)]) C dX9_setsAside_1 rfl rfl (by decide) rfl ?_
  obtain ⟨j25, ej25, hf⟩ := m_jp_of hf
  have J25 : ∀ (S1 : m_S), j25 S1 = some (rZ9, SZ9) → m_G x Z S1 2 0 0 27 [(0, .ref a0)] [] := by
    intro S1 hf
    rw [ej25] at hf
    refine r_iconst (q := 28) (v := (0 : Int32)) C dX9_setsAside_27 (by decide) rfl ?_
    refine r_istore_n (q := 29) (L' := [(1, .int (0 : Int32)), (0, .ref a0)]) C dX9_setsAside_28 rfl rfl (by decide) rfl ?_
    obtain ⟨j3, ej3, hf⟩ := m_jp_of hf
    have J3 : ∀ (S2 : m_S), j3 S2 = some (rZ9, SZ9) → m_G x Z S2 2 0 0 53 [] [] := by
      intro S2 hf
      rw [ej3] at hf
      obtain ⟨rfl, rfl⟩ := m_so2 hf
      exact r_vret C F dX9_setsAside_53
    have LL9 : ∀ (fu8 : Nat) (v4 : Int32) (S5 : m_S), m_fx (F_X9_setsAside_29 Z a0 j3) fu8 (v4, S5) = some (rZ9, SZ9) → m_G x Z S5 2 0 0 29 [(0, .ref a0), (1, .int v4)] [] := by
      intro fu8
      induction fu8 with
      | zero => intros; rename_i hf; cases hf
      | succ fu8 ih7 =>
        intro v4 S5 hf
        replace hf : F_X9_setsAside_29 Z a0 j3 (m_fx (F_X9_setsAside_29 Z a0 j3) fu8) (v4, S5) = some (rZ9, SZ9) := hf
        unfold F_X9_setsAside_29 at hf
        dsimp only at hf
        refine r_iload_n (q := 30) C 1 dX9_setsAside_29 rfl rfl ?_
        refine r_bipush (q := 32) (v := (30 : Int32)) C dX9_setsAside_30 (by decide) rfl ?_
        refine r_icmp_ge (t := 53) (q := 35) C dX9_setsAside_32 (by decide) rfl (fun c10 => ?_) (fun c10 => ?_)
        · replace hf := m_if1 hf c10
          refine r_sub [] rfl ?_
          exact J3 S5 hf
        · replace hf := m_if0 hf c10
          refine r_aload_n (q := 36) C 0 dX9_setsAside_35 rfl rfl ?_
          obtain ⟨g11, hf⟩ := m_gd_of hf
          obtain ⟨b12, e13, hf⟩ := m_b1_of hf
          refine gf_X9_32 (q := 39) C dX9_setsAside_36 g11 e13 rfl ?_
          refine r_iload_n (q := 40) C 1 dX9_setsAside_39 rfl rfl ?_
          refine r_aload_n (q := 41) C 0 dX9_setsAside_40 rfl rfl ?_
          obtain ⟨b14, e15, hf⟩ := m_b1_of hf
          refine gf_X9_28 (q := 44) C dX9_setsAside_41 g11 e15 rfl ?_
          refine r_iload_n (q := 45) C 1 dX9_setsAside_44 rfl rfl ?_
          obtain ⟨g16, hf⟩ := m_gd_of hf
          obtain ⟨g17, hf⟩ := m_gd_of hf
          refine r_lald (q := 46) C dX9_setsAside_45 ⟨g16, g17⟩ rfl ?_
          obtain ⟨g18, hf⟩ := m_gd_of hf
          obtain ⟨g19, hf⟩ := m_gd_of hf
          obtain ⟨S20, e21, hf⟩ := m_lt_of hf
          refine r_last (q := 47) C dX9_setsAside_46 ⟨g18, g19⟩ rfl ?_
          rw [← e21]
          obtain ⟨v22, e23, hf⟩ := m_lt_of hf
          refine r_iinc (q := 50) (v := v22) (L' := [(1, .int v22), (0, .ref a0)]) C 1 dX9_setsAside_47 rfl (by rw [e23]; rfl) rfl (by decide) rfl ?_
          refine r_goto (t := 29) C dX9_setsAside_50 (by decide) ?_
          refine r_sub [1, 0] rfl ?_
          exact ih7 v22 S20 hf
    refine r_sub [1, 0] rfl ?_
    exact LL9 100000 (0 : Int32) S1 hf
  have LL31 : ∀ (fu30 : Nat) (v26 : Int32) (S27 : m_S), m_fx (F_X9_setsAside_2 Z a0 j25) fu30 (v26, S27) = some (rZ9, SZ9) → m_G x Z S27 2 0 0 2 [(0, .ref a0), (1, .int v26)] [] := by
    intro fu30
    induction fu30 with
    | zero => intros; rename_i hf; cases hf
    | succ fu30 ih29 =>
      intro v26 S27 hf
      replace hf : F_X9_setsAside_2 Z a0 j25 (m_fx (F_X9_setsAside_2 Z a0 j25) fu30) (v26, S27) = some (rZ9, SZ9) := hf
      unfold F_X9_setsAside_2 at hf
      dsimp only at hf
      refine r_iload_n (q := 3) C 1 dX9_setsAside_2 rfl rfl ?_
      refine r_sipush (q := 6) (v := (340 : Int32)) C dX9_setsAside_3 (by decide) rfl ?_
      refine r_icmp_ge (t := 27) (q := 9) C dX9_setsAside_6 (by decide) rfl (fun c32 => ?_) (fun c32 => ?_)
      · replace hf := m_if1 hf c32
        refine r_sub [0] rfl ?_
        exact J25 S27 hf
      · replace hf := m_if0 hf c32
        refine r_aload_n (q := 10) C 0 dX9_setsAside_9 rfl rfl ?_
        obtain ⟨g33, hf⟩ := m_gd_of hf
        obtain ⟨b34, e35, hf⟩ := m_b1_of hf
        refine gf_X9_19 (q := 13) C dX9_setsAside_10 g33 e35 rfl ?_
        refine r_iload_n (q := 14) C 1 dX9_setsAside_13 rfl rfl ?_
        refine r_aload_n (q := 15) C 0 dX9_setsAside_14 rfl rfl ?_
        obtain ⟨b36, e37, hf⟩ := m_b1_of hf
        refine gf_X9_16 (q := 18) C dX9_setsAside_15 g33 e37 rfl ?_
        refine r_iload_n (q := 19) C 1 dX9_setsAside_18 rfl rfl ?_
        obtain ⟨g38, hf⟩ := m_gd_of hf
        obtain ⟨g39, hf⟩ := m_gd_of hf
        refine r_iald (q := 20) C dX9_setsAside_19 ⟨g38, g39⟩ rfl ?_
        obtain ⟨g40, hf⟩ := m_gd_of hf
        obtain ⟨g41, hf⟩ := m_gd_of hf
        obtain ⟨S42, e43, hf⟩ := m_lt_of hf
        refine r_iast (q := 21) C dX9_setsAside_20 ⟨g40, g41⟩ rfl ?_
        rw [← e43]
        obtain ⟨v44, e45, hf⟩ := m_lt_of hf
        refine r_iinc (q := 24) (v := v44) (L' := [(1, .int v44), (0, .ref a0)]) C 1 dX9_setsAside_21 rfl (by rw [e45]; rfl) rfl (by decide) rfl ?_
        refine r_goto (t := 2) C dX9_setsAside_24 (by decide) ?_
        refine r_sub [1, 0] rfl ?_
        exact ih29 v44 S42 hf
  refine r_sub [1, 0] rfl ?_
  exact LL31 100000 (0 : Int32) S hf
def f_X9_exchanges (Z : m_Z) (S : m_S) (a0 : Nat) (p1 : Int32) (p2 : Int32) (p3 : Int32) (p4 : Int32) : Option (Unit × m_S) := m_gd (m_ok Z a0 9) (m_b1 (f_X9_its Z S a0 p1 p2 (3 : Int32)) (fun v3 => m_bw (f_X9_counts Z S a0 p1 (4 : Int32) v3.toInt64) (fun _u S5 => m_b1 (f_X9_its Z S5 a0 p1 p2 (1 : Int32)) (fun v7 => m_b1 (f_X9_its Z S5 a0 p1 p2 (2 : Int32)) (fun v9 => m_b1 (f_X9_wouldHave Z S5 a0 v7 v9 p4) (fun v11 => m_bw (f_X9_puts Z S5 a0 p1 p2 p3 v7 v9 v11) (fun _u S13 => some ((), S13))))))))
abbrev rm_X9_exchanges : Room := { frames := 3, cells := 0, slots := 0, locals := 71 }
theorem hd_X9_exchanges : yX9_exchanges.cls = RX9 ∧ yX9_exchanges.cls ≠ "java/lang/invoke/MethodHandle" ∧ yX9_exchanges.cls ≠ "java/lang/invoke/VarHandle" ∧ (parseMethodDescriptor yX9_exchanges.desc).map (fun d => d.parameters.length) = some 4 := by decide +kernel
set_option maxHeartbeats 4000000 in
set_option maxRecDepth 100000 in
theorem c_X9_exchanges {l : Launch} (hl : l.stackTraces = false) {Z : m_Z} {S : m_S} {a0 : Nat} {p1 : Int32} {p2 : Int32} {p3 : Int32} {p4 : Int32} {rZ9 : Unit} {SZ9 : m_S} (hf : f_X9_exchanges Z S a0 p1 p2 p3 p4 = some (rZ9, SZ9)) : m_Ct l yX9_exchanges (.code yX9_exchanges cX9_exchanges 7 none :: m_ws) rm_X9_exchanges (fun f => [.ref a0, .int p1, .int p2, .int p3, .int p4]) Z S (none) SZ9 := by
  unfold f_X9_exchanges at hf
  refine m_ent hl (by decide) (fun _ => Nat.le_of_ble_eq_true rfl) (fun x C F => ?_)
  have C : m_H x l RX9 cX9_exchanges 7 rm_X9_exchanges := C
  show m_G x Z S 7 0 0 0 [(0, .ref a0), (1, .int p1), (2, .int p2), (3, .int p3), (4, .int p4)] []
  refine r_aload_n (q := 1) C 0 dX9_exchanges_0 rfl rfl ?_
  refine r_iload_n (q := 2) C 1 dX9_exchanges_1 rfl rfl ?_
  refine r_iconst (q := 3) (v := (4 : Int32)) C dX9_exchanges_2 (by decide) rfl ?_
  refine r_aload_n (q := 4) C 0 dX9_exchanges_3 rfl rfl ?_
  refine r_iload_n (q := 5) C 1 dX9_exchanges_4 rfl rfl ?_
  refine r_iload_n (q := 6) C 2 dX9_exchanges_5 rfl rfl ?_
  refine r_iconst (q := 7) (v := (3 : Int32)) C dX9_exchanges_6 (by decide) rfl ?_
  obtain ⟨g1, hf⟩ := m_gd_of hf
  obtain ⟨v3, h2, hf⟩ := m_b1_of hf
  refine r_callV (mc := 0) (ms := 0) (q := 10) (st1 := [.int v3, .int (4 : Int32), .int p1, .ref a0]) C (c_X9_its hl h2) rfl w_940 w_941 w_1326 w_11 w_942 hd_X9_its rfl (by decide) g1 rfl rfl rfl ⟨(Nat.le_of_ble_eq_true rfl), (Nat.le_of_ble_eq_true rfl)⟩ (Nat.le_of_ble_eq_true rfl) ⟨(Nat.le_of_ble_eq_true rfl), (Nat.le_of_ble_eq_true rfl)⟩ dX9_exchanges_7 rfl rfl ?_
  refine r_i2l (q := 11) C dX9_exchanges_10 rfl ?_
  obtain ⟨_u, S5, h4, hf⟩ := m_bw_of hf
  refine r_callV (mc := 0) (ms := 0) (q := 14) (st1 := []) C (c_X9_counts hl h4) rfl w_1188 w_1189 w_1359 w_11 w_1190 hd_X9_counts rfl (by decide) g1 rfl rfl rfl ⟨(Nat.le_of_ble_eq_true rfl), (Nat.le_of_ble_eq_true rfl)⟩ (Nat.le_of_ble_eq_true rfl) ⟨(Nat.le_of_ble_eq_true rfl), (Nat.le_of_ble_eq_true rfl)⟩ dX9_exchanges_11 rfl rfl ?_
  refine r_aload_n (q := 15) C 0 dX9_exchanges_14 rfl rfl ?_
  refine r_iload_n (q := 16) C 1 dX9_exchanges_15 rfl rfl ?_
  refine r_iload_n (q := 17) C 2 dX9_exchanges_16 rfl rfl ?_
  refine r_iconst (q := 18) (v := (1 : Int32)) C dX9_exchanges_17 (by decide) rfl ?_
  obtain ⟨v7, h6, hf⟩ := m_b1_of hf
  refine r_callV (mc := 0) (ms := 0) (q := 21) (st1 := [.int v7]) C (c_X9_its hl h6) rfl w_940 w_941 w_1326 w_11 w_942 hd_X9_its rfl (by decide) g1 rfl rfl rfl ⟨(Nat.le_of_ble_eq_true rfl), (Nat.le_of_ble_eq_true rfl)⟩ (Nat.le_of_ble_eq_true rfl) ⟨(Nat.le_of_ble_eq_true rfl), (Nat.le_of_ble_eq_true rfl)⟩ dX9_exchanges_18 rfl rfl ?_
  refine r_istore (q := 23) (L' := [(5, .int v7), (0, .ref a0), (1, .int p1), (2, .int p2), (3, .int p3), (4, .int p4)]) C dX9_exchanges_21 rfl (by decide) rfl ?_
  refine r_aload_n (q := 24) C 1 dX9_exchanges_23 rfl rfl ?_
  refine r_iload_n (q := 25) C 2 dX9_exchanges_24 rfl rfl ?_
  refine r_iload_n (q := 26) C 3 dX9_exchanges_25 rfl rfl ?_
  refine r_iconst (q := 27) (v := (2 : Int32)) C dX9_exchanges_26 (by decide) rfl ?_
  obtain ⟨v9, h8, hf⟩ := m_b1_of hf
  refine r_callV (mc := 0) (ms := 0) (q := 30) (st1 := [.int v9]) C (c_X9_its hl h8) rfl w_940 w_941 w_1326 w_11 w_942 hd_X9_its rfl (by decide) g1 rfl rfl rfl ⟨(Nat.le_of_ble_eq_true rfl), (Nat.le_of_ble_eq_true rfl)⟩ (Nat.le_of_ble_eq_true rfl) ⟨(Nat.le_of_ble_eq_true rfl), (Nat.le_of_ble_eq_true rfl)⟩ dX9_exchanges_27 rfl rfl ?_
  refine r_istore (q := 32) (L' := [(6, .int v9), (5, .int v7), (0, .ref a0), (1, .int p1), (2, .int p2), (3, .int p3), (4, .int p4)]) C dX9_exchanges_30 rfl (by decide) rfl ?_
  refine r_aload_n (q := 33) C 2 dX9_exchanges_32 rfl rfl ?_
  refine r_iload_n (q := 34) C 3 dX9_exchanges_33 rfl rfl ?_
  refine r_iload_n (q := 35) C 4 dX9_exchanges_34 rfl rfl ?_
  refine r_iload_n (q := 36) C 5 dX9_exchanges_35 rfl rfl ?_
  refine r_iload (q := 38) C 1 dX9_exchanges_36 rfl rfl ?_
  refine r_iload (q := 40) C 0 dX9_exchanges_38 rfl rfl ?_
  refine r_aload_n (q := 41) C 2 dX9_exchanges_40 rfl rfl ?_
  refine r_iload (q := 43) C 1 dX9_exchanges_41 rfl rfl ?_
  refine r_iload (q := 45) C 0 dX9_exchanges_43 rfl rfl ?_
  refine r_iload (q := 47) C 6 dX9_exchanges_45 rfl rfl ?_
  obtain ⟨v11, h10, hf⟩ := m_b1_of hf
  refine r_callV (mc := 0) (ms := 0) (q := 50) (st1 := [.int v11, .int v9, .int v7, .int p3, .int p2, .int p1, .ref a0]) C (c_X9_wouldHave hl h10) rfl w_943 w_944 w_1327 w_11 w_945 hd_X9_wouldHave rfl (by decide) g1 rfl rfl rfl ⟨(Nat.le_of_ble_eq_true rfl), (Nat.le_of_ble_eq_true rfl)⟩ (Nat.le_of_ble_eq_true rfl) ⟨(Nat.le_of_ble_eq_true rfl), (Nat.le_of_ble_eq_true rfl)⟩ dX9_exchanges_47 rfl rfl ?_
  obtain ⟨_u, S13, h12, hf⟩ := m_bw_of hf
  refine r_callV (mc := 0) (ms := 0) (q := 53) (st1 := []) C (c_X9_puts hl h12) rfl w_1215 w_1216 w_1364 w_11 w_1217 hd_X9_puts rfl (by decide) g1 rfl rfl rfl ⟨(Nat.le_of_ble_eq_true rfl), (Nat.le_of_ble_eq_true rfl)⟩ (Nat.le_of_ble_eq_true rfl) ⟨(Nat.le_of_ble_eq_true rfl), (Nat.le_of_ble_eq_true rfl)⟩ dX9_exchanges_50 rfl rfl ?_
  obtain ⟨rfl, rfl⟩ := m_so2 hf
  exact r_vret C F dX9_exchanges_53
def F_X9_bringsBack_29 (Z : m_Z) (a0 : Nat) (j3 : (m_S → Option (Unit × m_S))) (lp6 : (Int32 × m_S) → Option (Unit × m_S)) (p24 : (Int32 × m_S)) : Option (Unit × m_S) := match p24 with
  | (v4, S5) => (if (30 : Int32) ≤ v4 then j3 S5 else m_gd (m_ok Z a0 9) (m_b1 (S5.2.2 a0 7) (fun b12 => m_b1 (S5.2.2 a0 8) (fun b14 => m_gd (m_ok Z b14 12) (m_gd (m_in v4 (Z.2.2 b14)) (m_gd (m_ok Z b12 12) (m_gd (m_in v4 (Z.2.2 b12)) (m_lt (m_pJ S5 b12 v4.toNatClampNeg (S5.2.1 b14 v4.toNatClampNeg)) (fun S20 => m_lt (v4 + (1 : Int32)) (fun v22 => lp6 (v22, S20)))))))))))
def F_X9_bringsBack_2 (Z : m_Z) (a0 : Nat) (j25 : (m_S → Option (Unit × m_S))) (lp28 : (Int32 × m_S) → Option (Unit × m_S)) (p46 : (Int32 × m_S)) : Option (Unit × m_S) := match p46 with
  | (v26, S27) => (if (340 : Int32) ≤ v26 then j25 S27 else m_gd (m_ok Z a0 9) (m_b1 (S27.2.2 a0 3) (fun b34 => m_b1 (S27.2.2 a0 4) (fun b36 => m_gd (m_ok Z b36 11) (m_gd (m_in v26 (Z.2.2 b36)) (m_gd (m_ok Z b34 11) (m_gd (m_in v26 (Z.2.2 b34)) (m_lt (m_pI S27 b34 v26.toNatClampNeg (S27.1 b36 v26.toNatClampNeg)) (fun S42 => m_lt (v26 + (1 : Int32)) (fun v44 => lp28 (v44, S42)))))))))))
def f_X9_bringsBack (Z : m_Z) (S : m_S) (a0 : Nat) : Option (Unit × m_S) := m_jp (fun (S1 : m_S) => m_jp (fun (S2 : m_S) => some ((), S2)) (fun j3 => m_fx (F_X9_bringsBack_29 Z a0 j3) 100000 ((0 : Int32), S1))) (fun j25 => m_fx (F_X9_bringsBack_2 Z a0 j25) 100000 ((0 : Int32), S))
abbrev rm_X9_bringsBack : Room := { frames := 0, cells := 0, slots := 0, locals := 0 }
theorem hd_X9_bringsBack : yX9_bringsBack.cls = RX9 ∧ yX9_bringsBack.cls ≠ "java/lang/invoke/MethodHandle" ∧ yX9_bringsBack.cls ≠ "java/lang/invoke/VarHandle" ∧ (parseMethodDescriptor yX9_bringsBack.desc).map (fun d => d.parameters.length) = some 0 := by decide +kernel
set_option maxHeartbeats 4000000 in
set_option maxRecDepth 100000 in
theorem c_X9_bringsBack {l : Launch} (hl : l.stackTraces = false) {Z : m_Z} {S : m_S} {a0 : Nat} {rZ9 : Unit} {SZ9 : m_S} (hf : f_X9_bringsBack Z S a0 = some (rZ9, SZ9)) : m_Ct l yX9_bringsBack (.code yX9_bringsBack cX9_bringsBack 2 none :: m_ws) rm_X9_bringsBack (fun f => [.ref a0]) Z S (none) SZ9 := by
  unfold f_X9_bringsBack at hf
  refine m_ent hl (by decide) (fun _ => Nat.le_of_ble_eq_true rfl) (fun x C F => ?_)
  have C : m_H x l RX9 cX9_bringsBack 2 rm_X9_bringsBack := C
  show m_G x Z S 2 0 0 0 [(0, .ref a0)] []
  refine r_iconst (q := 1) (v := (0 : Int32)) C dX9_bringsBack_0 (by decide) rfl ?_
  refine r_istore_n (q := 2) (L' := [(1, .int (0 : Int32)), (0, .ref a0)]) C dX9_bringsBack_1 rfl rfl (by decide) rfl ?_
  obtain ⟨j25, ej25, hf⟩ := m_jp_of hf
  have J25 : ∀ (S1 : m_S), j25 S1 = some (rZ9, SZ9) → m_G x Z S1 2 0 0 27 [(0, .ref a0)] [] := by
    intro S1 hf
    rw [ej25] at hf
    refine r_iconst (q := 28) (v := (0 : Int32)) C dX9_bringsBack_27 (by decide) rfl ?_
    refine r_istore_n (q := 29) (L' := [(1, .int (0 : Int32)), (0, .ref a0)]) C dX9_bringsBack_28 rfl rfl (by decide) rfl ?_
    obtain ⟨j3, ej3, hf⟩ := m_jp_of hf
    have J3 : ∀ (S2 : m_S), j3 S2 = some (rZ9, SZ9) → m_G x Z S2 2 0 0 53 [] [] := by
      intro S2 hf
      rw [ej3] at hf
      obtain ⟨rfl, rfl⟩ := m_so2 hf
      exact r_vret C F dX9_bringsBack_53
    have LL9 : ∀ (fu8 : Nat) (v4 : Int32) (S5 : m_S), m_fx (F_X9_bringsBack_29 Z a0 j3) fu8 (v4, S5) = some (rZ9, SZ9) → m_G x Z S5 2 0 0 29 [(0, .ref a0), (1, .int v4)] [] := by
      intro fu8
      induction fu8 with
      | zero => intros; rename_i hf; cases hf
      | succ fu8 ih7 =>
        intro v4 S5 hf
        replace hf : F_X9_bringsBack_29 Z a0 j3 (m_fx (F_X9_bringsBack_29 Z a0 j3) fu8) (v4, S5) = some (rZ9, SZ9) := hf
        unfold F_X9_bringsBack_29 at hf
        dsimp only at hf
        refine r_iload_n (q := 30) C 1 dX9_bringsBack_29 rfl rfl ?_
        refine r_bipush (q := 32) (v := (30 : Int32)) C dX9_bringsBack_30 (by decide) rfl ?_
        refine r_icmp_ge (t := 53) (q := 35) C dX9_bringsBack_32 (by decide) rfl (fun c10 => ?_) (fun c10 => ?_)
        · replace hf := m_if1 hf c10
          refine r_sub [] rfl ?_
          exact J3 S5 hf
        · replace hf := m_if0 hf c10
          refine r_aload_n (q := 36) C 0 dX9_bringsBack_35 rfl rfl ?_
          obtain ⟨g11, hf⟩ := m_gd_of hf
          obtain ⟨b12, e13, hf⟩ := m_b1_of hf
          refine gf_X9_28 (q := 39) C dX9_bringsBack_36 g11 e13 rfl ?_
          refine r_iload_n (q := 40) C 1 dX9_bringsBack_39 rfl rfl ?_
          refine r_aload_n (q := 41) C 0 dX9_bringsBack_40 rfl rfl ?_
          obtain ⟨b14, e15, hf⟩ := m_b1_of hf
          refine gf_X9_32 (q := 44) C dX9_bringsBack_41 g11 e15 rfl ?_
          refine r_iload_n (q := 45) C 1 dX9_bringsBack_44 rfl rfl ?_
          obtain ⟨g16, hf⟩ := m_gd_of hf
          obtain ⟨g17, hf⟩ := m_gd_of hf
          refine r_lald (q := 46) C dX9_bringsBack_45 ⟨g16, g17⟩ rfl ?_
          obtain ⟨g18, hf⟩ := m_gd_of hf
          obtain ⟨g19, hf⟩ := m_gd_of hf
          obtain ⟨S20, e21, hf⟩ := m_lt_of hf
          refine r_last (q := 47) C dX9_bringsBack_46 ⟨g18, g19⟩ rfl ?_
          rw [← e21]
          obtain ⟨v22, e23, hf⟩ := m_lt_of hf
          refine r_iinc (q := 50) (v := v22) (L' := [(1, .int v22), (0, .ref a0)]) C 1 dX9_bringsBack_47 rfl (by rw [e23]; rfl) rfl (by decide) rfl ?_
          refine r_goto (t := 29) C dX9_bringsBack_50 (by decide) ?_
          refine r_sub [1, 0] rfl ?_
          exact ih7 v22 S20 hf
    refine r_sub [1, 0] rfl ?_
    exact LL9 100000 (0 : Int32) S1 hf
  have LL31 : ∀ (fu30 : Nat) (v26 : Int32) (S27 : m_S), m_fx (F_X9_bringsBack_2 Z a0 j25) fu30 (v26, S27) = some (rZ9, SZ9) → m_G x Z S27 2 0 0 2 [(0, .ref a0), (1, .int v26)] [] := by
    intro fu30
    induction fu30 with
    | zero => intros; rename_i hf; cases hf
    | succ fu30 ih29 =>
      intro v26 S27 hf
      replace hf : F_X9_bringsBack_2 Z a0 j25 (m_fx (F_X9_bringsBack_2 Z a0 j25) fu30) (v26, S27) = some (rZ9, SZ9) := hf
      unfold F_X9_bringsBack_2 at hf
      dsimp only at hf
      refine r_iload_n (q := 3) C 1 dX9_bringsBack_2 rfl rfl ?_
      refine r_sipush (q := 6) (v := (340 : Int32)) C dX9_bringsBack_3 (by decide) rfl ?_
      refine r_icmp_ge (t := 27) (q := 9) C dX9_bringsBack_6 (by decide) rfl (fun c32 => ?_) (fun c32 => ?_)
      · replace hf := m_if1 hf c32
        refine r_sub [0] rfl ?_
        exact J25 S27 hf
      · replace hf := m_if0 hf c32
        refine r_aload_n (q := 10) C 0 dX9_bringsBack_9 rfl rfl ?_
        obtain ⟨g33, hf⟩ := m_gd_of hf
        obtain ⟨b34, e35, hf⟩ := m_b1_of hf
        refine gf_X9_16 (q := 13) C dX9_bringsBack_10 g33 e35 rfl ?_
        refine r_iload_n (q := 14) C 1 dX9_bringsBack_13 rfl rfl ?_
        refine r_aload_n (q := 15) C 0 dX9_bringsBack_14 rfl rfl ?_
        obtain ⟨b36, e37, hf⟩ := m_b1_of hf
        refine gf_X9_19 (q := 18) C dX9_bringsBack_15 g33 e37 rfl ?_
        refine r_iload_n (q := 19) C 1 dX9_bringsBack_18 rfl rfl ?_
        obtain ⟨g38, hf⟩ := m_gd_of hf
        obtain ⟨g39, hf⟩ := m_gd_of hf
        refine r_iald (q := 20) C dX9_bringsBack_19 ⟨g38, g39⟩ rfl ?_
        obtain ⟨g40, hf⟩ := m_gd_of hf
        obtain ⟨g41, hf⟩ := m_gd_of hf
        obtain ⟨S42, e43, hf⟩ := m_lt_of hf
        refine r_iast (q := 21) C dX9_bringsBack_20 ⟨g40, g41⟩ rfl ?_
        rw [← e43]
        obtain ⟨v44, e45, hf⟩ := m_lt_of hf
        refine r_iinc (q := 24) (v := v44) (L' := [(1, .int v44), (0, .ref a0)]) C 1 dX9_bringsBack_21 rfl (by rw [e45]; rfl) rfl (by decide) rfl ?_
        refine r_goto (t := 2) C dX9_bringsBack_24 (by decide) ?_
        refine r_sub [1, 0] rfl ?_
        exact ih29 v44 S42 hf
  refine r_sub [1, 0] rfl ?_
  exact LL31 100000 (0 : Int32) S hf
def F_X9_bestFor_47 (Z : m_Z) (a0 : Nat) (p2 : Int32) (j21 : (Int32 → m_S → Option (Int32 × m_S))) (lp26 : (Int32 × Int32 × Int32 × m_S) → Option (Int32 × m_S)) (p50 : (Int32 × Int32 × Int32 × m_S)) : Option (Int32 × m_S) := match p50 with
  | (v22, v23, v24, S25) => (if (1000 : Int32) < v24 then j21 v22 S25 else m_b1 (S25.2.2 a0 3) (fun b31 => m_gd (m_ok Z b31 11) (m_gd (m_in (3 : Int32) (Z.2.2 b31)) (m_bw (f_X9_exchanges Z S25 a0 (S25.1 a0 23) (S25.1 a0 24) (S25.1 b31 (3 : Int32).toNatClampNeg) v24) (fun _u S36 => m_bw (f_X9_hours Z S36 a0 p2 (S36.1 a0 23) (S36.1 a0 23)) (fun v39 S38 => m_bw (f_X9_bringsBack Z S38 a0) (fun _u S41 => (if v22 = (-1 : Int32) then m_lt (v24 + (50 : Int32)) (fun v43 => lp26 (v24, v39, v43, S41)) else (if v39 < v23 then m_lt (v24 + (50 : Int32)) (fun v46 => lp26 (v24, v39, v46, S41)) else m_lt (v24 + (50 : Int32)) (fun v48 => lp26 (v22, v23, v48, S41)))))))))))
def f_X9_bestFor (Z : m_Z) (S : m_S) (a0 : Nat) (p1 : Int32) (p2 : Int32) : Option (Int32 × m_S) := m_gd (m_ok Z a0 9) (m_lt (m_pI S a0 0 (0 : Int32)) (fun S2 => m_bw (f_X9_finds Z S2 a0 p1) (fun v6 S5 => m_bw (f_X9_may Z S5 a0 v6 (1 : Int32)) (fun v9 S8 => (if v9 = 0 then some ((0 : Int32), S8) else m_b1 (f_X9_isIn Z S8 p2 (1 : Int32) (72 : Int32)) (fun v12 => m_bw (f_X9_may Z S8 a0 v12 (2 : Int32)) (fun v15 S14 => (if ¬ v15 = 0 then m_bw (f_X9_setsAside Z S14 a0) (fun _u S18 => m_jp (fun (v19 : Int32) (S20 : m_S) => some (v19, S20)) (fun j21 => m_fx (F_X9_bestFor_47 Z a0 p2 j21) 100000 ((-1 : Int32), (0 : Int32), (0 : Int32), S18))) else some ((0 : Int32), S14)))))))))
abbrev rm_X9_bestFor : Room := { frames := 6, cells := 0, slots := 0, locals := 147 }
theorem hd_X9_bestFor : yX9_bestFor.cls = RX9 ∧ yX9_bestFor.cls ≠ "java/lang/invoke/MethodHandle" ∧ yX9_bestFor.cls ≠ "java/lang/invoke/VarHandle" ∧ (parseMethodDescriptor yX9_bestFor.desc).map (fun d => d.parameters.length) = some 2 := by decide +kernel
set_option maxHeartbeats 4000000 in
set_option maxRecDepth 100000 in
theorem c_X9_bestFor {l : Launch} (hl : l.stackTraces = false) {Z : m_Z} {S : m_S} {a0 : Nat} {p1 : Int32} {p2 : Int32} {rZ9 : Int32} {SZ9 : m_S} (hf : f_X9_bestFor Z S a0 p1 p2 = some (rZ9, SZ9)) : m_Ct l yX9_bestFor (.code yX9_bestFor cX9_bestFor 7 (some .int) :: m_ws) rm_X9_bestFor (fun f => [.ref a0, .int p1, .int p2]) Z S (some (.int rZ9)) SZ9 := by
  unfold f_X9_bestFor at hf
  refine m_ent hl (by decide) (fun _ => Nat.le_of_ble_eq_true rfl) (fun x C F => ?_)
  have C : m_H x l RX9 cX9_bestFor 7 rm_X9_bestFor := C
  show m_G x Z S 7 0 0 0 [(0, .ref a0), (1, .int p1), (2, .int p2)] []
  refine r_aload_n (q := 1) C 0 dX9_bestFor_0 rfl rfl ?_
  refine r_iconst (q := 2) (v := (0 : Int32)) C dX9_bestFor_1 (by decide) rfl ?_
  obtain ⟨g1, hf⟩ := m_gd_of hf
  obtain ⟨S2, e3, hf⟩ := m_lt_of hf
  refine pf_X9_61 (q := 5) C dX9_bestFor_2 g1 e3 rfl ?_
  refine r_aload_n (q := 6) C 0 dX9_bestFor_5 rfl rfl ?_
  refine r_aload_n (q := 7) C 0 dX9_bestFor_6 rfl rfl ?_
  refine r_iload_n (q := 8) C 1 dX9_bestFor_7 rfl rfl ?_
  obtain ⟨v6, S5, h4, hf⟩ := m_bw_of hf
  refine r_callV (mc := 0) (ms := 0) (q := 11) (st1 := [.int v6, .ref a0]) C (c_X9_finds hl h4) rfl w_1202 w_1203 w_1361 w_11 w_1204 hd_X9_finds rfl (by decide) g1 rfl rfl rfl ⟨(Nat.le_of_ble_eq_true rfl), (Nat.le_of_ble_eq_true rfl)⟩ (Nat.le_of_ble_eq_true rfl) ⟨(Nat.le_of_ble_eq_true rfl), (Nat.le_of_ble_eq_true rfl)⟩ dX9_bestFor_8 rfl rfl ?_
  refine r_iconst (q := 12) (v := (1 : Int32)) C dX9_bestFor_11 (by decide) rfl ?_
  obtain ⟨v9, S8, h7, hf⟩ := m_bw_of hf
  refine r_callV (mc := 0) (ms := 0) (q := 15) (st1 := [.int v9]) C (c_X9_may hl h7) rfl w_1024 w_1025 w_1333 w_11 w_1026 hd_X9_may rfl (by decide) g1 rfl rfl rfl ⟨(Nat.le_of_ble_eq_true rfl), (Nat.le_of_ble_eq_true rfl)⟩ (Nat.le_of_ble_eq_true rfl) ⟨(Nat.le_of_ble_eq_true rfl), (Nat.le_of_ble_eq_true rfl)⟩ dX9_bestFor_12 rfl rfl ?_
  refine r_if_eq (t := 33) (q := 18) C dX9_bestFor_15 (by decide) rfl (fun c10 => ?_) (fun c10 => ?_)
  · replace hf := m_if1 hf c10
    refine r_iconst (q := 34) (v := (0 : Int32)) C dX9_bestFor_33 (by decide) rfl ?_
    obtain ⟨rfl, rfl⟩ := m_so2 hf
    exact r_iret C F dX9_bestFor_34
  · replace hf := m_if0 hf c10
    refine r_aload_n (q := 19) C 0 dX9_bestFor_18 rfl rfl ?_
    refine r_iload_n (q := 20) C 2 dX9_bestFor_19 rfl rfl ?_
    refine r_iconst (q := 21) (v := (1 : Int32)) C dX9_bestFor_20 (by decide) rfl ?_
    refine r_bipush (q := 23) (v := (72 : Int32)) C dX9_bestFor_21 (by decide) rfl ?_
    obtain ⟨v12, h11, hf⟩ := m_b1_of hf
    refine r_callS (mc := 0) (ms := 0) (q := 26) (st1 := [.int v12, .ref a0]) C (c_X9_isIn hl h11) rfl w_1031 w_1032 w_11 w_1033 hd_X9_isIn rfl rfl rfl ⟨(Nat.le_of_ble_eq_true rfl), (Nat.le_of_ble_eq_true rfl)⟩ (Nat.le_of_ble_eq_true rfl) ⟨(Nat.le_of_ble_eq_true rfl), (Nat.le_of_ble_eq_true rfl)⟩ dX9_bestFor_23 rfl rfl ?_
    refine r_iconst (q := 27) (v := (2 : Int32)) C dX9_bestFor_26 (by decide) rfl ?_
    obtain ⟨v15, S14, h13, hf⟩ := m_bw_of hf
    refine r_callV (mc := 0) (ms := 0) (q := 30) (st1 := [.int v15]) C (c_X9_may hl h13) rfl w_1024 w_1025 w_1333 w_11 w_1026 hd_X9_may rfl (by decide) g1 rfl rfl rfl ⟨(Nat.le_of_ble_eq_true rfl), (Nat.le_of_ble_eq_true rfl)⟩ (Nat.le_of_ble_eq_true rfl) ⟨(Nat.le_of_ble_eq_true rfl), (Nat.le_of_ble_eq_true rfl)⟩ dX9_bestFor_27 rfl rfl ?_
    refine r_if_ne (t := 35) (q := 33) C dX9_bestFor_30 (by decide) rfl (fun c16 => ?_) (fun c16 => ?_)
    · replace hf := m_if1 hf c16
      refine r_aload_n (q := 36) C 0 dX9_bestFor_35 rfl rfl ?_
      obtain ⟨_u, S18, h17, hf⟩ := m_bw_of hf
      refine r_callV (mc := 0) (ms := 0) (q := 39) (st1 := []) C (c_X9_setsAside hl h17) rfl w_1258 w_1259 w_1371 w_11 w_1260 hd_X9_setsAside rfl (by decide) g1 rfl rfl rfl ⟨(Nat.le_of_ble_eq_true rfl), (Nat.le_of_ble_eq_true rfl)⟩ (Nat.le_of_ble_eq_true rfl) ⟨(Nat.le_of_ble_eq_true rfl), (Nat.le_of_ble_eq_true rfl)⟩ dX9_bestFor_36 rfl rfl ?_
      refine r_iconst (q := 40) (v := (-1 : Int32)) C dX9_bestFor_39 (by decide) rfl ?_
      refine r_istore_n (q := 41) (L' := [(3, .int (-1 : Int32)), (0, .ref a0), (1, .int p1), (2, .int p2)]) C dX9_bestFor_40 rfl rfl (by decide) rfl ?_
      refine r_iconst (q := 42) (v := (0 : Int32)) C dX9_bestFor_41 (by decide) rfl ?_
      refine r_istore (q := 44) (L' := [(4, .int (0 : Int32)), (3, .int (-1 : Int32)), (0, .ref a0), (1, .int p1), (2, .int p2)]) C dX9_bestFor_42 rfl (by decide) rfl ?_
      refine r_iconst (q := 45) (v := (0 : Int32)) C dX9_bestFor_44 (by decide) rfl ?_
      refine r_istore (q := 47) (L' := [(5, .int (0 : Int32)), (4, .int (0 : Int32)), (3, .int (-1 : Int32)), (0, .ref a0), (1, .int p1), (2, .int p2)]) C dX9_bestFor_45 rfl (by decide) rfl ?_
      obtain ⟨j21, ej21, hf⟩ := m_jp_of hf
      have J21 : ∀ (v19 : Int32) (S20 : m_S), j21 v19 S20 = some (rZ9, SZ9) → m_G x Z S20 7 0 0 122 [(3, .int v19)] [] := by
        intro v19 S20 hf
        rw [ej21] at hf
        refine r_iload_n (q := 123) C 0 dX9_bestFor_122 rfl rfl ?_
        obtain ⟨rfl, rfl⟩ := m_so2 hf
        exact r_iret C F dX9_bestFor_123
      have LL29 : ∀ (fu28 : Nat) (v22 : Int32) (v23 : Int32) (v24 : Int32) (S25 : m_S), m_fx (F_X9_bestFor_47 Z a0 p2 j21) fu28 (v22, v23, v24, S25) = some (rZ9, SZ9) → m_G x Z S25 7 0 0 47 [(0, .ref a0), (2, .int p2), (3, .int v22), (4, .int v23), (5, .int v24)] [] := by
        intro fu28
        induction fu28 with
        | zero => intros; rename_i hf; cases hf
        | succ fu28 ih27 =>
          intro v22 v23 v24 S25 hf
          replace hf : F_X9_bestFor_47 Z a0 p2 j21 (m_fx (F_X9_bestFor_47 Z a0 p2 j21) fu28) (v22, v23, v24, S25) = some (rZ9, SZ9) := hf
          unfold F_X9_bestFor_47 at hf
          dsimp only at hf
          refine r_iload (q := 49) C 4 dX9_bestFor_47 rfl rfl ?_
          refine r_sipush (q := 52) (v := (1000 : Int32)) C dX9_bestFor_49 (by decide) rfl ?_
          refine r_icmp_gt (t := 122) (q := 55) C dX9_bestFor_52 (by decide) rfl (fun c30 => ?_) (fun c30 => ?_)
          · replace hf := m_if1 hf c30
            refine r_sub [2] rfl ?_
            exact J21 v22 S25 hf
          · replace hf := m_if0 hf c30
            refine r_aload_n (q := 56) C 0 dX9_bestFor_55 rfl rfl ?_
            refine r_aload_n (q := 57) C 0 dX9_bestFor_56 rfl rfl ?_
            refine gf_X9_252 (q := 60) C dX9_bestFor_57 g1 rfl ?_
            refine r_aload_n (q := 61) C 0 dX9_bestFor_60 rfl rfl ?_
            refine gf_X9_255 (q := 64) C dX9_bestFor_61 g1 rfl ?_
            refine r_aload_n (q := 65) C 0 dX9_bestFor_64 rfl rfl ?_
            obtain ⟨b31, e32, hf⟩ := m_b1_of hf
            refine gf_X9_16 (q := 68) C dX9_bestFor_65 g1 e32 rfl ?_
            refine r_iconst (q := 69) (v := (3 : Int32)) C dX9_bestFor_68 (by decide) rfl ?_
            obtain ⟨g33, hf⟩ := m_gd_of hf
            obtain ⟨g34, hf⟩ := m_gd_of hf
            refine r_iald (q := 70) C dX9_bestFor_69 ⟨g33, g34⟩ rfl ?_
            refine r_iload (q := 72) C 4 dX9_bestFor_70 rfl rfl ?_
            obtain ⟨_u, S36, h35, hf⟩ := m_bw_of hf
            refine r_callV (mc := 0) (ms := 0) (q := 75) (st1 := []) C (c_X9_exchanges hl h35) rfl w_1233 w_1234 w_1366 w_11 w_1235 hd_X9_exchanges rfl (by decide) g1 rfl rfl rfl ⟨(Nat.le_of_ble_eq_true rfl), (Nat.le_of_ble_eq_true rfl)⟩ (Nat.le_of_ble_eq_true rfl) ⟨(Nat.le_of_ble_eq_true rfl), (Nat.le_of_ble_eq_true rfl)⟩ dX9_bestFor_72 rfl rfl ?_
            refine r_aload_n (q := 76) C 0 dX9_bestFor_75 rfl rfl ?_
            refine r_iload_n (q := 77) C 1 dX9_bestFor_76 rfl rfl ?_
            refine r_aload_n (q := 78) C 0 dX9_bestFor_77 rfl rfl ?_
            refine gf_X9_252 (q := 81) C dX9_bestFor_78 g1 rfl ?_
            refine r_aload_n (q := 82) C 0 dX9_bestFor_81 rfl rfl ?_
            refine gf_X9_252 (q := 85) C dX9_bestFor_82 g1 rfl ?_
            obtain ⟨v39, S38, h37, hf⟩ := m_bw_of hf
            refine r_callV (mc := 0) (ms := 0) (q := 88) (st1 := [.int v39]) C (c_X9_hours hl h37) rfl w_1241 w_1242 w_1367 w_11 w_1243 hd_X9_hours rfl (by decide) g1 rfl rfl rfl ⟨(Nat.le_of_ble_eq_true rfl), (Nat.le_of_ble_eq_true rfl)⟩ (Nat.le_of_ble_eq_true rfl) ⟨(Nat.le_of_ble_eq_true rfl), (Nat.le_of_ble_eq_true rfl)⟩ dX9_bestFor_85 rfl rfl ?_
            refine r_istore (q := 90) (L' := [(6, .int v39), (0, .ref a0), (2, .int p2), (3, .int v22), (4, .int v23), (5, .int v24)]) C dX9_bestFor_88 rfl (by decide) rfl ?_
            refine r_aload_n (q := 91) C 1 dX9_bestFor_90 rfl rfl ?_
            obtain ⟨_u, S41, h40, hf⟩ := m_bw_of hf
            refine r_callV (mc := 0) (ms := 0) (q := 94) (st1 := []) C (c_X9_bringsBack hl h40) rfl w_1261 w_1262 w_1372 w_11 w_1263 hd_X9_bringsBack rfl (by decide) g1 rfl rfl rfl ⟨(Nat.le_of_ble_eq_true rfl), (Nat.le_of_ble_eq_true rfl)⟩ (Nat.le_of_ble_eq_true rfl) ⟨(Nat.le_of_ble_eq_true rfl), (Nat.le_of_ble_eq_true rfl)⟩ dX9_bestFor_91 rfl rfl ?_
            refine r_iload_n (q := 95) C 3 dX9_bestFor_94 rfl rfl ?_
            refine r_iconst (q := 96) (v := (-1 : Int32)) C dX9_bestFor_95 (by decide) rfl ?_
            refine r_icmp_eq (t := 109) (q := 99) C dX9_bestFor_96 (by decide) rfl (fun c42 => ?_) (fun c42 => ?_)
            · replace hf := m_if1 hf c42
              refine r_iload (q := 111) C 5 dX9_bestFor_109 rfl rfl ?_
              refine r_istore_n (q := 112) (L' := [(3, .int v24), (6, .int v39), (0, .ref a0), (2, .int p2), (4, .int v23), (5, .int v24)]) C dX9_bestFor_111 rfl rfl (by decide) rfl ?_
              refine r_iload (q := 114) C 1 dX9_bestFor_112 rfl rfl ?_
              refine r_istore (q := 116) (L' := [(4, .int v39), (3, .int v24), (6, .int v39), (0, .ref a0), (2, .int p2), (5, .int v24)]) C dX9_bestFor_114 rfl (by decide) rfl ?_
              obtain ⟨v43, e44, hf⟩ := m_lt_of hf
              refine r_iinc (q := 119) (v := v43) (L' := [(5, .int v43), (4, .int v39), (3, .int v24), (6, .int v39), (0, .ref a0), (2, .int p2)]) C 5 dX9_bestFor_116 rfl (by rw [e44]; rfl) rfl (by decide) rfl ?_
              refine r_goto (t := 47) C dX9_bestFor_119 (by decide) ?_
              refine r_sub [4, 5, 2, 1, 0] rfl ?_
              exact ih27 v24 v39 v43 S41 hf
            · replace hf := m_if0 hf c42
              refine r_iload (q := 101) C 0 dX9_bestFor_99 rfl rfl ?_
              refine r_iload (q := 103) C 4 dX9_bestFor_101 rfl rfl ?_
              refine r_icmp_lt (t := 109) (q := 106) C dX9_bestFor_103 (by decide) rfl (fun c45 => ?_) (fun c45 => ?_)
              · replace hf := m_if1 hf c45
                refine r_iload (q := 111) C 5 dX9_bestFor_109 rfl rfl ?_
                refine r_istore_n (q := 112) (L' := [(3, .int v24), (6, .int v39), (0, .ref a0), (2, .int p2), (4, .int v23), (5, .int v24)]) C dX9_bestFor_111 rfl rfl (by decide) rfl ?_
                refine r_iload (q := 114) C 1 dX9_bestFor_112 rfl rfl ?_
                refine r_istore (q := 116) (L' := [(4, .int v39), (3, .int v24), (6, .int v39), (0, .ref a0), (2, .int p2), (5, .int v24)]) C dX9_bestFor_114 rfl (by decide) rfl ?_
                obtain ⟨v46, e47, hf⟩ := m_lt_of hf
                refine r_iinc (q := 119) (v := v46) (L' := [(5, .int v46), (4, .int v39), (3, .int v24), (6, .int v39), (0, .ref a0), (2, .int p2)]) C 5 dX9_bestFor_116 rfl (by rw [e47]; rfl) rfl (by decide) rfl ?_
                refine r_goto (t := 47) C dX9_bestFor_119 (by decide) ?_
                refine r_sub [4, 5, 2, 1, 0] rfl ?_
                exact ih27 v24 v39 v46 S41 hf
              · replace hf := m_if0 hf c45
                refine r_goto (t := 116) C dX9_bestFor_106 (by decide) ?_
                obtain ⟨v48, e49, hf⟩ := m_lt_of hf
                refine r_iinc (q := 119) (v := v48) (L' := [(5, .int v48), (6, .int v39), (0, .ref a0), (2, .int p2), (3, .int v22), (4, .int v23)]) C 5 dX9_bestFor_116 rfl (by rw [e49]; rfl) rfl (by decide) rfl ?_
                refine r_goto (t := 47) C dX9_bestFor_119 (by decide) ?_
                refine r_sub [2, 3, 4, 5, 0] rfl ?_
                exact ih27 v22 v23 v48 S41 hf
      refine r_sub [3, 5, 2, 1, 0] rfl ?_
      exact LL29 100000 (-1 : Int32) (0 : Int32) (0 : Int32) S18 hf
    · replace hf := m_if0 hf (fun z => z c16)
      refine r_iconst (q := 34) (v := (0 : Int32)) C dX9_bestFor_33 (by decide) rfl ?_
      obtain ⟨rfl, rfl⟩ := m_so2 hf
      exact r_iret C F dX9_bestFor_34
def f_X9_buffering (Z : m_Z) (S : m_S) (a0 : Nat) (p1 : Int32) : Option (UInt64 × m_S) := m_gd (m_ok Z a0 9) (m_lt (m_pI S a0 0 (0 : Int32)) (fun S2 => m_b1 (f_X9_isCase Z S2 a0 p1) (fun v5 => m_bw (f_X9_may Z S2 a0 v5 (1 : Int32)) (fun v8 S7 => (if v8 = 0 then some (FP.dconst0, S7) else m_b1 (f_X9_moistureOf Z S7 a0 p1) (fun w11 => m_jp (fun (v13 : Int32) => m_bw (f_X9_may Z S7 a0 v13 (2 : Int32)) (fun v16 S15 => (if v16 = 0 then some (FP.dconst0, S15) else m_b1 (f_X9_inCassettes Z S15 a0 p1) (fun v19 => m_b1 (f_X9_moistureOf Z S15 a0 p1) (fun w21 => m_gd (isNaN32 (FP.fdiv (FP.i2f v19) (FP.l2f w21)) = false) (m_gd (isNaN64 (FP.f2d (FP.fdiv (FP.i2f v19) (FP.l2f w21))) = false) (some ((FP.f2d (FP.fdiv (FP.i2f v19) (FP.l2f w21))), S15)))))))) (fun j12 => (if (lg_cmp w11 (0 : Int64)) ≤ 0 then j12 (0 : Int32) else j12 (1 : Int32)))))))))
abbrev rm_X9_buffering : Room := { frames := 3, cells := 0, slots := 0, locals := 67 }
theorem hd_X9_buffering : yX9_buffering.cls = RX9 ∧ yX9_buffering.cls ≠ "java/lang/invoke/MethodHandle" ∧ yX9_buffering.cls ≠ "java/lang/invoke/VarHandle" ∧ (parseMethodDescriptor yX9_buffering.desc).map (fun d => d.parameters.length) = some 1 := by decide +kernel
set_option maxHeartbeats 4000000 in
set_option maxRecDepth 100000 in
theorem c_X9_buffering {l : Launch} (hl : l.stackTraces = false) {Z : m_Z} {S : m_S} {a0 : Nat} {p1 : Int32} {rZ9 : UInt64} {SZ9 : m_S} (hf : f_X9_buffering Z S a0 p1 = some (rZ9, SZ9)) : m_Ct l yX9_buffering (.code yX9_buffering cX9_buffering 2 (some .double) :: m_ws) rm_X9_buffering (fun f => [.ref a0, .int p1]) Z S (some (.double rZ9)) SZ9 := by
  unfold f_X9_buffering at hf
  refine m_ent hl (by decide) (fun _ => Nat.le_of_ble_eq_true rfl) (fun x C F => ?_)
  have C : m_H x l RX9 cX9_buffering 2 rm_X9_buffering := C
  show m_G x Z S 2 0 0 0 [(0, .ref a0), (1, .int p1)] []
  refine r_aload_n (q := 1) C 0 dX9_buffering_0 rfl rfl ?_
  refine r_iconst (q := 2) (v := (0 : Int32)) C dX9_buffering_1 (by decide) rfl ?_
  obtain ⟨g1, hf⟩ := m_gd_of hf
  obtain ⟨S2, e3, hf⟩ := m_lt_of hf
  refine pf_X9_61 (q := 5) C dX9_buffering_2 g1 e3 rfl ?_
  refine r_aload_n (q := 6) C 0 dX9_buffering_5 rfl rfl ?_
  refine r_aload_n (q := 7) C 0 dX9_buffering_6 rfl rfl ?_
  refine r_iload_n (q := 8) C 1 dX9_buffering_7 rfl rfl ?_
  obtain ⟨v5, h4, hf⟩ := m_b1_of hf
  refine r_callV (mc := 0) (ms := 0) (q := 11) (st1 := [.int v5, .ref a0]) C (c_X9_isCase hl h4) rfl w_1146 w_1147 w_1356 w_11 w_1148 hd_X9_isCase rfl (by decide) g1 rfl rfl rfl ⟨(Nat.le_of_ble_eq_true rfl), (Nat.le_of_ble_eq_true rfl)⟩ (Nat.le_of_ble_eq_true rfl) ⟨(Nat.le_of_ble_eq_true rfl), (Nat.le_of_ble_eq_true rfl)⟩ dX9_buffering_8 rfl rfl ?_
  refine r_iconst (q := 12) (v := (1 : Int32)) C dX9_buffering_11 (by decide) rfl ?_
  obtain ⟨v8, S7, h6, hf⟩ := m_bw_of hf
  refine r_callV (mc := 0) (ms := 0) (q := 15) (st1 := [.int v8]) C (c_X9_may hl h6) rfl w_1024 w_1025 w_1333 w_11 w_1026 hd_X9_may rfl (by decide) g1 rfl rfl rfl ⟨(Nat.le_of_ble_eq_true rfl), (Nat.le_of_ble_eq_true rfl)⟩ (Nat.le_of_ble_eq_true rfl) ⟨(Nat.le_of_ble_eq_true rfl), (Nat.le_of_ble_eq_true rfl)⟩ dX9_buffering_12 rfl rfl ?_
  refine r_if_eq (t := 58) (q := 18) C dX9_buffering_15 (by decide) rfl (fun c9 => ?_) (fun c9 => ?_)
  · replace hf := m_if1 hf c9
    refine r_dconst0 (q := 59) C dX9_buffering_58 rfl ?_
    obtain ⟨rfl, rfl⟩ := m_so2 hf
    exact r_dret C F dX9_buffering_59
  · replace hf := m_if0 hf c9
    refine r_aload_n (q := 19) C 0 dX9_buffering_18 rfl rfl ?_
    refine r_aload_n (q := 20) C 0 dX9_buffering_19 rfl rfl ?_
    refine r_iload_n (q := 21) C 1 dX9_buffering_20 rfl rfl ?_
    obtain ⟨w11, h10, hf⟩ := m_b1_of hf
    refine r_callV (mc := 0) (ms := 0) (q := 24) (st1 := [.long w11, .ref a0]) C (c_X9_moistureOf hl h10) rfl w_958 w_959 w_1331 w_11 w_960 hd_X9_moistureOf rfl (by decide) g1 rfl rfl rfl ⟨(Nat.le_of_ble_eq_true rfl), (Nat.le_of_ble_eq_true rfl)⟩ (Nat.le_of_ble_eq_true rfl) ⟨(Nat.le_of_ble_eq_true rfl), (Nat.le_of_ble_eq_true rfl)⟩ dX9_buffering_21 rfl rfl ?_
    refine r_lconst (q := 25) (v := (0 : Int64)) C dX9_buffering_24 (by decide) rfl ?_
    refine r_lcmp (q := 26) C dX9_buffering_25 rfl ?_
    obtain ⟨j12, ej12, hf⟩ := m_jp_of hf
    have J12 : ∀ (v13 : Int32), j12 v13 = some (rZ9, SZ9) → m_G x Z S7 2 0 0 34 [(0, .ref a0), (1, .int p1)] [.int v13, .ref a0] := by
      intro v13 hf
      rw [ej12] at hf
      refine r_iconst (q := 35) (v := (2 : Int32)) C dX9_buffering_34 (by decide) rfl ?_
      obtain ⟨v16, S15, h14, hf⟩ := m_bw_of hf
      refine r_callV (mc := 0) (ms := 0) (q := 38) (st1 := [.int v16]) C (c_X9_may hl h14) rfl w_1024 w_1025 w_1333 w_11 w_1026 hd_X9_may rfl (by decide) g1 rfl rfl rfl ⟨(Nat.le_of_ble_eq_true rfl), (Nat.le_of_ble_eq_true rfl)⟩ (Nat.le_of_ble_eq_true rfl) ⟨(Nat.le_of_ble_eq_true rfl), (Nat.le_of_ble_eq_true rfl)⟩ dX9_buffering_35 rfl rfl ?_
      refine r_if_eq (t := 58) (q := 41) C dX9_buffering_38 (by decide) rfl (fun c17 => ?_) (fun c17 => ?_)
      · replace hf := m_if1 hf c17
        refine r_dconst0 (q := 59) C dX9_buffering_58 rfl ?_
        obtain ⟨rfl, rfl⟩ := m_so2 hf
        exact r_dret C F dX9_buffering_59
      · replace hf := m_if0 hf c17
        refine r_aload_n (q := 42) C 0 dX9_buffering_41 rfl rfl ?_
        refine r_iload_n (q := 43) C 1 dX9_buffering_42 rfl rfl ?_
        obtain ⟨v19, h18, hf⟩ := m_b1_of hf
        refine r_callV (mc := 0) (ms := 0) (q := 46) (st1 := [.int v19]) C (c_X9_inCassettes hl h18) rfl w_961 w_962 w_1332 w_11 w_963 hd_X9_inCassettes rfl (by decide) g1 rfl rfl rfl ⟨(Nat.le_of_ble_eq_true rfl), (Nat.le_of_ble_eq_true rfl)⟩ (Nat.le_of_ble_eq_true rfl) ⟨(Nat.le_of_ble_eq_true rfl), (Nat.le_of_ble_eq_true rfl)⟩ dX9_buffering_43 rfl rfl ?_
        refine r_i2f (q := 47) C dX9_buffering_46 rfl ?_
        refine r_aload_n (q := 48) C 0 dX9_buffering_47 rfl rfl ?_
        refine r_iload_n (q := 49) C 1 dX9_buffering_48 rfl rfl ?_
        obtain ⟨w21, h20, hf⟩ := m_b1_of hf
        refine r_callV (mc := 0) (ms := 0) (q := 52) (st1 := [.long w21, .float (FP.i2f v19)]) C (c_X9_moistureOf hl h20) rfl w_958 w_959 w_1331 w_11 w_960 hd_X9_moistureOf rfl (by decide) g1 rfl rfl rfl ⟨(Nat.le_of_ble_eq_true rfl), (Nat.le_of_ble_eq_true rfl)⟩ (Nat.le_of_ble_eq_true rfl) ⟨(Nat.le_of_ble_eq_true rfl), (Nat.le_of_ble_eq_true rfl)⟩ dX9_buffering_49 rfl rfl ?_
        refine r_l2f (q := 53) C dX9_buffering_52 rfl ?_
        obtain ⟨g22, hf⟩ := m_gd_of hf
        refine r_fdiv (q := 54) C dX9_buffering_53 (m_n32 g22) rfl ?_
        obtain ⟨g23, hf⟩ := m_gd_of hf
        refine r_f2d (q := 55) C dX9_buffering_54 (m_n64 g23) rfl ?_
        refine r_goto (t := 59) C dX9_buffering_55 (by decide) ?_
        obtain ⟨rfl, rfl⟩ := m_so2 hf
        exact r_dret C F dX9_buffering_59
    refine r_if_le (t := 33) (q := 29) C dX9_buffering_26 (by decide) rfl (fun c24 => ?_) (fun c24 => ?_)
    · replace hf := m_if1 hf c24
      refine r_iconst (q := 34) (v := (0 : Int32)) C dX9_buffering_33 (by decide) rfl ?_
      exact J12 (0 : Int32) hf
    · replace hf := m_if0 hf c24
      refine r_iconst (q := 30) (v := (1 : Int32)) C dX9_buffering_29 (by decide) rfl ?_
      refine r_goto (t := 34) C dX9_buffering_30 (by decide) ?_
      exact J12 (1 : Int32) hf
def f_X9_caseOf (Z : m_Z) (S : m_S) (a0 : Nat) (p1 : Int32) : Option (Int32 × m_S) := m_gd (m_ok Z a0 9) (m_lt (m_pI S a0 0 (0 : Int32)) (fun S2 => m_bw (f_X9_finds Z S2 a0 p1) (fun v6 S5 => m_bw (f_X9_may Z S5 a0 v6 (1 : Int32)) (fun v9 S8 => (if v9 = 0 then some ((0 : Int32), S8) else some ((S8.1 a0 23), S8))))))
abbrev rm_X9_caseOf : Room := { frames := 2, cells := 0, slots := 0, locals := 46 }
theorem hd_X9_caseOf : yX9_caseOf.cls = RX9 ∧ yX9_caseOf.cls ≠ "java/lang/invoke/MethodHandle" ∧ yX9_caseOf.cls ≠ "java/lang/invoke/VarHandle" ∧ (parseMethodDescriptor yX9_caseOf.desc).map (fun d => d.parameters.length) = some 1 := by decide +kernel
set_option maxHeartbeats 4000000 in
set_option maxRecDepth 100000 in
theorem c_X9_caseOf {l : Launch} (hl : l.stackTraces = false) {Z : m_Z} {S : m_S} {a0 : Nat} {p1 : Int32} {rZ9 : Int32} {SZ9 : m_S} (hf : f_X9_caseOf Z S a0 p1 = some (rZ9, SZ9)) : m_Ct l yX9_caseOf (.code yX9_caseOf cX9_caseOf 2 (some .int) :: m_ws) rm_X9_caseOf (fun f => [.ref a0, .int p1]) Z S (some (.int rZ9)) SZ9 := by
  unfold f_X9_caseOf at hf
  refine m_ent hl (by decide) (fun _ => Nat.le_of_ble_eq_true rfl) (fun x C F => ?_)
  have C : m_H x l RX9 cX9_caseOf 2 rm_X9_caseOf := C
  show m_G x Z S 2 0 0 0 [(0, .ref a0), (1, .int p1)] []
  refine r_aload_n (q := 1) C 0 dX9_caseOf_0 rfl rfl ?_
  refine r_iconst (q := 2) (v := (0 : Int32)) C dX9_caseOf_1 (by decide) rfl ?_
  obtain ⟨g1, hf⟩ := m_gd_of hf
  obtain ⟨S2, e3, hf⟩ := m_lt_of hf
  refine pf_X9_61 (q := 5) C dX9_caseOf_2 g1 e3 rfl ?_
  refine r_aload_n (q := 6) C 0 dX9_caseOf_5 rfl rfl ?_
  refine r_aload_n (q := 7) C 0 dX9_caseOf_6 rfl rfl ?_
  refine r_iload_n (q := 8) C 1 dX9_caseOf_7 rfl rfl ?_
  obtain ⟨v6, S5, h4, hf⟩ := m_bw_of hf
  refine r_callV (mc := 0) (ms := 0) (q := 11) (st1 := [.int v6, .ref a0]) C (c_X9_finds hl h4) rfl w_1202 w_1203 w_1361 w_11 w_1204 hd_X9_finds rfl (by decide) g1 rfl rfl rfl ⟨(Nat.le_of_ble_eq_true rfl), (Nat.le_of_ble_eq_true rfl)⟩ (Nat.le_of_ble_eq_true rfl) ⟨(Nat.le_of_ble_eq_true rfl), (Nat.le_of_ble_eq_true rfl)⟩ dX9_caseOf_8 rfl rfl ?_
  refine r_iconst (q := 12) (v := (1 : Int32)) C dX9_caseOf_11 (by decide) rfl ?_
  obtain ⟨v9, S8, h7, hf⟩ := m_bw_of hf
  refine r_callV (mc := 0) (ms := 0) (q := 15) (st1 := [.int v9]) C (c_X9_may hl h7) rfl w_1024 w_1025 w_1333 w_11 w_1026 hd_X9_may rfl (by decide) g1 rfl rfl rfl ⟨(Nat.le_of_ble_eq_true rfl), (Nat.le_of_ble_eq_true rfl)⟩ (Nat.le_of_ble_eq_true rfl) ⟨(Nat.le_of_ble_eq_true rfl), (Nat.le_of_ble_eq_true rfl)⟩ dX9_caseOf_12 rfl rfl ?_
  refine r_if_eq (t := 25) (q := 18) C dX9_caseOf_15 (by decide) rfl (fun c10 => ?_) (fun c10 => ?_)
  · replace hf := m_if1 hf c10
    refine r_iconst (q := 26) (v := (0 : Int32)) C dX9_caseOf_25 (by decide) rfl ?_
    obtain ⟨rfl, rfl⟩ := m_so2 hf
    exact r_iret C F dX9_caseOf_26
  · replace hf := m_if0 hf c10
    refine r_aload_n (q := 19) C 0 dX9_caseOf_18 rfl rfl ?_
    refine gf_X9_252 (q := 22) C dX9_caseOf_19 g1 rfl ?_
    refine r_goto (t := 26) C dX9_caseOf_22 (by decide) ?_
    obtain ⟨rfl, rfl⟩ := m_so2 hf
    exact r_iret C F dX9_caseOf_26
def F_X9_ownHumidity_4 (Z : m_Z) (S : m_S) (a0 : Nat) (p1 : Int32) (p2 : Int32) (j2 : (Int32 → Option (Int32))) (lp4 : Int32 → Option (Int32)) (v3 : Int32) : Option (Int32) := (if v3 < 0 then j2 v3 else m_gd (m_ok Z a0 9) (m_b1 (f_X9_its Z S a0 p1 p2 (1 : Int32)) (fun v11 => m_b1 (f_X9_its Z S a0 p1 p2 (2 : Int32)) (fun v13 => m_b1 (f_X9_wouldHave Z S a0 v11 v13 v3) (fun v15 => m_b1 (f_X9_its Z S a0 p1 p2 (3 : Int32)) (fun v17 => (if v15 ≤ v17 then j2 v3 else m_lt (v3 + (-1 : Int32)) (fun v19 => lp4 v19))))))))
def f_X9_ownHumidity (Z : m_Z) (S : m_S) (a0 : Nat) (p1 : Int32) (p2 : Int32) : Option (Int32) := m_jp (fun (v1 : Int32) => some v1) (fun j2 => m_fx (F_X9_ownHumidity_4 Z S a0 p1 p2 j2) 100000 (1000 : Int32))
abbrev rm_X9_ownHumidity : Room := { frames := 3, cells := 0, slots := 0, locals := 71 }
theorem hd_X9_ownHumidity : yX9_ownHumidity.cls = RX9 ∧ yX9_ownHumidity.cls ≠ "java/lang/invoke/MethodHandle" ∧ yX9_ownHumidity.cls ≠ "java/lang/invoke/VarHandle" ∧ (parseMethodDescriptor yX9_ownHumidity.desc).map (fun d => d.parameters.length) = some 2 := by decide +kernel
set_option maxHeartbeats 4000000 in
set_option maxRecDepth 100000 in
theorem c_X9_ownHumidity {l : Launch} (hl : l.stackTraces = false) {Z : m_Z} {S : m_S} {a0 : Nat} {p1 : Int32} {p2 : Int32} {rZ9 : Int32} (hf : f_X9_ownHumidity Z S a0 p1 p2 = some rZ9) : m_Ct l yX9_ownHumidity (.code yX9_ownHumidity cX9_ownHumidity 4 (some .int) :: m_ws) rm_X9_ownHumidity (fun f => [.ref a0, .int p1, .int p2]) Z S (some (.int rZ9)) S := by
  unfold f_X9_ownHumidity at hf
  refine m_ent hl (by decide) (fun _ => Nat.le_of_ble_eq_true rfl) (fun x C F => ?_)
  have C : m_H x l RX9 cX9_ownHumidity 4 rm_X9_ownHumidity := C
  show m_G x Z S 4 0 0 0 [(0, .ref a0), (1, .int p1), (2, .int p2)] []
  refine r_sipush (q := 3) (v := (1000 : Int32)) C dX9_ownHumidity_0 (by decide) rfl ?_
  refine r_istore_n (q := 4) (L' := [(3, .int (1000 : Int32)), (0, .ref a0), (1, .int p1), (2, .int p2)]) C dX9_ownHumidity_3 rfl rfl (by decide) rfl ?_
  obtain ⟨j2, ej2, hf⟩ := m_jp_of hf
  have J2 : ∀ (v1 : Int32), j2 v1 = some rZ9 → m_G x Z S 4 0 0 43 [(3, .int v1)] [] := by
    intro v1 hf
    rw [ej2] at hf
    refine r_iload_n (q := 44) C 0 dX9_ownHumidity_43 rfl rfl ?_
    obtain rfl := m_so1 hf
    exact r_iret C F dX9_ownHumidity_44
  have LL7 : ∀ (fu6 : Nat) (v3 : Int32), m_fx (F_X9_ownHumidity_4 Z S a0 p1 p2 j2) fu6 v3 = some rZ9 → m_G x Z S 4 0 0 4 [(0, .ref a0), (1, .int p1), (2, .int p2), (3, .int v3)] [] := by
    intro fu6
    induction fu6 with
    | zero => intros; rename_i hf; cases hf
    | succ fu6 ih5 =>
      intro v3 hf
      replace hf : F_X9_ownHumidity_4 Z S a0 p1 p2 j2 (m_fx (F_X9_ownHumidity_4 Z S a0 p1 p2 j2) fu6) v3 = some rZ9 := hf
      unfold F_X9_ownHumidity_4 at hf
      refine r_iload_n (q := 5) C 3 dX9_ownHumidity_4 rfl rfl ?_
      refine r_if_lt (t := 43) (q := 8) C dX9_ownHumidity_5 (by decide) rfl (fun c8 => ?_) (fun c8 => ?_)
      · replace hf := m_if1 hf c8
        refine r_sub [3] rfl ?_
        exact J2 v3 hf
      · replace hf := m_if0 hf c8
        refine r_aload_n (q := 9) C 0 dX9_ownHumidity_8 rfl rfl ?_
        refine r_aload_n (q := 10) C 0 dX9_ownHumidity_9 rfl rfl ?_
        refine r_iload_n (q := 11) C 1 dX9_ownHumidity_10 rfl rfl ?_
        refine r_iload_n (q := 12) C 2 dX9_ownHumidity_11 rfl rfl ?_
        refine r_iconst (q := 13) (v := (1 : Int32)) C dX9_ownHumidity_12 (by decide) rfl ?_
        obtain ⟨g9, hf⟩ := m_gd_of hf
        obtain ⟨v11, h10, hf⟩ := m_b1_of hf
        refine r_callV (mc := 0) (ms := 0) (q := 16) (st1 := [.int v11, .ref a0]) C (c_X9_its hl h10) rfl w_940 w_941 w_1326 w_11 w_942 hd_X9_its rfl (by decide) g9 rfl rfl rfl ⟨(Nat.le_of_ble_eq_true rfl), (Nat.le_of_ble_eq_true rfl)⟩ (Nat.le_of_ble_eq_true rfl) ⟨(Nat.le_of_ble_eq_true rfl), (Nat.le_of_ble_eq_true rfl)⟩ dX9_ownHumidity_13 rfl rfl ?_
        refine r_aload_n (q := 17) C 0 dX9_ownHumidity_16 rfl rfl ?_
        refine r_iload_n (q := 18) C 1 dX9_ownHumidity_17 rfl rfl ?_
        refine r_iload_n (q := 19) C 2 dX9_ownHumidity_18 rfl rfl ?_
        refine r_iconst (q := 20) (v := (2 : Int32)) C dX9_ownHumidity_19 (by decide) rfl ?_
        obtain ⟨v13, h12, hf⟩ := m_b1_of hf
        refine r_callV (mc := 0) (ms := 0) (q := 23) (st1 := [.int v13, .int v11, .ref a0]) C (c_X9_its hl h12) rfl w_940 w_941 w_1326 w_11 w_942 hd_X9_its rfl (by decide) g9 rfl rfl rfl ⟨(Nat.le_of_ble_eq_true rfl), (Nat.le_of_ble_eq_true rfl)⟩ (Nat.le_of_ble_eq_true rfl) ⟨(Nat.le_of_ble_eq_true rfl), (Nat.le_of_ble_eq_true rfl)⟩ dX9_ownHumidity_20 rfl rfl ?_
        refine r_iload_n (q := 24) C 3 dX9_ownHumidity_23 rfl rfl ?_
        obtain ⟨v15, h14, hf⟩ := m_b1_of hf
        refine r_callV (mc := 0) (ms := 0) (q := 27) (st1 := [.int v15]) C (c_X9_wouldHave hl h14) rfl w_943 w_944 w_1327 w_11 w_945 hd_X9_wouldHave rfl (by decide) g9 rfl rfl rfl ⟨(Nat.le_of_ble_eq_true rfl), (Nat.le_of_ble_eq_true rfl)⟩ (Nat.le_of_ble_eq_true rfl) ⟨(Nat.le_of_ble_eq_true rfl), (Nat.le_of_ble_eq_true rfl)⟩ dX9_ownHumidity_24 rfl rfl ?_
        refine r_aload_n (q := 28) C 0 dX9_ownHumidity_27 rfl rfl ?_
        refine r_iload_n (q := 29) C 1 dX9_ownHumidity_28 rfl rfl ?_
        refine r_iload_n (q := 30) C 2 dX9_ownHumidity_29 rfl rfl ?_
        refine r_iconst (q := 31) (v := (3 : Int32)) C dX9_ownHumidity_30 (by decide) rfl ?_
        obtain ⟨v17, h16, hf⟩ := m_b1_of hf
        refine r_callV (mc := 0) (ms := 0) (q := 34) (st1 := [.int v17, .int v15]) C (c_X9_its hl h16) rfl w_940 w_941 w_1326 w_11 w_942 hd_X9_its rfl (by decide) g9 rfl rfl rfl ⟨(Nat.le_of_ble_eq_true rfl), (Nat.le_of_ble_eq_true rfl)⟩ (Nat.le_of_ble_eq_true rfl) ⟨(Nat.le_of_ble_eq_true rfl), (Nat.le_of_ble_eq_true rfl)⟩ dX9_ownHumidity_31 rfl rfl ?_
        refine r_icmp_le (t := 43) (q := 37) C dX9_ownHumidity_34 (by decide) rfl (fun c18 => ?_) (fun c18 => ?_)
        · replace hf := m_if1 hf c18
          refine r_sub [3] rfl ?_
          exact J2 v3 hf
        · replace hf := m_if0 hf c18
          obtain ⟨v19, e20, hf⟩ := m_lt_of hf
          refine r_iinc (q := 40) (v := v19) (L' := [(3, .int v19), (0, .ref a0), (1, .int p1), (2, .int p2)]) C 3 dX9_ownHumidity_37 rfl (by rw [e20]; rfl) rfl (by decide) rfl ?_
          refine r_goto (t := 4) C dX9_ownHumidity_40 (by decide) ?_
          refine r_sub [1, 2, 3, 0] rfl ?_
          exact ih5 v19 hf
  refine r_sub [1, 2, 3, 0] rfl ?_
  exact LL7 100000 (1000 : Int32) hf
def f_X9_cassette (Z : m_Z) (S : m_S) (a0 : Nat) (p1 : Int32) (p2 : Int32) (p3 : Int32) : Option (Int32 × m_S) := m_gd (m_ok Z a0 9) (m_lt (m_pI S a0 0 (0 : Int32)) (fun S2 => m_b1 (f_X9_isCase Z S2 a0 p1) (fun v5 => m_jp (fun (v7 : Int32) => m_bw (f_X9_may Z S2 a0 v7 (1 : Int32)) (fun v10 S9 => (if v10 = 0 then some ((0 : Int32), S9) else m_b1 (f_X9_isIn Z S9 p3 (0 : Int32) (4 : Int32)) (fun v13 => m_bw (f_X9_may Z S9 a0 v13 (2 : Int32)) (fun v16 S15 => (if ¬ v16 = 0 then (if ¬ p3 = (4 : Int32) then m_b1 (f_X9_its Z S15 a0 p1 p2 p3) (fun v20 => some (v20, S15)) else m_b1 (f_X9_ownHumidity Z S15 a0 p1 p2) (fun v22 => some (v22, S15))) else some ((0 : Int32), S15))))))) (fun j6 => m_jp (fun (_ : Unit) => j6 (0 : Int32)) (fun j23 => (if v5 = 0 then j23 () else m_b1 (f_X9_of Z S2 a0 p1 (4 : Int32)) (fun v26 => m_b1 (f_X9_isIn Z S2 p2 (0 : Int32) (v26 - (1 : Int32))) (fun v28 => (if v28 = 0 then j23 () else j6 (1 : Int32))))))))))
abbrev rm_X9_cassette : Room := { frames := 4, cells := 0, slots := 0, locals := 94 }
theorem hd_X9_cassette : yX9_cassette.cls = RX9 ∧ yX9_cassette.cls ≠ "java/lang/invoke/MethodHandle" ∧ yX9_cassette.cls ≠ "java/lang/invoke/VarHandle" ∧ (parseMethodDescriptor yX9_cassette.desc).map (fun d => d.parameters.length) = some 3 := by decide +kernel
set_option maxHeartbeats 4000000 in
set_option maxRecDepth 100000 in
theorem c_X9_cassette {l : Launch} (hl : l.stackTraces = false) {Z : m_Z} {S : m_S} {a0 : Nat} {p1 : Int32} {p2 : Int32} {p3 : Int32} {rZ9 : Int32} {SZ9 : m_S} (hf : f_X9_cassette Z S a0 p1 p2 p3 = some (rZ9, SZ9)) : m_Ct l yX9_cassette (.code yX9_cassette cX9_cassette 4 (some .int) :: m_ws) rm_X9_cassette (fun f => [.ref a0, .int p1, .int p2, .int p3]) Z S (some (.int rZ9)) SZ9 := by
  unfold f_X9_cassette at hf
  refine m_ent hl (by decide) (fun _ => Nat.le_of_ble_eq_true rfl) (fun x C F => ?_)
  have C : m_H x l RX9 cX9_cassette 4 rm_X9_cassette := C
  show m_G x Z S 4 0 0 0 [(0, .ref a0), (1, .int p1), (2, .int p2), (3, .int p3)] []
  refine r_aload_n (q := 1) C 0 dX9_cassette_0 rfl rfl ?_
  refine r_iconst (q := 2) (v := (0 : Int32)) C dX9_cassette_1 (by decide) rfl ?_
  obtain ⟨g1, hf⟩ := m_gd_of hf
  obtain ⟨S2, e3, hf⟩ := m_lt_of hf
  refine pf_X9_61 (q := 5) C dX9_cassette_2 g1 e3 rfl ?_
  refine r_aload_n (q := 6) C 0 dX9_cassette_5 rfl rfl ?_
  refine r_aload_n (q := 7) C 0 dX9_cassette_6 rfl rfl ?_
  refine r_iload_n (q := 8) C 1 dX9_cassette_7 rfl rfl ?_
  obtain ⟨v5, h4, hf⟩ := m_b1_of hf
  refine r_callV (mc := 0) (ms := 0) (q := 11) (st1 := [.int v5, .ref a0]) C (c_X9_isCase hl h4) rfl w_1146 w_1147 w_1356 w_11 w_1148 hd_X9_isCase rfl (by decide) g1 rfl rfl rfl ⟨(Nat.le_of_ble_eq_true rfl), (Nat.le_of_ble_eq_true rfl)⟩ (Nat.le_of_ble_eq_true rfl) ⟨(Nat.le_of_ble_eq_true rfl), (Nat.le_of_ble_eq_true rfl)⟩ dX9_cassette_8 rfl rfl ?_
  obtain ⟨j6, ej6, hf⟩ := m_jp_of hf
  have J6 : ∀ (v7 : Int32), j6 v7 = some (rZ9, SZ9) → m_G x Z S2 4 0 0 35 [(0, .ref a0), (1, .int p1), (2, .int p2), (3, .int p3)] [.int v7, .ref a0] := by
    intro v7 hf
    rw [ej6] at hf
    refine r_iconst (q := 36) (v := (1 : Int32)) C dX9_cassette_35 (by decide) rfl ?_
    obtain ⟨v10, S9, h8, hf⟩ := m_bw_of hf
    refine r_callV (mc := 0) (ms := 0) (q := 39) (st1 := [.int v10]) C (c_X9_may hl h8) rfl w_1024 w_1025 w_1333 w_11 w_1026 hd_X9_may rfl (by decide) g1 rfl rfl rfl ⟨(Nat.le_of_ble_eq_true rfl), (Nat.le_of_ble_eq_true rfl)⟩ (Nat.le_of_ble_eq_true rfl) ⟨(Nat.le_of_ble_eq_true rfl), (Nat.le_of_ble_eq_true rfl)⟩ dX9_cassette_36 rfl rfl ?_
    refine r_if_eq (t := 56) (q := 42) C dX9_cassette_39 (by decide) rfl (fun c11 => ?_) (fun c11 => ?_)
    · replace hf := m_if1 hf c11
      refine r_iconst (q := 57) (v := (0 : Int32)) C dX9_cassette_56 (by decide) rfl ?_
      obtain ⟨rfl, rfl⟩ := m_so2 hf
      exact r_iret C F dX9_cassette_57
    · replace hf := m_if0 hf c11
      refine r_aload_n (q := 43) C 0 dX9_cassette_42 rfl rfl ?_
      refine r_iload_n (q := 44) C 3 dX9_cassette_43 rfl rfl ?_
      refine r_iconst (q := 45) (v := (0 : Int32)) C dX9_cassette_44 (by decide) rfl ?_
      refine r_iconst (q := 46) (v := (4 : Int32)) C dX9_cassette_45 (by decide) rfl ?_
      obtain ⟨v13, h12, hf⟩ := m_b1_of hf
      refine r_callS (mc := 0) (ms := 0) (q := 49) (st1 := [.int v13, .ref a0]) C (c_X9_isIn hl h12) rfl w_1031 w_1032 w_11 w_1033 hd_X9_isIn rfl rfl rfl ⟨(Nat.le_of_ble_eq_true rfl), (Nat.le_of_ble_eq_true rfl)⟩ (Nat.le_of_ble_eq_true rfl) ⟨(Nat.le_of_ble_eq_true rfl), (Nat.le_of_ble_eq_true rfl)⟩ dX9_cassette_46 rfl rfl ?_
      refine r_iconst (q := 50) (v := (2 : Int32)) C dX9_cassette_49 (by decide) rfl ?_
      obtain ⟨v16, S15, h14, hf⟩ := m_bw_of hf
      refine r_callV (mc := 0) (ms := 0) (q := 53) (st1 := [.int v16]) C (c_X9_may hl h14) rfl w_1024 w_1025 w_1333 w_11 w_1026 hd_X9_may rfl (by decide) g1 rfl rfl rfl ⟨(Nat.le_of_ble_eq_true rfl), (Nat.le_of_ble_eq_true rfl)⟩ (Nat.le_of_ble_eq_true rfl) ⟨(Nat.le_of_ble_eq_true rfl), (Nat.le_of_ble_eq_true rfl)⟩ dX9_cassette_50 rfl rfl ?_
      refine r_if_ne (t := 58) (q := 56) C dX9_cassette_53 (by decide) rfl (fun c17 => ?_) (fun c17 => ?_)
      · replace hf := m_if1 hf c17
        refine r_iload_n (q := 59) C 3 dX9_cassette_58 rfl rfl ?_
        refine r_iconst (q := 60) (v := (4 : Int32)) C dX9_cassette_59 (by decide) rfl ?_
        refine r_icmp_ne (t := 72) (q := 63) C dX9_cassette_60 (by decide) rfl (fun c18 => ?_) (fun c18 => ?_)
        · replace hf := m_if1 hf c18
          refine r_aload_n (q := 73) C 0 dX9_cassette_72 rfl rfl ?_
          refine r_iload_n (q := 74) C 1 dX9_cassette_73 rfl rfl ?_
          refine r_iload_n (q := 75) C 2 dX9_cassette_74 rfl rfl ?_
          refine r_iload_n (q := 76) C 3 dX9_cassette_75 rfl rfl ?_
          obtain ⟨v20, h19, hf⟩ := m_b1_of hf
          refine r_callV (mc := 0) (ms := 0) (q := 79) (st1 := [.int v20]) C (c_X9_its hl h19) rfl w_940 w_941 w_1326 w_11 w_942 hd_X9_its rfl (by decide) g1 rfl rfl rfl ⟨(Nat.le_of_ble_eq_true rfl), (Nat.le_of_ble_eq_true rfl)⟩ (Nat.le_of_ble_eq_true rfl) ⟨(Nat.le_of_ble_eq_true rfl), (Nat.le_of_ble_eq_true rfl)⟩ dX9_cassette_76 rfl rfl ?_
          obtain ⟨rfl, rfl⟩ := m_so2 hf
          exact r_iret C F dX9_cassette_79
        · replace hf := m_if0 hf (fun z => z c18)
          refine r_aload_n (q := 64) C 0 dX9_cassette_63 rfl rfl ?_
          refine r_iload_n (q := 65) C 1 dX9_cassette_64 rfl rfl ?_
          refine r_iload_n (q := 66) C 2 dX9_cassette_65 rfl rfl ?_
          obtain ⟨v22, h21, hf⟩ := m_b1_of hf
          refine r_callV (mc := 0) (ms := 0) (q := 69) (st1 := [.int v22]) C (c_X9_ownHumidity hl h21) rfl w_1195 w_1196 w_1360 w_11 w_1197 hd_X9_ownHumidity rfl (by decide) g1 rfl rfl rfl ⟨(Nat.le_of_ble_eq_true rfl), (Nat.le_of_ble_eq_true rfl)⟩ (Nat.le_of_ble_eq_true rfl) ⟨(Nat.le_of_ble_eq_true rfl), (Nat.le_of_ble_eq_true rfl)⟩ dX9_cassette_66 rfl rfl ?_
          refine r_goto (t := 79) C dX9_cassette_69 (by decide) ?_
          obtain ⟨rfl, rfl⟩ := m_so2 hf
          exact r_iret C F dX9_cassette_79
      · replace hf := m_if0 hf (fun z => z c17)
        refine r_iconst (q := 57) (v := (0 : Int32)) C dX9_cassette_56 (by decide) rfl ?_
        obtain ⟨rfl, rfl⟩ := m_so2 hf
        exact r_iret C F dX9_cassette_57
  obtain ⟨j23, ej23, hf⟩ := m_jp_of hf
  have J23 : ∀ (_ : Unit), j23 () = some (rZ9, SZ9) → m_G x Z S2 4 0 0 34 [(0, .ref a0), (1, .int p1), (2, .int p2), (3, .int p3)] [.ref a0] := by
    intro _ hf
    rw [ej23] at hf
    refine r_iconst (q := 35) (v := (0 : Int32)) C dX9_cassette_34 (by decide) rfl ?_
    exact J6 (0 : Int32) hf
  refine r_if_eq (t := 34) (q := 14) C dX9_cassette_11 (by decide) rfl (fun c24 => ?_) (fun c24 => ?_)
  · replace hf := m_if1 hf c24
    exact J23 ()  hf
  · replace hf := m_if0 hf c24
    refine r_iload_n (q := 15) C 2 dX9_cassette_14 rfl rfl ?_
    refine r_iconst (q := 16) (v := (0 : Int32)) C dX9_cassette_15 (by decide) rfl ?_
    refine r_aload_n (q := 17) C 0 dX9_cassette_16 rfl rfl ?_
    refine r_iload_n (q := 18) C 1 dX9_cassette_17 rfl rfl ?_
    refine r_iconst (q := 19) (v := (4 : Int32)) C dX9_cassette_18 (by decide) rfl ?_
    obtain ⟨v26, h25, hf⟩ := m_b1_of hf
    refine r_callV (mc := 0) (ms := 0) (q := 22) (st1 := [.int v26, .int (0 : Int32), .int p2, .ref a0]) C (c_X9_of hl h25) rfl w_937 w_938 w_1325 w_11 w_939 hd_X9_of rfl (by decide) g1 rfl rfl rfl ⟨(Nat.le_of_ble_eq_true rfl), (Nat.le_of_ble_eq_true rfl)⟩ (Nat.le_of_ble_eq_true rfl) ⟨(Nat.le_of_ble_eq_true rfl), (Nat.le_of_ble_eq_true rfl)⟩ dX9_cassette_19 rfl rfl ?_
    refine r_iconst (q := 23) (v := (1 : Int32)) C dX9_cassette_22 (by decide) rfl ?_
    refine r_isub (q := 24) C dX9_cassette_23 rfl ?_
    obtain ⟨v28, h27, hf⟩ := m_b1_of hf
    refine r_callS (mc := 0) (ms := 0) (q := 27) (st1 := [.int v28, .ref a0]) C (c_X9_isIn hl h27) rfl w_1031 w_1032 w_11 w_1033 hd_X9_isIn rfl rfl rfl ⟨(Nat.le_of_ble_eq_true rfl), (Nat.le_of_ble_eq_true rfl)⟩ (Nat.le_of_ble_eq_true rfl) ⟨(Nat.le_of_ble_eq_true rfl), (Nat.le_of_ble_eq_true rfl)⟩ dX9_cassette_24 rfl rfl ?_
    refine r_if_eq (t := 34) (q := 30) C dX9_cassette_27 (by decide) rfl (fun c29 => ?_) (fun c29 => ?_)
    · replace hf := m_if1 hf c29
      exact J23 ()  hf
    · replace hf := m_if0 hf c29
      refine r_iconst (q := 31) (v := (1 : Int32)) C dX9_cassette_30 (by decide) rfl ?_
      refine r_goto (t := 35) C dX9_cassette_31 (by decide) ?_
      exact J6 (1 : Int32) hf
def F_X9_cassettesInAll_4 (Z : m_Z) (S : m_S) (a0 : Nat) (j2 : (Int32 → Option (Int32))) (lp5 : (Int32 × Int32) → Option (Int32)) (p21 : (Int32 × Int32)) : Option (Int32) := match p21 with
  | (v3, v4) => m_gd (m_ok Z a0 9) (m_b1 (S.2.2 a0 1) (fun b10 => m_gd (m_ok Z b10 11) (m_gd (m_in (5 : Int32) (Z.2.2 b10)) ((if (S.1 b10 (5 : Int32).toNatClampNeg) ≤ v4 then j2 v3 else m_b1 (f_X9_of Z S a0 v4 (4 : Int32)) (fun v16 => m_lt (v3 + v16) (fun v17 => m_lt (v4 + (1 : Int32)) (fun v19 => lp5 (v17, v19)))))))))
def f_X9_cassettesInAll (Z : m_Z) (S : m_S) (a0 : Nat) : Option (Int32) := m_jp (fun (v1 : Int32) => some v1) (fun j2 => m_fx (F_X9_cassettesInAll_4 Z S a0 j2) 100000 ((0 : Int32), (0 : Int32)))
abbrev rm_X9_cassettesInAll : Room := { frames := 1, cells := 0, slots := 0, locals := 22 }
theorem hd_X9_cassettesInAll : yX9_cassettesInAll.cls = RX9 ∧ yX9_cassettesInAll.cls ≠ "java/lang/invoke/MethodHandle" ∧ yX9_cassettesInAll.cls ≠ "java/lang/invoke/VarHandle" ∧ (parseMethodDescriptor yX9_cassettesInAll.desc).map (fun d => d.parameters.length) = some 0 := by decide +kernel
set_option maxHeartbeats 4000000 in
set_option maxRecDepth 100000 in
theorem c_X9_cassettesInAll {l : Launch} (hl : l.stackTraces = false) {Z : m_Z} {S : m_S} {a0 : Nat} {rZ9 : Int32} (hf : f_X9_cassettesInAll Z S a0 = some rZ9) : m_Ct l yX9_cassettesInAll (.code yX9_cassettesInAll cX9_cassettesInAll 3 (some .int) :: m_ws) rm_X9_cassettesInAll (fun f => [.ref a0]) Z S (some (.int rZ9)) S := by
  unfold f_X9_cassettesInAll at hf
  refine m_ent hl (by decide) (fun _ => Nat.le_of_ble_eq_true rfl) (fun x C F => ?_)
  have C : m_H x l RX9 cX9_cassettesInAll 3 rm_X9_cassettesInAll := C
  show m_G x Z S 3 0 0 0 [(0, .ref a0)] []
  refine r_iconst (q := 1) (v := (0 : Int32)) C dX9_cassettesInAll_0 (by decide) rfl ?_
  refine r_istore_n (q := 2) (L' := [(1, .int (0 : Int32)), (0, .ref a0)]) C dX9_cassettesInAll_1 rfl rfl (by decide) rfl ?_
  refine r_iconst (q := 3) (v := (0 : Int32)) C dX9_cassettesInAll_2 (by decide) rfl ?_
  refine r_istore_n (q := 4) (L' := [(2, .int (0 : Int32)), (1, .int (0 : Int32)), (0, .ref a0)]) C dX9_cassettesInAll_3 rfl rfl (by decide) rfl ?_
  obtain ⟨j2, ej2, hf⟩ := m_jp_of hf
  have J2 : ∀ (v1 : Int32), j2 v1 = some rZ9 → m_G x Z S 3 0 0 29 [(1, .int v1)] [] := by
    intro v1 hf
    rw [ej2] at hf
    refine r_iload_n (q := 30) C 0 dX9_cassettesInAll_29 rfl rfl ?_
    obtain rfl := m_so1 hf
    exact r_iret C F dX9_cassettesInAll_30
  have LL8 : ∀ (fu7 : Nat) (v3 : Int32) (v4 : Int32), m_fx (F_X9_cassettesInAll_4 Z S a0 j2) fu7 (v3, v4) = some rZ9 → m_G x Z S 3 0 0 4 [(0, .ref a0), (1, .int v3), (2, .int v4)] [] := by
    intro fu7
    induction fu7 with
    | zero => intros; rename_i hf; cases hf
    | succ fu7 ih6 =>
      intro v3 v4 hf
      replace hf : F_X9_cassettesInAll_4 Z S a0 j2 (m_fx (F_X9_cassettesInAll_4 Z S a0 j2) fu7) (v3, v4) = some rZ9 := hf
      unfold F_X9_cassettesInAll_4 at hf
      dsimp only at hf
      refine r_iload_n (q := 5) C 2 dX9_cassettesInAll_4 rfl rfl ?_
      refine r_aload_n (q := 6) C 0 dX9_cassettesInAll_5 rfl rfl ?_
      obtain ⟨g9, hf⟩ := m_gd_of hf
      obtain ⟨b10, e11, hf⟩ := m_b1_of hf
      refine gf_X9_7 (q := 9) C dX9_cassettesInAll_6 g9 e11 rfl ?_
      refine r_iconst (q := 10) (v := (5 : Int32)) C dX9_cassettesInAll_9 (by decide) rfl ?_
      obtain ⟨g12, hf⟩ := m_gd_of hf
      obtain ⟨g13, hf⟩ := m_gd_of hf
      refine r_iald (q := 11) C dX9_cassettesInAll_10 ⟨g12, g13⟩ rfl ?_
      refine r_icmp_ge (t := 29) (q := 14) C dX9_cassettesInAll_11 (by decide) rfl (fun c14 => ?_) (fun c14 => ?_)
      · replace hf := m_if1 hf c14
        refine r_sub [1] rfl ?_
        exact J2 v3 hf
      · replace hf := m_if0 hf c14
        refine r_iload_n (q := 15) C 1 dX9_cassettesInAll_14 rfl rfl ?_
        refine r_aload_n (q := 16) C 0 dX9_cassettesInAll_15 rfl rfl ?_
        refine r_iload_n (q := 17) C 2 dX9_cassettesInAll_16 rfl rfl ?_
        refine r_iconst (q := 18) (v := (4 : Int32)) C dX9_cassettesInAll_17 (by decide) rfl ?_
        obtain ⟨v16, h15, hf⟩ := m_b1_of hf
        refine r_callV (mc := 0) (ms := 0) (q := 21) (st1 := [.int v16, .int v3]) C (c_X9_of hl h15) rfl w_937 w_938 w_1325 w_11 w_939 hd_X9_of rfl (by decide) g9 rfl rfl rfl ⟨(Nat.le_of_ble_eq_true rfl), (Nat.le_of_ble_eq_true rfl)⟩ (Nat.le_of_ble_eq_true rfl) ⟨(Nat.le_of_ble_eq_true rfl), (Nat.le_of_ble_eq_true rfl)⟩ dX9_cassettesInAll_18 rfl rfl ?_
        refine r_iadd (q := 22) C dX9_cassettesInAll_21 rfl ?_
        obtain ⟨v17, e18, hf⟩ := m_lt_of hf
        refine r_nm e18 ?_
        refine r_istore_n (q := 23) (L' := [(1, .int v17), (0, .ref a0), (2, .int v4)]) C dX9_cassettesInAll_22 rfl rfl (by decide) rfl ?_
        obtain ⟨v19, e20, hf⟩ := m_lt_of hf
        refine r_iinc (q := 26) (v := v19) (L' := [(2, .int v19), (1, .int v17), (0, .ref a0)]) C 2 dX9_cassettesInAll_23 rfl (by rw [e20]; rfl) rfl (by decide) rfl ?_
        refine r_goto (t := 4) C dX9_cassettesInAll_26 (by decide) ?_
        refine r_sub [2, 1, 0] rfl ?_
        exact ih6 v17 v19 hf
  refine r_sub [2, 1, 0] rfl ?_
  exact LL8 100000 (0 : Int32) (0 : Int32) hf
def f_X9_content (Z : m_Z) (S : m_S) (a0 : Nat) (p1 : Int32) (p2 : Int32) : Option (Int32 × m_S) := m_gd (m_ok Z a0 9) (m_lt (m_pI S a0 0 (0 : Int32)) (fun S2 => m_b1 (f_X9_isKind Z S2 a0 p1) (fun v5 => m_bw (f_X9_may Z S2 a0 v5 (1 : Int32)) (fun v8 S7 => (if v8 = 0 then some ((0 : Int32), S7) else m_b1 (f_X9_contentOf Z S7 a0 p1 p2) (fun v11 => some (v11, S7)))))))
abbrev rm_X9_content : Room := { frames := 2, cells := 0, slots := 0, locals := 48 }
theorem hd_X9_content : yX9_content.cls = RX9 ∧ yX9_content.cls ≠ "java/lang/invoke/MethodHandle" ∧ yX9_content.cls ≠ "java/lang/invoke/VarHandle" ∧ (parseMethodDescriptor yX9_content.desc).map (fun d => d.parameters.length) = some 2 := by decide +kernel
set_option maxHeartbeats 4000000 in
set_option maxRecDepth 100000 in
theorem c_X9_content {l : Launch} (hl : l.stackTraces = false) {Z : m_Z} {S : m_S} {a0 : Nat} {p1 : Int32} {p2 : Int32} {rZ9 : Int32} {SZ9 : m_S} (hf : f_X9_content Z S a0 p1 p2 = some (rZ9, SZ9)) : m_Ct l yX9_content (.code yX9_content cX9_content 3 (some .int) :: m_ws) rm_X9_content (fun f => [.ref a0, .int p1, .int p2]) Z S (some (.int rZ9)) SZ9 := by
  unfold f_X9_content at hf
  refine m_ent hl (by decide) (fun _ => Nat.le_of_ble_eq_true rfl) (fun x C F => ?_)
  have C : m_H x l RX9 cX9_content 3 rm_X9_content := C
  show m_G x Z S 3 0 0 0 [(0, .ref a0), (1, .int p1), (2, .int p2)] []
  refine r_aload_n (q := 1) C 0 dX9_content_0 rfl rfl ?_
  refine r_iconst (q := 2) (v := (0 : Int32)) C dX9_content_1 (by decide) rfl ?_
  obtain ⟨g1, hf⟩ := m_gd_of hf
  obtain ⟨S2, e3, hf⟩ := m_lt_of hf
  refine pf_X9_61 (q := 5) C dX9_content_2 g1 e3 rfl ?_
  refine r_aload_n (q := 6) C 0 dX9_content_5 rfl rfl ?_
  refine r_aload_n (q := 7) C 0 dX9_content_6 rfl rfl ?_
  refine r_iload_n (q := 8) C 1 dX9_content_7 rfl rfl ?_
  obtain ⟨v5, h4, hf⟩ := m_b1_of hf
  refine r_callV (mc := 0) (ms := 0) (q := 11) (st1 := [.int v5, .ref a0]) C (c_X9_isKind hl h4) rfl w_1135 w_1136 w_1355 w_11 w_1137 hd_X9_isKind rfl (by decide) g1 rfl rfl rfl ⟨(Nat.le_of_ble_eq_true rfl), (Nat.le_of_ble_eq_true rfl)⟩ (Nat.le_of_ble_eq_true rfl) ⟨(Nat.le_of_ble_eq_true rfl), (Nat.le_of_ble_eq_true rfl)⟩ dX9_content_8 rfl rfl ?_
  refine r_iconst (q := 12) (v := (1 : Int32)) C dX9_content_11 (by decide) rfl ?_
  obtain ⟨v8, S7, h6, hf⟩ := m_bw_of hf
  refine r_callV (mc := 0) (ms := 0) (q := 15) (st1 := [.int v8]) C (c_X9_may hl h6) rfl w_1024 w_1025 w_1333 w_11 w_1026 hd_X9_may rfl (by decide) g1 rfl rfl rfl ⟨(Nat.le_of_ble_eq_true rfl), (Nat.le_of_ble_eq_true rfl)⟩ (Nat.le_of_ble_eq_true rfl) ⟨(Nat.le_of_ble_eq_true rfl), (Nat.le_of_ble_eq_true rfl)⟩ dX9_content_12 rfl rfl ?_
  refine r_if_eq (t := 27) (q := 18) C dX9_content_15 (by decide) rfl (fun c9 => ?_) (fun c9 => ?_)
  · replace hf := m_if1 hf c9
    refine r_iconst (q := 28) (v := (0 : Int32)) C dX9_content_27 (by decide) rfl ?_
    obtain ⟨rfl, rfl⟩ := m_so2 hf
    exact r_iret C F dX9_content_28
  · replace hf := m_if0 hf c9
    refine r_aload_n (q := 19) C 0 dX9_content_18 rfl rfl ?_
    refine r_iload_n (q := 20) C 1 dX9_content_19 rfl rfl ?_
    refine r_iload_n (q := 21) C 2 dX9_content_20 rfl rfl ?_
    obtain ⟨v11, h10, hf⟩ := m_b1_of hf
    refine r_callV (mc := 0) (ms := 0) (q := 24) (st1 := [.int v11]) C (c_X9_contentOf hl h10) rfl w_946 w_947 w_1328 w_11 w_948 hd_X9_contentOf rfl (by decide) g1 rfl rfl rfl ⟨(Nat.le_of_ble_eq_true rfl), (Nat.le_of_ble_eq_true rfl)⟩ (Nat.le_of_ble_eq_true rfl) ⟨(Nat.le_of_ble_eq_true rfl), (Nat.le_of_ble_eq_true rfl)⟩ dX9_content_21 rfl rfl ?_
    refine r_goto (t := 28) C dX9_content_24 (by decide) ?_
    obtain ⟨rfl, rfl⟩ := m_so2 hf
    exact r_iret C F dX9_content_28
def f_X9_displayCase (Z : m_Z) (S : m_S) (a0 : Nat) (p1 : Int32) (p2 : Int32) : Option (Int32 × m_S) := m_gd (m_ok Z a0 9) (m_lt (m_pI S a0 0 (0 : Int32)) (fun S2 => m_b1 (f_X9_isCase Z S2 a0 p1) (fun v5 => m_bw (f_X9_may Z S2 a0 v5 (1 : Int32)) (fun v8 S7 => (if v8 = 0 then some ((0 : Int32), S7) else m_b1 (f_X9_isIn Z S7 p2 (0 : Int32) (10 : Int32)) (fun v11 => m_bw (f_X9_may Z S7 a0 v11 (2 : Int32)) (fun v14 S13 => (if ¬ v14 = 0 then (if p2 = Int32.ofNat 0 then m_b1 (S13.2.2 a0 1) (fun b17 => m_gd (m_ok Z b17 11) (m_lt ((110 : Int32) + p1) (fun v20 => m_gd (m_in v20 (Z.2.2 b17)) (some ((S13.1 b17 v20.toNatClampNeg), S13))))) else (if p2 = Int32.ofNat 1 then m_b1 (f_X9_of Z S13 a0 p1 (0 : Int32)) (fun v25 => some (v25, S13)) else (if p2 = Int32.ofNat 2 then m_b1 (f_X9_of Z S13 a0 p1 (3 : Int32)) (fun v28 => some (v28, S13)) else (if p2 = Int32.ofNat 3 then m_b1 (f_X9_humidityOf Z S13 a0 p1) (fun v31 => some (v31, S13)) else (if p2 = Int32.ofNat 4 then m_b1 (f_X9_of Z S13 a0 p1 (4 : Int32)) (fun v34 => some (v34, S13)) else (if p2 = Int32.ofNat 5 then m_b1 (f_X9_inCassettes Z S13 a0 p1) (fun v37 => some (v37, S13)) else (if p2 = Int32.ofNat 6 then m_b1 (f_X9_of Z S13 a0 p1 (1 : Int32)) (fun v40 => some (v40, S13)) else (if p2 = Int32.ofNat 7 then m_b1 (f_X9_of Z S13 a0 p1 (2 : Int32)) (fun v43 => some (v43, S13)) else (if p2 = Int32.ofNat 8 then m_b1 (f_X9_of Z S13 a0 p1 (5 : Int32)) (fun v46 => some (v46, S13)) else (if p2 = Int32.ofNat 9 then m_b1 (f_X9_of Z S13 a0 p1 (6 : Int32)) (fun v49 => some (v49, S13)) else m_b1 (f_X9_of Z S13 a0 p1 (7 : Int32)) (fun v51 => some (v51, S13)))))))))))) else some ((0 : Int32), S13)))))))))
abbrev rm_X9_displayCase : Room := { frames := 2, cells := 0, slots := 0, locals := 46 }
theorem hd_X9_displayCase : yX9_displayCase.cls = RX9 ∧ yX9_displayCase.cls ≠ "java/lang/invoke/MethodHandle" ∧ yX9_displayCase.cls ≠ "java/lang/invoke/VarHandle" ∧ (parseMethodDescriptor yX9_displayCase.desc).map (fun d => d.parameters.length) = some 2 := by decide +kernel
set_option maxHeartbeats 4000000 in
set_option maxRecDepth 100000 in
theorem c_X9_displayCase {l : Launch} (hl : l.stackTraces = false) {Z : m_Z} {S : m_S} {a0 : Nat} {p1 : Int32} {p2 : Int32} {rZ9 : Int32} {SZ9 : m_S} (hf : f_X9_displayCase Z S a0 p1 p2 = some (rZ9, SZ9)) : m_Ct l yX9_displayCase (.code yX9_displayCase cX9_displayCase 3 (some .int) :: m_ws) rm_X9_displayCase (fun f => [.ref a0, .int p1, .int p2]) Z S (some (.int rZ9)) SZ9 := by
  unfold f_X9_displayCase at hf
  refine m_ent hl (by decide) (fun _ => Nat.le_of_ble_eq_true rfl) (fun x C F => ?_)
  have C : m_H x l RX9 cX9_displayCase 3 rm_X9_displayCase := C
  show m_G x Z S 3 0 0 0 [(0, .ref a0), (1, .int p1), (2, .int p2)] []
  refine r_aload_n (q := 1) C 0 dX9_displayCase_0 rfl rfl ?_
  refine r_iconst (q := 2) (v := (0 : Int32)) C dX9_displayCase_1 (by decide) rfl ?_
  obtain ⟨g1, hf⟩ := m_gd_of hf
  obtain ⟨S2, e3, hf⟩ := m_lt_of hf
  refine pf_X9_61 (q := 5) C dX9_displayCase_2 g1 e3 rfl ?_
  refine r_aload_n (q := 6) C 0 dX9_displayCase_5 rfl rfl ?_
  refine r_aload_n (q := 7) C 0 dX9_displayCase_6 rfl rfl ?_
  refine r_iload_n (q := 8) C 1 dX9_displayCase_7 rfl rfl ?_
  obtain ⟨v5, h4, hf⟩ := m_b1_of hf
  refine r_callV (mc := 0) (ms := 0) (q := 11) (st1 := [.int v5, .ref a0]) C (c_X9_isCase hl h4) rfl w_1146 w_1147 w_1356 w_11 w_1148 hd_X9_isCase rfl (by decide) g1 rfl rfl rfl ⟨(Nat.le_of_ble_eq_true rfl), (Nat.le_of_ble_eq_true rfl)⟩ (Nat.le_of_ble_eq_true rfl) ⟨(Nat.le_of_ble_eq_true rfl), (Nat.le_of_ble_eq_true rfl)⟩ dX9_displayCase_8 rfl rfl ?_
  refine r_iconst (q := 12) (v := (1 : Int32)) C dX9_displayCase_11 (by decide) rfl ?_
  obtain ⟨v8, S7, h6, hf⟩ := m_bw_of hf
  refine r_callV (mc := 0) (ms := 0) (q := 15) (st1 := [.int v8]) C (c_X9_may hl h6) rfl w_1024 w_1025 w_1333 w_11 w_1026 hd_X9_may rfl (by decide) g1 rfl rfl rfl ⟨(Nat.le_of_ble_eq_true rfl), (Nat.le_of_ble_eq_true rfl)⟩ (Nat.le_of_ble_eq_true rfl) ⟨(Nat.le_of_ble_eq_true rfl), (Nat.le_of_ble_eq_true rfl)⟩ dX9_displayCase_12 rfl rfl ?_
  refine r_if_eq (t := 33) (q := 18) C dX9_displayCase_15 (by decide) rfl (fun c9 => ?_) (fun c9 => ?_)
  · replace hf := m_if1 hf c9
    refine r_iconst (q := 34) (v := (0 : Int32)) C dX9_displayCase_33 (by decide) rfl ?_
    obtain ⟨rfl, rfl⟩ := m_so2 hf
    exact r_iret C F dX9_displayCase_34
  · replace hf := m_if0 hf c9
    refine r_aload_n (q := 19) C 0 dX9_displayCase_18 rfl rfl ?_
    refine r_iload_n (q := 20) C 2 dX9_displayCase_19 rfl rfl ?_
    refine r_iconst (q := 21) (v := (0 : Int32)) C dX9_displayCase_20 (by decide) rfl ?_
    refine r_bipush (q := 23) (v := (10 : Int32)) C dX9_displayCase_21 (by decide) rfl ?_
    obtain ⟨v11, h10, hf⟩ := m_b1_of hf
    refine r_callS (mc := 0) (ms := 0) (q := 26) (st1 := [.int v11, .ref a0]) C (c_X9_isIn hl h10) rfl w_1031 w_1032 w_11 w_1033 hd_X9_isIn rfl rfl rfl ⟨(Nat.le_of_ble_eq_true rfl), (Nat.le_of_ble_eq_true rfl)⟩ (Nat.le_of_ble_eq_true rfl) ⟨(Nat.le_of_ble_eq_true rfl), (Nat.le_of_ble_eq_true rfl)⟩ dX9_displayCase_23 rfl rfl ?_
    refine r_iconst (q := 27) (v := (2 : Int32)) C dX9_displayCase_26 (by decide) rfl ?_
    obtain ⟨v14, S13, h12, hf⟩ := m_bw_of hf
    refine r_callV (mc := 0) (ms := 0) (q := 30) (st1 := [.int v14]) C (c_X9_may hl h12) rfl w_1024 w_1025 w_1333 w_11 w_1026 hd_X9_may rfl (by decide) g1 rfl rfl rfl ⟨(Nat.le_of_ble_eq_true rfl), (Nat.le_of_ble_eq_true rfl)⟩ (Nat.le_of_ble_eq_true rfl) ⟨(Nat.le_of_ble_eq_true rfl), (Nat.le_of_ble_eq_true rfl)⟩ dX9_displayCase_27 rfl rfl ?_
    refine r_if_ne (t := 35) (q := 33) C dX9_displayCase_30 (by decide) rfl (fun c15 => ?_) (fun c15 => ?_)
    · replace hf := m_if1 hf c15
      refine r_iload_n (q := 36) C 2 dX9_displayCase_35 rfl rfl ?_
      by_cases c16 : p2 = Int32.ofNat 0
      · replace hf := m_if1 hf c16
        refine r_tsw (N := 0) (t := 92) (v := 0) C dX9_displayCase_36 c16 (by decide) (by decide) rfl (by decide) ?_
        refine r_aload_n (q := 93) C 0 dX9_displayCase_92 rfl rfl ?_
        obtain ⟨b17, e18, hf⟩ := m_b1_of hf
        refine gf_X9_7 (q := 96) C dX9_displayCase_93 g1 e18 rfl ?_
        refine r_bipush (q := 98) (v := (110 : Int32)) C dX9_displayCase_96 (by decide) rfl ?_
        refine r_iload_n (q := 99) C 1 dX9_displayCase_98 rfl rfl ?_
        refine r_iadd (q := 100) C dX9_displayCase_99 rfl ?_
        obtain ⟨g19, hf⟩ := m_gd_of hf
        obtain ⟨v20, e21, hf⟩ := m_lt_of hf
        refine r_nm e21 ?_
        obtain ⟨g22, hf⟩ := m_gd_of hf
        refine r_iald (q := 101) C dX9_displayCase_100 ⟨g19, g22⟩ rfl ?_
        obtain ⟨rfl, rfl⟩ := m_so2 hf
        exact r_iret C F dX9_displayCase_101
      · replace hf := m_if0 hf c16
        by_cases c23 : p2 = Int32.ofNat 1
        · replace hf := m_if1 hf c23
          refine r_tsw (N := 0) (t := 102) (v := 1) C dX9_displayCase_36 c23 (by decide) (by decide) rfl (by decide) ?_
          refine r_aload_n (q := 103) C 0 dX9_displayCase_102 rfl rfl ?_
          refine r_iload_n (q := 104) C 1 dX9_displayCase_103 rfl rfl ?_
          refine r_iconst (q := 105) (v := (0 : Int32)) C dX9_displayCase_104 (by decide) rfl ?_
          obtain ⟨v25, h24, hf⟩ := m_b1_of hf
          refine r_callV (mc := 0) (ms := 0) (q := 108) (st1 := [.int v25]) C (c_X9_of hl h24) rfl w_937 w_938 w_1325 w_11 w_939 hd_X9_of rfl (by decide) g1 rfl rfl rfl ⟨(Nat.le_of_ble_eq_true rfl), (Nat.le_of_ble_eq_true rfl)⟩ (Nat.le_of_ble_eq_true rfl) ⟨(Nat.le_of_ble_eq_true rfl), (Nat.le_of_ble_eq_true rfl)⟩ dX9_displayCase_105 rfl rfl ?_
          obtain ⟨rfl, rfl⟩ := m_so2 hf
          exact r_iret C F dX9_displayCase_108
        · replace hf := m_if0 hf c23
          by_cases c26 : p2 = Int32.ofNat 2
          · replace hf := m_if1 hf c26
            refine r_tsw (N := 0) (t := 109) (v := 2) C dX9_displayCase_36 c26 (by decide) (by decide) rfl (by decide) ?_
            refine r_aload_n (q := 110) C 0 dX9_displayCase_109 rfl rfl ?_
            refine r_iload_n (q := 111) C 1 dX9_displayCase_110 rfl rfl ?_
            refine r_iconst (q := 112) (v := (3 : Int32)) C dX9_displayCase_111 (by decide) rfl ?_
            obtain ⟨v28, h27, hf⟩ := m_b1_of hf
            refine r_callV (mc := 0) (ms := 0) (q := 115) (st1 := [.int v28]) C (c_X9_of hl h27) rfl w_937 w_938 w_1325 w_11 w_939 hd_X9_of rfl (by decide) g1 rfl rfl rfl ⟨(Nat.le_of_ble_eq_true rfl), (Nat.le_of_ble_eq_true rfl)⟩ (Nat.le_of_ble_eq_true rfl) ⟨(Nat.le_of_ble_eq_true rfl), (Nat.le_of_ble_eq_true rfl)⟩ dX9_displayCase_112 rfl rfl ?_
            obtain ⟨rfl, rfl⟩ := m_so2 hf
            exact r_iret C F dX9_displayCase_115
          · replace hf := m_if0 hf c26
            by_cases c29 : p2 = Int32.ofNat 3
            · replace hf := m_if1 hf c29
              refine r_tsw (N := 0) (t := 116) (v := 3) C dX9_displayCase_36 c29 (by decide) (by decide) rfl (by decide) ?_
              refine r_aload_n (q := 117) C 0 dX9_displayCase_116 rfl rfl ?_
              refine r_iload_n (q := 118) C 1 dX9_displayCase_117 rfl rfl ?_
              obtain ⟨v31, h30, hf⟩ := m_b1_of hf
              refine r_callV (mc := 0) (ms := 0) (q := 121) (st1 := [.int v31]) C (c_X9_humidityOf hl h30) rfl w_1149 w_1150 w_1357 w_11 w_1151 hd_X9_humidityOf rfl (by decide) g1 rfl rfl rfl ⟨(Nat.le_of_ble_eq_true rfl), (Nat.le_of_ble_eq_true rfl)⟩ (Nat.le_of_ble_eq_true rfl) ⟨(Nat.le_of_ble_eq_true rfl), (Nat.le_of_ble_eq_true rfl)⟩ dX9_displayCase_118 rfl rfl ?_
              obtain ⟨rfl, rfl⟩ := m_so2 hf
              exact r_iret C F dX9_displayCase_121
            · replace hf := m_if0 hf c29
              by_cases c32 : p2 = Int32.ofNat 4
              · replace hf := m_if1 hf c32
                refine r_tsw (N := 0) (t := 122) (v := 4) C dX9_displayCase_36 c32 (by decide) (by decide) rfl (by decide) ?_
                refine r_aload_n (q := 123) C 0 dX9_displayCase_122 rfl rfl ?_
                refine r_iload_n (q := 124) C 1 dX9_displayCase_123 rfl rfl ?_
                refine r_iconst (q := 125) (v := (4 : Int32)) C dX9_displayCase_124 (by decide) rfl ?_
                obtain ⟨v34, h33, hf⟩ := m_b1_of hf
                refine r_callV (mc := 0) (ms := 0) (q := 128) (st1 := [.int v34]) C (c_X9_of hl h33) rfl w_937 w_938 w_1325 w_11 w_939 hd_X9_of rfl (by decide) g1 rfl rfl rfl ⟨(Nat.le_of_ble_eq_true rfl), (Nat.le_of_ble_eq_true rfl)⟩ (Nat.le_of_ble_eq_true rfl) ⟨(Nat.le_of_ble_eq_true rfl), (Nat.le_of_ble_eq_true rfl)⟩ dX9_displayCase_125 rfl rfl ?_
                obtain ⟨rfl, rfl⟩ := m_so2 hf
                exact r_iret C F dX9_displayCase_128
              · replace hf := m_if0 hf c32
                by_cases c35 : p2 = Int32.ofNat 5
                · replace hf := m_if1 hf c35
                  refine r_tsw (N := 0) (t := 129) (v := 5) C dX9_displayCase_36 c35 (by decide) (by decide) rfl (by decide) ?_
                  refine r_aload_n (q := 130) C 0 dX9_displayCase_129 rfl rfl ?_
                  refine r_iload_n (q := 131) C 1 dX9_displayCase_130 rfl rfl ?_
                  obtain ⟨v37, h36, hf⟩ := m_b1_of hf
                  refine r_callV (mc := 0) (ms := 0) (q := 134) (st1 := [.int v37]) C (c_X9_inCassettes hl h36) rfl w_961 w_962 w_1332 w_11 w_963 hd_X9_inCassettes rfl (by decide) g1 rfl rfl rfl ⟨(Nat.le_of_ble_eq_true rfl), (Nat.le_of_ble_eq_true rfl)⟩ (Nat.le_of_ble_eq_true rfl) ⟨(Nat.le_of_ble_eq_true rfl), (Nat.le_of_ble_eq_true rfl)⟩ dX9_displayCase_131 rfl rfl ?_
                  obtain ⟨rfl, rfl⟩ := m_so2 hf
                  exact r_iret C F dX9_displayCase_134
                · replace hf := m_if0 hf c35
                  by_cases c38 : p2 = Int32.ofNat 6
                  · replace hf := m_if1 hf c38
                    refine r_tsw (N := 0) (t := 135) (v := 6) C dX9_displayCase_36 c38 (by decide) (by decide) rfl (by decide) ?_
                    refine r_aload_n (q := 136) C 0 dX9_displayCase_135 rfl rfl ?_
                    refine r_iload_n (q := 137) C 1 dX9_displayCase_136 rfl rfl ?_
                    refine r_iconst (q := 138) (v := (1 : Int32)) C dX9_displayCase_137 (by decide) rfl ?_
                    obtain ⟨v40, h39, hf⟩ := m_b1_of hf
                    refine r_callV (mc := 0) (ms := 0) (q := 141) (st1 := [.int v40]) C (c_X9_of hl h39) rfl w_937 w_938 w_1325 w_11 w_939 hd_X9_of rfl (by decide) g1 rfl rfl rfl ⟨(Nat.le_of_ble_eq_true rfl), (Nat.le_of_ble_eq_true rfl)⟩ (Nat.le_of_ble_eq_true rfl) ⟨(Nat.le_of_ble_eq_true rfl), (Nat.le_of_ble_eq_true rfl)⟩ dX9_displayCase_138 rfl rfl ?_
                    obtain ⟨rfl, rfl⟩ := m_so2 hf
                    exact r_iret C F dX9_displayCase_141
                  · replace hf := m_if0 hf c38
                    by_cases c41 : p2 = Int32.ofNat 7
                    · replace hf := m_if1 hf c41
                      refine r_tsw (N := 0) (t := 142) (v := 7) C dX9_displayCase_36 c41 (by decide) (by decide) rfl (by decide) ?_
                      refine r_aload_n (q := 143) C 0 dX9_displayCase_142 rfl rfl ?_
                      refine r_iload_n (q := 144) C 1 dX9_displayCase_143 rfl rfl ?_
                      refine r_iconst (q := 145) (v := (2 : Int32)) C dX9_displayCase_144 (by decide) rfl ?_
                      obtain ⟨v43, h42, hf⟩ := m_b1_of hf
                      refine r_callV (mc := 0) (ms := 0) (q := 148) (st1 := [.int v43]) C (c_X9_of hl h42) rfl w_937 w_938 w_1325 w_11 w_939 hd_X9_of rfl (by decide) g1 rfl rfl rfl ⟨(Nat.le_of_ble_eq_true rfl), (Nat.le_of_ble_eq_true rfl)⟩ (Nat.le_of_ble_eq_true rfl) ⟨(Nat.le_of_ble_eq_true rfl), (Nat.le_of_ble_eq_true rfl)⟩ dX9_displayCase_145 rfl rfl ?_
                      obtain ⟨rfl, rfl⟩ := m_so2 hf
                      exact r_iret C F dX9_displayCase_148
                    · replace hf := m_if0 hf c41
                      by_cases c44 : p2 = Int32.ofNat 8
                      · replace hf := m_if1 hf c44
                        refine r_tsw (N := 0) (t := 149) (v := 8) C dX9_displayCase_36 c44 (by decide) (by decide) rfl (by decide) ?_
                        refine r_aload_n (q := 150) C 0 dX9_displayCase_149 rfl rfl ?_
                        refine r_iload_n (q := 151) C 1 dX9_displayCase_150 rfl rfl ?_
                        refine r_iconst (q := 152) (v := (5 : Int32)) C dX9_displayCase_151 (by decide) rfl ?_
                        obtain ⟨v46, h45, hf⟩ := m_b1_of hf
                        refine r_callV (mc := 0) (ms := 0) (q := 155) (st1 := [.int v46]) C (c_X9_of hl h45) rfl w_937 w_938 w_1325 w_11 w_939 hd_X9_of rfl (by decide) g1 rfl rfl rfl ⟨(Nat.le_of_ble_eq_true rfl), (Nat.le_of_ble_eq_true rfl)⟩ (Nat.le_of_ble_eq_true rfl) ⟨(Nat.le_of_ble_eq_true rfl), (Nat.le_of_ble_eq_true rfl)⟩ dX9_displayCase_152 rfl rfl ?_
                        obtain ⟨rfl, rfl⟩ := m_so2 hf
                        exact r_iret C F dX9_displayCase_155
                      · replace hf := m_if0 hf c44
                        by_cases c47 : p2 = Int32.ofNat 9
                        · replace hf := m_if1 hf c47
                          refine r_tsw (N := 0) (t := 156) (v := 9) C dX9_displayCase_36 c47 (by decide) (by decide) rfl (by decide) ?_
                          refine r_aload_n (q := 157) C 0 dX9_displayCase_156 rfl rfl ?_
                          refine r_iload_n (q := 158) C 1 dX9_displayCase_157 rfl rfl ?_
                          refine r_bipush (q := 160) (v := (6 : Int32)) C dX9_displayCase_158 (by decide) rfl ?_
                          obtain ⟨v49, h48, hf⟩ := m_b1_of hf
                          refine r_callV (mc := 0) (ms := 0) (q := 163) (st1 := [.int v49]) C (c_X9_of hl h48) rfl w_937 w_938 w_1325 w_11 w_939 hd_X9_of rfl (by decide) g1 rfl rfl rfl ⟨(Nat.le_of_ble_eq_true rfl), (Nat.le_of_ble_eq_true rfl)⟩ (Nat.le_of_ble_eq_true rfl) ⟨(Nat.le_of_ble_eq_true rfl), (Nat.le_of_ble_eq_true rfl)⟩ dX9_displayCase_160 rfl rfl ?_
                          obtain ⟨rfl, rfl⟩ := m_so2 hf
                          exact r_iret C F dX9_displayCase_163
                        · replace hf := m_if0 hf c47
                          refine r_tswO (t := 164) (N := 9) C dX9_displayCase_36 rfl (m_tS (m_tS (m_tS (m_tS (m_tS (m_tS (m_tS (m_tS (m_tS (m_tS m_t0 c16) c23) c26) c29) c32) c35) c38) c41) c44) c47) (by decide) ?_
                          refine r_aload_n (q := 165) C 0 dX9_displayCase_164 rfl rfl ?_
                          refine r_iload_n (q := 166) C 1 dX9_displayCase_165 rfl rfl ?_
                          refine r_bipush (q := 168) (v := (7 : Int32)) C dX9_displayCase_166 (by decide) rfl ?_
                          obtain ⟨v51, h50, hf⟩ := m_b1_of hf
                          refine r_callV (mc := 0) (ms := 0) (q := 171) (st1 := [.int v51]) C (c_X9_of hl h50) rfl w_937 w_938 w_1325 w_11 w_939 hd_X9_of rfl (by decide) g1 rfl rfl rfl ⟨(Nat.le_of_ble_eq_true rfl), (Nat.le_of_ble_eq_true rfl)⟩ (Nat.le_of_ble_eq_true rfl) ⟨(Nat.le_of_ble_eq_true rfl), (Nat.le_of_ble_eq_true rfl)⟩ dX9_displayCase_168 rfl rfl ?_
                          obtain ⟨rfl, rfl⟩ := m_so2 hf
                          exact r_iret C F dX9_displayCase_171
    · replace hf := m_if0 hf (fun z => z c15)
      refine r_iconst (q := 34) (v := (0 : Int32)) C dX9_displayCase_33 (by decide) rfl ?_
      obtain ⟨rfl, rfl⟩ := m_so2 hf
      exact r_iret C F dX9_displayCase_34
def f_X9_ends (Z : m_Z) (S : m_S) (a0 : Nat) : Option (Unit × m_S) := m_gd (m_ok Z a0 9) ((if (S.1 a0 16) = (3 : Int32) then m_b1 (f_X9_isWrong Z S a0) (fun v4 => (if ¬ v4 = 0 then some ((), S) else m_bw (f_X9_token Z S a0) (fun _u S7 => some ((), S7)))) else m_bw (f_X9_fails Z S a0 (1 : Int32)) (fun _u S9 => m_b1 (f_X9_isWrong Z S9 a0) (fun v11 => (if ¬ v11 = 0 then some ((), S9) else m_bw (f_X9_token Z S9 a0) (fun _u S14 => some ((), S14)))))))
abbrev rm_X9_ends : Room := { frames := 2, cells := 0, slots := 0, locals := 42 }
theorem hd_X9_ends : yX9_ends.cls = RX9 ∧ yX9_ends.cls ≠ "java/lang/invoke/MethodHandle" ∧ yX9_ends.cls ≠ "java/lang/invoke/VarHandle" ∧ (parseMethodDescriptor yX9_ends.desc).map (fun d => d.parameters.length) = some 0 := by decide +kernel
set_option maxHeartbeats 4000000 in
set_option maxRecDepth 100000 in
theorem c_X9_ends {l : Launch} (hl : l.stackTraces = false) {Z : m_Z} {S : m_S} {a0 : Nat} {rZ9 : Unit} {SZ9 : m_S} (hf : f_X9_ends Z S a0 = some (rZ9, SZ9)) : m_Ct l yX9_ends (.code yX9_ends cX9_ends 1 none :: m_ws) rm_X9_ends (fun f => [.ref a0]) Z S (none) SZ9 := by
  unfold f_X9_ends at hf
  refine m_ent hl (by decide) (fun _ => Nat.le_of_ble_eq_true rfl) (fun x C F => ?_)
  have C : m_H x l RX9 cX9_ends 1 rm_X9_ends := C
  show m_G x Z S 1 0 0 0 [(0, .ref a0)] []
  refine r_aload_n (q := 1) C 0 dX9_ends_0 rfl rfl ?_
  obtain ⟨g1, hf⟩ := m_gd_of hf
  refine gf_X9_111 (q := 4) C dX9_ends_1 g1 rfl ?_
  refine r_iconst (q := 5) (v := (3 : Int32)) C dX9_ends_4 (by decide) rfl ?_
  refine r_icmp_eq (t := 13) (q := 8) C dX9_ends_5 (by decide) rfl (fun c2 => ?_) (fun c2 => ?_)
  · replace hf := m_if1 hf c2
    refine r_aload_n (q := 14) C 0 dX9_ends_13 rfl rfl ?_
    obtain ⟨v4, h3, hf⟩ := m_b1_of hf
    refine r_callV (mc := 0) (ms := 0) (q := 17) (st1 := [.int v4]) C (c_X9_isWrong hl h3) rfl w_1061 w_1062 w_1339 w_11 w_1063 hd_X9_isWrong rfl (by decide) g1 rfl rfl rfl ⟨(Nat.le_of_ble_eq_true rfl), (Nat.le_of_ble_eq_true rfl)⟩ (Nat.le_of_ble_eq_true rfl) ⟨(Nat.le_of_ble_eq_true rfl), (Nat.le_of_ble_eq_true rfl)⟩ dX9_ends_14 rfl rfl ?_
    refine r_if_ne (t := 24) (q := 20) C dX9_ends_17 (by decide) rfl (fun c5 => ?_) (fun c5 => ?_)
    · replace hf := m_if1 hf c5
      obtain ⟨rfl, rfl⟩ := m_so2 hf
      exact r_vret C F dX9_ends_24
    · replace hf := m_if0 hf (fun z => z c5)
      refine r_aload_n (q := 21) C 0 dX9_ends_20 rfl rfl ?_
      obtain ⟨_u, S7, h6, hf⟩ := m_bw_of hf
      refine r_callV (mc := 0) (ms := 0) (q := 24) (st1 := []) C (c_X9_token hl h6) rfl w_1038 w_1039 w_1334 w_11 w_1040 hd_X9_token rfl (by decide) g1 rfl rfl rfl ⟨(Nat.le_of_ble_eq_true rfl), (Nat.le_of_ble_eq_true rfl)⟩ (Nat.le_of_ble_eq_true rfl) ⟨(Nat.le_of_ble_eq_true rfl), (Nat.le_of_ble_eq_true rfl)⟩ dX9_ends_21 rfl rfl ?_
      obtain ⟨rfl, rfl⟩ := m_so2 hf
      exact r_vret C F dX9_ends_24
  · replace hf := m_if0 hf c2
    refine r_aload_n (q := 9) C 0 dX9_ends_8 rfl rfl ?_
    refine r_iconst (q := 10) (v := (1 : Int32)) C dX9_ends_9 (by decide) rfl ?_
    obtain ⟨_u, S9, h8, hf⟩ := m_bw_of hf
    refine r_callV (mc := 0) (ms := 0) (q := 13) (st1 := []) C (c_X9_fails hl h8) rfl w_1066 w_1067 w_1340 w_11 w_1068 hd_X9_fails rfl (by decide) g1 rfl rfl rfl ⟨(Nat.le_of_ble_eq_true rfl), (Nat.le_of_ble_eq_true rfl)⟩ (Nat.le_of_ble_eq_true rfl) ⟨(Nat.le_of_ble_eq_true rfl), (Nat.le_of_ble_eq_true rfl)⟩ dX9_ends_10 rfl rfl ?_
    refine r_aload_n (q := 14) C 0 dX9_ends_13 rfl rfl ?_
    obtain ⟨v11, h10, hf⟩ := m_b1_of hf
    refine r_callV (mc := 0) (ms := 0) (q := 17) (st1 := [.int v11]) C (c_X9_isWrong hl h10) rfl w_1061 w_1062 w_1339 w_11 w_1063 hd_X9_isWrong rfl (by decide) g1 rfl rfl rfl ⟨(Nat.le_of_ble_eq_true rfl), (Nat.le_of_ble_eq_true rfl)⟩ (Nat.le_of_ble_eq_true rfl) ⟨(Nat.le_of_ble_eq_true rfl), (Nat.le_of_ble_eq_true rfl)⟩ dX9_ends_14 rfl rfl ?_
    refine r_if_ne (t := 24) (q := 20) C dX9_ends_17 (by decide) rfl (fun c12 => ?_) (fun c12 => ?_)
    · replace hf := m_if1 hf c12
      obtain ⟨rfl, rfl⟩ := m_so2 hf
      exact r_vret C F dX9_ends_24
    · replace hf := m_if0 hf (fun z => z c12)
      refine r_aload_n (q := 21) C 0 dX9_ends_20 rfl rfl ?_
      obtain ⟨_u, S14, h13, hf⟩ := m_bw_of hf
      refine r_callV (mc := 0) (ms := 0) (q := 24) (st1 := []) C (c_X9_token hl h13) rfl w_1038 w_1039 w_1334 w_11 w_1040 hd_X9_token rfl (by decide) g1 rfl rfl rfl ⟨(Nat.le_of_ble_eq_true rfl), (Nat.le_of_ble_eq_true rfl)⟩ (Nat.le_of_ble_eq_true rfl) ⟨(Nat.le_of_ble_eq_true rfl), (Nat.le_of_ble_eq_true rfl)⟩ dX9_ends_21 rfl rfl ?_
      obtain ⟨rfl, rfl⟩ := m_so2 hf
      exact r_vret C F dX9_ends_24
def f_X9_errorCode (Z : m_Z) (S : m_S) (a0 : Nat) : Option (Int32 × m_S) := m_gd (m_ok Z a0 9) (m_lt (m_pI S a0 0 (0 : Int32)) (fun S2 => some ((S2.1 a0 18), S2)))
abbrev rm_X9_errorCode : Room := { frames := 0, cells := 0, slots := 0, locals := 0 }
theorem hd_X9_errorCode : yX9_errorCode.cls = RX9 ∧ yX9_errorCode.cls ≠ "java/lang/invoke/MethodHandle" ∧ yX9_errorCode.cls ≠ "java/lang/invoke/VarHandle" ∧ (parseMethodDescriptor yX9_errorCode.desc).map (fun d => d.parameters.length) = some 0 := by decide +kernel
set_option maxHeartbeats 4000000 in
set_option maxRecDepth 100000 in
theorem c_X9_errorCode {l : Launch} (hl : l.stackTraces = false) {Z : m_Z} {S : m_S} {a0 : Nat} {rZ9 : Int32} {SZ9 : m_S} (hf : f_X9_errorCode Z S a0 = some (rZ9, SZ9)) : m_Ct l yX9_errorCode (.code yX9_errorCode cX9_errorCode 1 (some .int) :: m_ws) rm_X9_errorCode (fun f => [.ref a0]) Z S (some (.int rZ9)) SZ9 := by
  unfold f_X9_errorCode at hf
  refine m_ent hl (by decide) (fun _ => Nat.le_of_ble_eq_true rfl) (fun x C F => ?_)
  have C : m_H x l RX9 cX9_errorCode 1 rm_X9_errorCode := C
  show m_G x Z S 1 0 0 0 [(0, .ref a0)] []
  refine r_aload_n (q := 1) C 0 dX9_errorCode_0 rfl rfl ?_
  refine r_iconst (q := 2) (v := (0 : Int32)) C dX9_errorCode_1 (by decide) rfl ?_
  obtain ⟨g1, hf⟩ := m_gd_of hf
  obtain ⟨S2, e3, hf⟩ := m_lt_of hf
  refine pf_X9_61 (q := 5) C dX9_errorCode_2 g1 e3 rfl ?_
  refine r_aload_n (q := 6) C 0 dX9_errorCode_5 rfl rfl ?_
  refine gf_X9_132 (q := 9) C dX9_errorCode_6 g1 rfl ?_
  obtain ⟨rfl, rfl⟩ := m_so2 hf
  exact r_iret C F dX9_errorCode_9
def f_X9_errorPosition (Z : m_Z) (S : m_S) (a0 : Nat) : Option (Int32 × m_S) := m_gd (m_ok Z a0 9) (m_lt (m_pI S a0 0 (0 : Int32)) (fun S2 => some ((S2.1 a0 19), S2)))
abbrev rm_X9_errorPosition : Room := { frames := 0, cells := 0, slots := 0, locals := 0 }
theorem hd_X9_errorPosition : yX9_errorPosition.cls = RX9 ∧ yX9_errorPosition.cls ≠ "java/lang/invoke/MethodHandle" ∧ yX9_errorPosition.cls ≠ "java/lang/invoke/VarHandle" ∧ (parseMethodDescriptor yX9_errorPosition.desc).map (fun d => d.parameters.length) = some 0 := by decide +kernel
set_option maxHeartbeats 4000000 in
set_option maxRecDepth 100000 in
theorem c_X9_errorPosition {l : Launch} (hl : l.stackTraces = false) {Z : m_Z} {S : m_S} {a0 : Nat} {rZ9 : Int32} {SZ9 : m_S} (hf : f_X9_errorPosition Z S a0 = some (rZ9, SZ9)) : m_Ct l yX9_errorPosition (.code yX9_errorPosition cX9_errorPosition 1 (some .int) :: m_ws) rm_X9_errorPosition (fun f => [.ref a0]) Z S (some (.int rZ9)) SZ9 := by
  unfold f_X9_errorPosition at hf
  refine m_ent hl (by decide) (fun _ => Nat.le_of_ble_eq_true rfl) (fun x C F => ?_)
  have C : m_H x l RX9 cX9_errorPosition 1 rm_X9_errorPosition := C
  show m_G x Z S 1 0 0 0 [(0, .ref a0)] []
  refine r_aload_n (q := 1) C 0 dX9_errorPosition_0 rfl rfl ?_
  refine r_iconst (q := 2) (v := (0 : Int32)) C dX9_errorPosition_1 (by decide) rfl ?_
  obtain ⟨g1, hf⟩ := m_gd_of hf
  obtain ⟨S2, e3, hf⟩ := m_lt_of hf
  refine pf_X9_61 (q := 5) C dX9_errorPosition_2 g1 e3 rfl ?_
  refine r_aload_n (q := 6) C 0 dX9_errorPosition_5 rfl rfl ?_
  refine gf_X9_45 (q := 9) C dX9_errorPosition_6 g1 rfl ?_
  obtain ⟨rfl, rfl⟩ := m_so2 hf
  exact r_iret C F dX9_errorPosition_9
def f_X9_exchange (Z : m_Z) (S : m_S) (a0 : Nat) (p1 : Int32) (p2 : Int32) : Option (Int32 × m_S) := m_gd (m_ok Z a0 9) (m_lt (m_pI S a0 0 (0 : Int32)) (fun S2 => m_bw (f_X9_finds Z S2 a0 p1) (fun v6 S5 => m_bw (f_X9_may Z S5 a0 v6 (1 : Int32)) (fun v9 S8 => (if v9 = 0 then some ((0 : Int32), S8) else m_b1 (f_X9_isIn Z S8 p2 (0 : Int32) (1000 : Int32)) (fun v12 => m_bw (f_X9_may Z S8 a0 v12 (2 : Int32)) (fun v15 S14 => (if ¬ v15 = 0 then m_bw (f_X9_newSerial Z S14 a0) (fun v19 S18 => m_bw (f_X9_exchanges Z S18 a0 (S18.1 a0 23) (S18.1 a0 24) v19 p2) (fun _u S21 => some (v19, S21))) else some ((0 : Int32), S14)))))))))
abbrev rm_X9_exchange : Room := { frames := 4, cells := 0, slots := 0, locals := 97 }
theorem hd_X9_exchange : yX9_exchange.cls = RX9 ∧ yX9_exchange.cls ≠ "java/lang/invoke/MethodHandle" ∧ yX9_exchange.cls ≠ "java/lang/invoke/VarHandle" ∧ (parseMethodDescriptor yX9_exchange.desc).map (fun d => d.parameters.length) = some 2 := by decide +kernel
set_option maxHeartbeats 4000000 in
set_option maxRecDepth 100000 in
theorem c_X9_exchange {l : Launch} (hl : l.stackTraces = false) {Z : m_Z} {S : m_S} {a0 : Nat} {p1 : Int32} {p2 : Int32} {rZ9 : Int32} {SZ9 : m_S} (hf : f_X9_exchange Z S a0 p1 p2 = some (rZ9, SZ9)) : m_Ct l yX9_exchange (.code yX9_exchange cX9_exchange 4 (some .int) :: m_ws) rm_X9_exchange (fun f => [.ref a0, .int p1, .int p2]) Z S (some (.int rZ9)) SZ9 := by
  unfold f_X9_exchange at hf
  refine m_ent hl (by decide) (fun _ => Nat.le_of_ble_eq_true rfl) (fun x C F => ?_)
  have C : m_H x l RX9 cX9_exchange 4 rm_X9_exchange := C
  show m_G x Z S 4 0 0 0 [(0, .ref a0), (1, .int p1), (2, .int p2)] []
  refine r_aload_n (q := 1) C 0 dX9_exchange_0 rfl rfl ?_
  refine r_iconst (q := 2) (v := (0 : Int32)) C dX9_exchange_1 (by decide) rfl ?_
  obtain ⟨g1, hf⟩ := m_gd_of hf
  obtain ⟨S2, e3, hf⟩ := m_lt_of hf
  refine pf_X9_61 (q := 5) C dX9_exchange_2 g1 e3 rfl ?_
  refine r_aload_n (q := 6) C 0 dX9_exchange_5 rfl rfl ?_
  refine r_aload_n (q := 7) C 0 dX9_exchange_6 rfl rfl ?_
  refine r_iload_n (q := 8) C 1 dX9_exchange_7 rfl rfl ?_
  obtain ⟨v6, S5, h4, hf⟩ := m_bw_of hf
  refine r_callV (mc := 0) (ms := 0) (q := 11) (st1 := [.int v6, .ref a0]) C (c_X9_finds hl h4) rfl w_1202 w_1203 w_1361 w_11 w_1204 hd_X9_finds rfl (by decide) g1 rfl rfl rfl ⟨(Nat.le_of_ble_eq_true rfl), (Nat.le_of_ble_eq_true rfl)⟩ (Nat.le_of_ble_eq_true rfl) ⟨(Nat.le_of_ble_eq_true rfl), (Nat.le_of_ble_eq_true rfl)⟩ dX9_exchange_8 rfl rfl ?_
  refine r_iconst (q := 12) (v := (1 : Int32)) C dX9_exchange_11 (by decide) rfl ?_
  obtain ⟨v9, S8, h7, hf⟩ := m_bw_of hf
  refine r_callV (mc := 0) (ms := 0) (q := 15) (st1 := [.int v9]) C (c_X9_may hl h7) rfl w_1024 w_1025 w_1333 w_11 w_1026 hd_X9_may rfl (by decide) g1 rfl rfl rfl ⟨(Nat.le_of_ble_eq_true rfl), (Nat.le_of_ble_eq_true rfl)⟩ (Nat.le_of_ble_eq_true rfl) ⟨(Nat.le_of_ble_eq_true rfl), (Nat.le_of_ble_eq_true rfl)⟩ dX9_exchange_12 rfl rfl ?_
  refine r_if_eq (t := 34) (q := 18) C dX9_exchange_15 (by decide) rfl (fun c10 => ?_) (fun c10 => ?_)
  · replace hf := m_if1 hf c10
    refine r_iconst (q := 35) (v := (0 : Int32)) C dX9_exchange_34 (by decide) rfl ?_
    obtain ⟨rfl, rfl⟩ := m_so2 hf
    exact r_iret C F dX9_exchange_35
  · replace hf := m_if0 hf c10
    refine r_aload_n (q := 19) C 0 dX9_exchange_18 rfl rfl ?_
    refine r_iload_n (q := 20) C 2 dX9_exchange_19 rfl rfl ?_
    refine r_iconst (q := 21) (v := (0 : Int32)) C dX9_exchange_20 (by decide) rfl ?_
    refine r_sipush (q := 24) (v := (1000 : Int32)) C dX9_exchange_21 (by decide) rfl ?_
    obtain ⟨v12, h11, hf⟩ := m_b1_of hf
    refine r_callS (mc := 0) (ms := 0) (q := 27) (st1 := [.int v12, .ref a0]) C (c_X9_isIn hl h11) rfl w_1031 w_1032 w_11 w_1033 hd_X9_isIn rfl rfl rfl ⟨(Nat.le_of_ble_eq_true rfl), (Nat.le_of_ble_eq_true rfl)⟩ (Nat.le_of_ble_eq_true rfl) ⟨(Nat.le_of_ble_eq_true rfl), (Nat.le_of_ble_eq_true rfl)⟩ dX9_exchange_24 rfl rfl ?_
    refine r_iconst (q := 28) (v := (2 : Int32)) C dX9_exchange_27 (by decide) rfl ?_
    obtain ⟨v15, S14, h13, hf⟩ := m_bw_of hf
    refine r_callV (mc := 0) (ms := 0) (q := 31) (st1 := [.int v15]) C (c_X9_may hl h13) rfl w_1024 w_1025 w_1333 w_11 w_1026 hd_X9_may rfl (by decide) g1 rfl rfl rfl ⟨(Nat.le_of_ble_eq_true rfl), (Nat.le_of_ble_eq_true rfl)⟩ (Nat.le_of_ble_eq_true rfl) ⟨(Nat.le_of_ble_eq_true rfl), (Nat.le_of_ble_eq_true rfl)⟩ dX9_exchange_28 rfl rfl ?_
    refine r_if_ne (t := 36) (q := 34) C dX9_exchange_31 (by decide) rfl (fun c16 => ?_) (fun c16 => ?_)
    · replace hf := m_if1 hf c16
      refine r_aload_n (q := 37) C 0 dX9_exchange_36 rfl rfl ?_
      obtain ⟨v19, S18, h17, hf⟩ := m_bw_of hf
      refine r_callV (mc := 0) (ms := 0) (q := 40) (st1 := [.int v19]) C (c_X9_newSerial hl h17) rfl w_1209 w_1210 w_1362 w_11 w_1211 hd_X9_newSerial rfl (by decide) g1 rfl rfl rfl ⟨(Nat.le_of_ble_eq_true rfl), (Nat.le_of_ble_eq_true rfl)⟩ (Nat.le_of_ble_eq_true rfl) ⟨(Nat.le_of_ble_eq_true rfl), (Nat.le_of_ble_eq_true rfl)⟩ dX9_exchange_37 rfl rfl ?_
      refine r_istore_n (q := 41) (L' := [(3, .int v19), (0, .ref a0), (1, .int p1), (2, .int p2)]) C dX9_exchange_40 rfl rfl (by decide) rfl ?_
      refine r_aload_n (q := 42) C 1 dX9_exchange_41 rfl rfl ?_
      refine r_aload_n (q := 43) C 1 dX9_exchange_42 rfl rfl ?_
      refine gf_X9_252 (q := 46) C dX9_exchange_43 g1 rfl ?_
      refine r_aload_n (q := 47) C 1 dX9_exchange_46 rfl rfl ?_
      refine gf_X9_255 (q := 50) C dX9_exchange_47 g1 rfl ?_
      refine r_iload_n (q := 51) C 0 dX9_exchange_50 rfl rfl ?_
      refine r_iload_n (q := 52) C 3 dX9_exchange_51 rfl rfl ?_
      obtain ⟨_u, S21, h20, hf⟩ := m_bw_of hf
      refine r_callV (mc := 0) (ms := 0) (q := 55) (st1 := []) C (c_X9_exchanges hl h20) rfl w_1233 w_1234 w_1366 w_11 w_1235 hd_X9_exchanges rfl (by decide) g1 rfl rfl rfl ⟨(Nat.le_of_ble_eq_true rfl), (Nat.le_of_ble_eq_true rfl)⟩ (Nat.le_of_ble_eq_true rfl) ⟨(Nat.le_of_ble_eq_true rfl), (Nat.le_of_ble_eq_true rfl)⟩ dX9_exchange_52 rfl rfl ?_
      refine r_iload_n (q := 56) C 0 dX9_exchange_55 rfl rfl ?_
      obtain ⟨rfl, rfl⟩ := m_so2 hf
      exact r_iret C F dX9_exchange_56
    · replace hf := m_if0 hf (fun z => z c16)
      refine r_iconst (q := 35) (v := (0 : Int32)) C dX9_exchange_34 (by decide) rfl ?_
      obtain ⟨rfl, rfl⟩ := m_so2 hf
      exact r_iret C F dX9_exchange_35
def f_X9_figure (Z : m_Z) (S : m_S) (a0 : Nat) (p1 : Int32) (p2 : Int32) : Option (Int32 × m_S) := m_gd (m_ok Z a0 9) (m_b1 (f_X9_isWrong Z S a0) (fun v3 => (if v3 = 0 then m_jp (fun (S6 : m_S) => m_b1 (f_X9_isWrong Z S6 a0) (fun v8 => (if ¬ v8 = 0 then some ((S6.1 a0 17), S6) else m_bw (f_X9_token Z S6 a0) (fun _u S11 => some ((S6.1 a0 17), S11))))) (fun j5 => (if (S.1 a0 16) = (2 : Int32) then m_b1 (f_X9_isIn Z S (S.1 a0 17) p1 p2) (fun v14 => (if ¬ v14 = 0 then j5 S else m_bw (f_X9_fails Z S a0 (2 : Int32)) (fun _u S17 => j5 S17))) else m_bw (f_X9_fails Z S a0 (1 : Int32)) (fun _u S19 => j5 S19))) else some (p1, S))))
abbrev rm_X9_figure : Room := { frames := 2, cells := 0, slots := 0, locals := 42 }
theorem hd_X9_figure : yX9_figure.cls = RX9 ∧ yX9_figure.cls ≠ "java/lang/invoke/MethodHandle" ∧ yX9_figure.cls ≠ "java/lang/invoke/VarHandle" ∧ (parseMethodDescriptor yX9_figure.desc).map (fun d => d.parameters.length) = some 2 := by decide +kernel
set_option maxHeartbeats 4000000 in
set_option maxRecDepth 100000 in
theorem c_X9_figure {l : Launch} (hl : l.stackTraces = false) {Z : m_Z} {S : m_S} {a0 : Nat} {p1 : Int32} {p2 : Int32} {rZ9 : Int32} {SZ9 : m_S} (hf : f_X9_figure Z S a0 p1 p2 = some (rZ9, SZ9)) : m_Ct l yX9_figure (.code yX9_figure cX9_figure 4 (some .int) :: m_ws) rm_X9_figure (fun f => [.ref a0, .int p1, .int p2]) Z S (some (.int rZ9)) SZ9 := by
  unfold f_X9_figure at hf
  refine m_ent hl (by decide) (fun _ => Nat.le_of_ble_eq_true rfl) (fun x C F => ?_)
  have C : m_H x l RX9 cX9_figure 4 rm_X9_figure := C
  show m_G x Z S 4 0 0 0 [(0, .ref a0), (1, .int p1), (2, .int p2)] []
  refine r_aload_n (q := 1) C 0 dX9_figure_0 rfl rfl ?_
  obtain ⟨g1, hf⟩ := m_gd_of hf
  obtain ⟨v3, h2, hf⟩ := m_b1_of hf
  refine r_callV (mc := 0) (ms := 0) (q := 4) (st1 := [.int v3]) C (c_X9_isWrong hl h2) rfl w_1061 w_1062 w_1339 w_11 w_1063 hd_X9_isWrong rfl (by decide) g1 rfl rfl rfl ⟨(Nat.le_of_ble_eq_true rfl), (Nat.le_of_ble_eq_true rfl)⟩ (Nat.le_of_ble_eq_true rfl) ⟨(Nat.le_of_ble_eq_true rfl), (Nat.le_of_ble_eq_true rfl)⟩ dX9_figure_1 rfl rfl ?_
  refine r_if_eq (t := 9) (q := 7) C dX9_figure_4 (by decide) rfl (fun c4 => ?_) (fun c4 => ?_)
  · replace hf := m_if1 hf c4
    refine r_aload_n (q := 10) C 0 dX9_figure_9 rfl rfl ?_
    refine gf_X9_111 (q := 13) C dX9_figure_10 g1 rfl ?_
    refine r_iconst (q := 14) (v := (2 : Int32)) C dX9_figure_13 (by decide) rfl ?_
    obtain ⟨j5, ej5, hf⟩ := m_jp_of hf
    have J5 : ∀ (S6 : m_S), j5 S6 = some (rZ9, SZ9) → m_G x Z S6 4 0 0 42 [(0, .ref a0)] [] := by
      intro S6 hf
      rw [ej5] at hf
      refine r_aload_n (q := 43) C 0 dX9_figure_42 rfl rfl ?_
      refine gf_X9_129 (q := 46) C dX9_figure_43 g1 rfl ?_
      refine r_istore_n (q := 47) (L' := [(3, .int (S6.1 a0 17)), (0, .ref a0)]) C dX9_figure_46 rfl rfl (by decide) rfl ?_
      refine r_aload_n (q := 48) C 1 dX9_figure_47 rfl rfl ?_
      obtain ⟨v8, h7, hf⟩ := m_b1_of hf
      refine r_callV (mc := 0) (ms := 0) (q := 51) (st1 := [.int v8]) C (c_X9_isWrong hl h7) rfl w_1061 w_1062 w_1339 w_11 w_1063 hd_X9_isWrong rfl (by decide) g1 rfl rfl rfl ⟨(Nat.le_of_ble_eq_true rfl), (Nat.le_of_ble_eq_true rfl)⟩ (Nat.le_of_ble_eq_true rfl) ⟨(Nat.le_of_ble_eq_true rfl), (Nat.le_of_ble_eq_true rfl)⟩ dX9_figure_48 rfl rfl ?_
      refine r_if_ne (t := 58) (q := 54) C dX9_figure_51 (by decide) rfl (fun c9 => ?_) (fun c9 => ?_)
      · replace hf := m_if1 hf c9
        refine r_iload_n (q := 59) C 0 dX9_figure_58 rfl rfl ?_
        obtain ⟨rfl, rfl⟩ := m_so2 hf
        exact r_iret C F dX9_figure_59
      · replace hf := m_if0 hf (fun z => z c9)
        refine r_aload_n (q := 55) C 1 dX9_figure_54 rfl rfl ?_
        obtain ⟨_u, S11, h10, hf⟩ := m_bw_of hf
        refine r_callV (mc := 0) (ms := 0) (q := 58) (st1 := []) C (c_X9_token hl h10) rfl w_1038 w_1039 w_1334 w_11 w_1040 hd_X9_token rfl (by decide) g1 rfl rfl rfl ⟨(Nat.le_of_ble_eq_true rfl), (Nat.le_of_ble_eq_true rfl)⟩ (Nat.le_of_ble_eq_true rfl) ⟨(Nat.le_of_ble_eq_true rfl), (Nat.le_of_ble_eq_true rfl)⟩ dX9_figure_55 rfl rfl ?_
        refine r_iload_n (q := 59) C 0 dX9_figure_58 rfl rfl ?_
        obtain ⟨rfl, rfl⟩ := m_so2 hf
        exact r_iret C F dX9_figure_59
    refine r_icmp_eq (t := 25) (q := 17) C dX9_figure_14 (by decide) rfl (fun c12 => ?_) (fun c12 => ?_)
    · replace hf := m_if1 hf c12
      refine r_aload_n (q := 26) C 0 dX9_figure_25 rfl rfl ?_
      refine gf_X9_129 (q := 29) C dX9_figure_26 g1 rfl ?_
      refine r_iload_n (q := 30) C 1 dX9_figure_29 rfl rfl ?_
      refine r_iload_n (q := 31) C 2 dX9_figure_30 rfl rfl ?_
      obtain ⟨v14, h13, hf⟩ := m_b1_of hf
      refine r_callS (mc := 0) (ms := 0) (q := 34) (st1 := [.int v14]) C (c_X9_isIn hl h13) rfl w_1031 w_1032 w_11 w_1033 hd_X9_isIn rfl rfl rfl ⟨(Nat.le_of_ble_eq_true rfl), (Nat.le_of_ble_eq_true rfl)⟩ (Nat.le_of_ble_eq_true rfl) ⟨(Nat.le_of_ble_eq_true rfl), (Nat.le_of_ble_eq_true rfl)⟩ dX9_figure_31 rfl rfl ?_
      refine r_if_ne (t := 42) (q := 37) C dX9_figure_34 (by decide) rfl (fun c15 => ?_) (fun c15 => ?_)
      · replace hf := m_if1 hf c15
        refine r_sub [0] rfl ?_
        exact J5 S hf
      · replace hf := m_if0 hf (fun z => z c15)
        refine r_aload_n (q := 38) C 0 dX9_figure_37 rfl rfl ?_
        refine r_iconst (q := 39) (v := (2 : Int32)) C dX9_figure_38 (by decide) rfl ?_
        obtain ⟨_u, S17, h16, hf⟩ := m_bw_of hf
        refine r_callV (mc := 0) (ms := 0) (q := 42) (st1 := []) C (c_X9_fails hl h16) rfl w_1066 w_1067 w_1340 w_11 w_1068 hd_X9_fails rfl (by decide) g1 rfl rfl rfl ⟨(Nat.le_of_ble_eq_true rfl), (Nat.le_of_ble_eq_true rfl)⟩ (Nat.le_of_ble_eq_true rfl) ⟨(Nat.le_of_ble_eq_true rfl), (Nat.le_of_ble_eq_true rfl)⟩ dX9_figure_39 rfl rfl ?_
        refine r_sub [0] rfl ?_
        exact J5 S17 hf
    · replace hf := m_if0 hf c12
      refine r_aload_n (q := 18) C 0 dX9_figure_17 rfl rfl ?_
      refine r_iconst (q := 19) (v := (1 : Int32)) C dX9_figure_18 (by decide) rfl ?_
      obtain ⟨_u, S19, h18, hf⟩ := m_bw_of hf
      refine r_callV (mc := 0) (ms := 0) (q := 22) (st1 := []) C (c_X9_fails hl h18) rfl w_1066 w_1067 w_1340 w_11 w_1068 hd_X9_fails rfl (by decide) g1 rfl rfl rfl ⟨(Nat.le_of_ble_eq_true rfl), (Nat.le_of_ble_eq_true rfl)⟩ (Nat.le_of_ble_eq_true rfl) ⟨(Nat.le_of_ble_eq_true rfl), (Nat.le_of_ble_eq_true rfl)⟩ dX9_figure_19 rfl rfl ?_
      refine r_goto (t := 42) C dX9_figure_22 (by decide) ?_
      refine r_sub [0] rfl ?_
      exact J5 S19 hf
  · replace hf := m_if0 hf c4
    refine r_iload_n (q := 8) C 1 dX9_figure_7 rfl rfl ?_
    obtain ⟨rfl, rfl⟩ := m_so2 hf
    exact r_iret C F dX9_figure_8
def F_X9_goes_35 (Z : m_Z) (a0 : Nat) (p1 : Int32) (j13 : (m_S → Option (Int32 × m_S))) (lp16 : (Int32 × m_S) → Option (Int32 × m_S)) (p29 : (Int32 × m_S)) : Option (Int32 × m_S) := match p29 with
  | (v14, S15) => m_b1 (f_X9_of Z S15 a0 p1 (4 : Int32)) (fun v21 => (if ((4 : Int32) * v21) ≤ v14 then j13 S15 else m_b1 (f_X9_of Z S15 a0 p1 (((8 : Int32) + v14) + (4 : Int32))) (fun v24 => m_bw (f_X9_lays Z S15 a0 p1 ((8 : Int32) + v14) v24) (fun _u S26 => m_lt (v14 + (1 : Int32)) (fun v27 => lp16 (v27, S26))))))
def f_X9_goes (Z : m_Z) (S : m_S) (a0 : Nat) (p1 : Int32) (p2 : Int32) : Option (Int32 × m_S) := m_gd (m_ok Z a0 9) (m_b1 (f_X9_its Z S a0 p1 p2 (3 : Int32)) (fun v3 => m_bw (f_X9_counts Z S a0 p1 (4 : Int32) v3.toInt64) (fun _u S5 => m_b1 (f_X9_of Z S5 a0 p1 (4 : Int32)) (fun v7 => m_bw (f_X9_lays Z S5 a0 p1 (4 : Int32) (v7 - (1 : Int32))) (fun _u S9 => m_lt ((4 : Int32) * p2) (fun v10 => m_jp (fun (S12 : m_S) => some (v3, S12)) (fun j13 => m_fx (F_X9_goes_35 Z a0 p1 j13) 100000 (v10, S9))))))))
abbrev rm_X9_goes : Room := { frames := 1, cells := 0, slots := 0, locals := 24 }
theorem hd_X9_goes : yX9_goes.cls = RX9 ∧ yX9_goes.cls ≠ "java/lang/invoke/MethodHandle" ∧ yX9_goes.cls ≠ "java/lang/invoke/VarHandle" ∧ (parseMethodDescriptor yX9_goes.desc).map (fun d => d.parameters.length) = some 2 := by decide +kernel
set_option maxHeartbeats 4000000 in
set_option maxRecDepth 100000 in
theorem c_X9_goes {l : Launch} (hl : l.stackTraces = false) {Z : m_Z} {S : m_S} {a0 : Nat} {p1 : Int32} {p2 : Int32} {rZ9 : Int32} {SZ9 : m_S} (hf : f_X9_goes Z S a0 p1 p2 = some (rZ9, SZ9)) : m_Ct l yX9_goes (.code yX9_goes cX9_goes 5 (some .int) :: m_ws) rm_X9_goes (fun f => [.ref a0, .int p1, .int p2]) Z S (some (.int rZ9)) SZ9 := by
  unfold f_X9_goes at hf
  refine m_ent hl (by decide) (fun _ => Nat.le_of_ble_eq_true rfl) (fun x C F => ?_)
  have C : m_H x l RX9 cX9_goes 5 rm_X9_goes := C
  show m_G x Z S 5 0 0 0 [(0, .ref a0), (1, .int p1), (2, .int p2)] []
  refine r_aload_n (q := 1) C 0 dX9_goes_0 rfl rfl ?_
  refine r_iload_n (q := 2) C 1 dX9_goes_1 rfl rfl ?_
  refine r_iload_n (q := 3) C 2 dX9_goes_2 rfl rfl ?_
  refine r_iconst (q := 4) (v := (3 : Int32)) C dX9_goes_3 (by decide) rfl ?_
  obtain ⟨g1, hf⟩ := m_gd_of hf
  obtain ⟨v3, h2, hf⟩ := m_b1_of hf
  refine r_callV (mc := 0) (ms := 0) (q := 7) (st1 := [.int v3]) C (c_X9_its hl h2) rfl w_940 w_941 w_1326 w_11 w_942 hd_X9_its rfl (by decide) g1 rfl rfl rfl ⟨(Nat.le_of_ble_eq_true rfl), (Nat.le_of_ble_eq_true rfl)⟩ (Nat.le_of_ble_eq_true rfl) ⟨(Nat.le_of_ble_eq_true rfl), (Nat.le_of_ble_eq_true rfl)⟩ dX9_goes_4 rfl rfl ?_
  refine r_istore_n (q := 8) (L' := [(3, .int v3), (0, .ref a0), (1, .int p1), (2, .int p2)]) C dX9_goes_7 rfl rfl (by decide) rfl ?_
  refine r_aload_n (q := 9) C 1 dX9_goes_8 rfl rfl ?_
  refine r_iload_n (q := 10) C 2 dX9_goes_9 rfl rfl ?_
  refine r_iconst (q := 11) (v := (4 : Int32)) C dX9_goes_10 (by decide) rfl ?_
  refine r_iload_n (q := 12) C 0 dX9_goes_11 rfl rfl ?_
  refine r_i2l (q := 13) C dX9_goes_12 rfl ?_
  obtain ⟨_u, S5, h4, hf⟩ := m_bw_of hf
  refine r_callV (mc := 0) (ms := 0) (q := 16) (st1 := []) C (c_X9_counts hl h4) rfl w_1188 w_1189 w_1359 w_11 w_1190 hd_X9_counts rfl (by decide) g1 rfl rfl rfl ⟨(Nat.le_of_ble_eq_true rfl), (Nat.le_of_ble_eq_true rfl)⟩ (Nat.le_of_ble_eq_true rfl) ⟨(Nat.le_of_ble_eq_true rfl), (Nat.le_of_ble_eq_true rfl)⟩ dX9_goes_13 rfl rfl ?_
  refine r_aload_n (q := 17) C 1 dX9_goes_16 rfl rfl ?_
  refine r_iload_n (q := 18) C 2 dX9_goes_17 rfl rfl ?_
  refine r_iconst (q := 19) (v := (4 : Int32)) C dX9_goes_18 (by decide) rfl ?_
  refine r_aload_n (q := 20) C 1 dX9_goes_19 rfl rfl ?_
  refine r_iload_n (q := 21) C 2 dX9_goes_20 rfl rfl ?_
  refine r_iconst (q := 22) (v := (4 : Int32)) C dX9_goes_21 (by decide) rfl ?_
  obtain ⟨v7, h6, hf⟩ := m_b1_of hf
  refine r_callV (mc := 0) (ms := 0) (q := 25) (st1 := [.int v7, .int (4 : Int32), .int p1, .ref a0]) C (c_X9_of hl h6) rfl w_937 w_938 w_1325 w_11 w_939 hd_X9_of rfl (by decide) g1 rfl rfl rfl ⟨(Nat.le_of_ble_eq_true rfl), (Nat.le_of_ble_eq_true rfl)⟩ (Nat.le_of_ble_eq_true rfl) ⟨(Nat.le_of_ble_eq_true rfl), (Nat.le_of_ble_eq_true rfl)⟩ dX9_goes_22 rfl rfl ?_
  refine r_iconst (q := 26) (v := (1 : Int32)) C dX9_goes_25 (by decide) rfl ?_
  refine r_isub (q := 27) C dX9_goes_26 rfl ?_
  obtain ⟨_u, S9, h8, hf⟩ := m_bw_of hf
  refine r_callV (mc := 0) (ms := 0) (q := 30) (st1 := []) C (c_X9_lays hl h8) rfl w_955 w_956 w_1330 w_11 w_957 hd_X9_lays rfl (by decide) g1 rfl rfl rfl ⟨(Nat.le_of_ble_eq_true rfl), (Nat.le_of_ble_eq_true rfl)⟩ (Nat.le_of_ble_eq_true rfl) ⟨(Nat.le_of_ble_eq_true rfl), (Nat.le_of_ble_eq_true rfl)⟩ dX9_goes_27 rfl rfl ?_
  refine r_iconst (q := 31) (v := (4 : Int32)) C dX9_goes_30 (by decide) rfl ?_
  refine r_iload_n (q := 32) C 3 dX9_goes_31 rfl rfl ?_
  refine r_imul (q := 33) C dX9_goes_32 rfl ?_
  obtain ⟨v10, e11, hf⟩ := m_lt_of hf
  refine r_nm e11 ?_
  refine r_istore (q := 35) (L' := [(4, .int v10), (3, .int v3), (0, .ref a0), (1, .int p1), (2, .int p2)]) C dX9_goes_33 rfl (by decide) rfl ?_
  obtain ⟨j13, ej13, hf⟩ := m_jp_of hf
  have J13 : ∀ (S12 : m_S), j13 S12 = some (rZ9, SZ9) → m_G x Z S12 5 0 0 76 [(3, .int v3)] [] := by
    intro S12 hf
    rw [ej13] at hf
    refine r_iload_n (q := 77) C 0 dX9_goes_76 rfl rfl ?_
    obtain ⟨rfl, rfl⟩ := m_so2 hf
    exact r_iret C F dX9_goes_77
  have LL19 : ∀ (fu18 : Nat) (v14 : Int32) (S15 : m_S), m_fx (F_X9_goes_35 Z a0 p1 j13) fu18 (v14, S15) = some (rZ9, SZ9) → m_G x Z S15 5 0 0 35 [(0, .ref a0), (1, .int p1), (3, .int v3), (4, .int v14)] [] := by
    intro fu18
    induction fu18 with
    | zero => intros; rename_i hf; cases hf
    | succ fu18 ih17 =>
      intro v14 S15 hf
      replace hf : F_X9_goes_35 Z a0 p1 j13 (m_fx (F_X9_goes_35 Z a0 p1 j13) fu18) (v14, S15) = some (rZ9, SZ9) := hf
      unfold F_X9_goes_35 at hf
      dsimp only at hf
      refine r_iload (q := 37) C 3 dX9_goes_35 rfl rfl ?_
      refine r_iconst (q := 38) (v := (4 : Int32)) C dX9_goes_37 (by decide) rfl ?_
      refine r_aload_n (q := 39) C 0 dX9_goes_38 rfl rfl ?_
      refine r_iload_n (q := 40) C 1 dX9_goes_39 rfl rfl ?_
      refine r_iconst (q := 41) (v := (4 : Int32)) C dX9_goes_40 (by decide) rfl ?_
      obtain ⟨v21, h20, hf⟩ := m_b1_of hf
      refine r_callV (mc := 0) (ms := 0) (q := 44) (st1 := [.int v21, .int (4 : Int32), .int v14]) C (c_X9_of hl h20) rfl w_937 w_938 w_1325 w_11 w_939 hd_X9_of rfl (by decide) g1 rfl rfl rfl ⟨(Nat.le_of_ble_eq_true rfl), (Nat.le_of_ble_eq_true rfl)⟩ (Nat.le_of_ble_eq_true rfl) ⟨(Nat.le_of_ble_eq_true rfl), (Nat.le_of_ble_eq_true rfl)⟩ dX9_goes_41 rfl rfl ?_
      refine r_imul (q := 45) C dX9_goes_44 rfl ?_
      refine r_icmp_ge (t := 76) (q := 48) C dX9_goes_45 (by decide) rfl (fun c22 => ?_) (fun c22 => ?_)
      · replace hf := m_if1 hf c22
        refine r_sub [2] rfl ?_
        exact J13 S15 hf
      · replace hf := m_if0 hf c22
        refine r_aload_n (q := 49) C 0 dX9_goes_48 rfl rfl ?_
        refine r_iload_n (q := 50) C 1 dX9_goes_49 rfl rfl ?_
        refine r_bipush (q := 52) (v := (8 : Int32)) C dX9_goes_50 (by decide) rfl ?_
        refine r_iload (q := 54) C 3 dX9_goes_52 rfl rfl ?_
        refine r_iadd (q := 55) C dX9_goes_54 rfl ?_
        refine r_aload_n (q := 56) C 0 dX9_goes_55 rfl rfl ?_
        refine r_iload_n (q := 57) C 1 dX9_goes_56 rfl rfl ?_
        refine r_bipush (q := 59) (v := (8 : Int32)) C dX9_goes_57 (by decide) rfl ?_
        refine r_iload (q := 61) C 3 dX9_goes_59 rfl rfl ?_
        refine r_iadd (q := 62) C dX9_goes_61 rfl ?_
        refine r_iconst (q := 63) (v := (4 : Int32)) C dX9_goes_62 (by decide) rfl ?_
        refine r_iadd (q := 64) C dX9_goes_63 rfl ?_
        obtain ⟨v24, h23, hf⟩ := m_b1_of hf
        refine r_callV (mc := 0) (ms := 0) (q := 67) (st1 := [.int v24, .int ((8 : Int32) + v14), .int p1, .ref a0]) C (c_X9_of hl h23) rfl w_937 w_938 w_1325 w_11 w_939 hd_X9_of rfl (by decide) g1 rfl rfl rfl ⟨(Nat.le_of_ble_eq_true rfl), (Nat.le_of_ble_eq_true rfl)⟩ (Nat.le_of_ble_eq_true rfl) ⟨(Nat.le_of_ble_eq_true rfl), (Nat.le_of_ble_eq_true rfl)⟩ dX9_goes_64 rfl rfl ?_
        obtain ⟨_u, S26, h25, hf⟩ := m_bw_of hf
        refine r_callV (mc := 0) (ms := 0) (q := 70) (st1 := []) C (c_X9_lays hl h25) rfl w_955 w_956 w_1330 w_11 w_957 hd_X9_lays rfl (by decide) g1 rfl rfl rfl ⟨(Nat.le_of_ble_eq_true rfl), (Nat.le_of_ble_eq_true rfl)⟩ (Nat.le_of_ble_eq_true rfl) ⟨(Nat.le_of_ble_eq_true rfl), (Nat.le_of_ble_eq_true rfl)⟩ dX9_goes_67 rfl rfl ?_
        obtain ⟨v27, e28, hf⟩ := m_lt_of hf
        refine r_iinc (q := 73) (v := v27) (L' := [(4, .int v27), (0, .ref a0), (1, .int p1), (3, .int v3)]) C 3 dX9_goes_70 rfl (by rw [e28]; rfl) rfl (by decide) rfl ?_
        refine r_goto (t := 35) C dX9_goes_73 (by decide) ?_
        refine r_sub [1, 2, 3, 0] rfl ?_
        exact ih17 v27 S26 hf
  refine r_sub [2, 3, 1, 0] rfl ?_
  exact LL19 100000 v10 S9 hf
def f_X9_humidityIn (Z : m_Z) (S : m_S) (a0 : Nat) (p1 : Int32) (p2 : Int32) : Option (Int32 × m_S) := m_gd (m_ok Z a0 9) (m_lt (m_pI S a0 0 (0 : Int32)) (fun S2 => m_b1 (f_X9_isCase Z S2 a0 p1) (fun v5 => m_bw (f_X9_may Z S2 a0 v5 (1 : Int32)) (fun v8 S7 => (if v8 = 0 then some ((0 : Int32), S7) else m_b1 (f_X9_isIn Z S7 p2 (0 : Int32) (2000 : Int32)) (fun v11 => m_bw (f_X9_may Z S7 a0 v11 (2 : Int32)) (fun v14 S13 => (if ¬ v14 = 0 then m_bw (f_X9_setsAside Z S13 a0) (fun _u S17 => m_bw (f_X9_hours Z S17 a0 p2 p1 p1) (fun v20 S19 => m_b1 (f_X9_humidityOf Z S19 a0 p1) (fun v22 => m_bw (f_X9_bringsBack Z S19 a0) (fun _u S24 => some (v22, S24))))) else some ((0 : Int32), S13)))))))))
abbrev rm_X9_humidityIn : Room := { frames := 6, cells := 0, slots := 0, locals := 147 }
theorem hd_X9_humidityIn : yX9_humidityIn.cls = RX9 ∧ yX9_humidityIn.cls ≠ "java/lang/invoke/MethodHandle" ∧ yX9_humidityIn.cls ≠ "java/lang/invoke/VarHandle" ∧ (parseMethodDescriptor yX9_humidityIn.desc).map (fun d => d.parameters.length) = some 2 := by decide +kernel
set_option maxHeartbeats 4000000 in
set_option maxRecDepth 100000 in
theorem c_X9_humidityIn {l : Launch} (hl : l.stackTraces = false) {Z : m_Z} {S : m_S} {a0 : Nat} {p1 : Int32} {p2 : Int32} {rZ9 : Int32} {SZ9 : m_S} (hf : f_X9_humidityIn Z S a0 p1 p2 = some (rZ9, SZ9)) : m_Ct l yX9_humidityIn (.code yX9_humidityIn cX9_humidityIn 5 (some .int) :: m_ws) rm_X9_humidityIn (fun f => [.ref a0, .int p1, .int p2]) Z S (some (.int rZ9)) SZ9 := by
  unfold f_X9_humidityIn at hf
  refine m_ent hl (by decide) (fun _ => Nat.le_of_ble_eq_true rfl) (fun x C F => ?_)
  have C : m_H x l RX9 cX9_humidityIn 5 rm_X9_humidityIn := C
  show m_G x Z S 5 0 0 0 [(0, .ref a0), (1, .int p1), (2, .int p2)] []
  refine r_aload_n (q := 1) C 0 dX9_humidityIn_0 rfl rfl ?_
  refine r_iconst (q := 2) (v := (0 : Int32)) C dX9_humidityIn_1 (by decide) rfl ?_
  obtain ⟨g1, hf⟩ := m_gd_of hf
  obtain ⟨S2, e3, hf⟩ := m_lt_of hf
  refine pf_X9_61 (q := 5) C dX9_humidityIn_2 g1 e3 rfl ?_
  refine r_aload_n (q := 6) C 0 dX9_humidityIn_5 rfl rfl ?_
  refine r_aload_n (q := 7) C 0 dX9_humidityIn_6 rfl rfl ?_
  refine r_iload_n (q := 8) C 1 dX9_humidityIn_7 rfl rfl ?_
  obtain ⟨v5, h4, hf⟩ := m_b1_of hf
  refine r_callV (mc := 0) (ms := 0) (q := 11) (st1 := [.int v5, .ref a0]) C (c_X9_isCase hl h4) rfl w_1146 w_1147 w_1356 w_11 w_1148 hd_X9_isCase rfl (by decide) g1 rfl rfl rfl ⟨(Nat.le_of_ble_eq_true rfl), (Nat.le_of_ble_eq_true rfl)⟩ (Nat.le_of_ble_eq_true rfl) ⟨(Nat.le_of_ble_eq_true rfl), (Nat.le_of_ble_eq_true rfl)⟩ dX9_humidityIn_8 rfl rfl ?_
  refine r_iconst (q := 12) (v := (1 : Int32)) C dX9_humidityIn_11 (by decide) rfl ?_
  obtain ⟨v8, S7, h6, hf⟩ := m_bw_of hf
  refine r_callV (mc := 0) (ms := 0) (q := 15) (st1 := [.int v8]) C (c_X9_may hl h6) rfl w_1024 w_1025 w_1333 w_11 w_1026 hd_X9_may rfl (by decide) g1 rfl rfl rfl ⟨(Nat.le_of_ble_eq_true rfl), (Nat.le_of_ble_eq_true rfl)⟩ (Nat.le_of_ble_eq_true rfl) ⟨(Nat.le_of_ble_eq_true rfl), (Nat.le_of_ble_eq_true rfl)⟩ dX9_humidityIn_12 rfl rfl ?_
  refine r_if_eq (t := 34) (q := 18) C dX9_humidityIn_15 (by decide) rfl (fun c9 => ?_) (fun c9 => ?_)
  · replace hf := m_if1 hf c9
    refine r_iconst (q := 35) (v := (0 : Int32)) C dX9_humidityIn_34 (by decide) rfl ?_
    obtain ⟨rfl, rfl⟩ := m_so2 hf
    exact r_iret C F dX9_humidityIn_35
  · replace hf := m_if0 hf c9
    refine r_aload_n (q := 19) C 0 dX9_humidityIn_18 rfl rfl ?_
    refine r_iload_n (q := 20) C 2 dX9_humidityIn_19 rfl rfl ?_
    refine r_iconst (q := 21) (v := (0 : Int32)) C dX9_humidityIn_20 (by decide) rfl ?_
    refine r_sipush (q := 24) (v := (2000 : Int32)) C dX9_humidityIn_21 (by decide) rfl ?_
    obtain ⟨v11, h10, hf⟩ := m_b1_of hf
    refine r_callS (mc := 0) (ms := 0) (q := 27) (st1 := [.int v11, .ref a0]) C (c_X9_isIn hl h10) rfl w_1031 w_1032 w_11 w_1033 hd_X9_isIn rfl rfl rfl ⟨(Nat.le_of_ble_eq_true rfl), (Nat.le_of_ble_eq_true rfl)⟩ (Nat.le_of_ble_eq_true rfl) ⟨(Nat.le_of_ble_eq_true rfl), (Nat.le_of_ble_eq_true rfl)⟩ dX9_humidityIn_24 rfl rfl ?_
    refine r_iconst (q := 28) (v := (2 : Int32)) C dX9_humidityIn_27 (by decide) rfl ?_
    obtain ⟨v14, S13, h12, hf⟩ := m_bw_of hf
    refine r_callV (mc := 0) (ms := 0) (q := 31) (st1 := [.int v14]) C (c_X9_may hl h12) rfl w_1024 w_1025 w_1333 w_11 w_1026 hd_X9_may rfl (by decide) g1 rfl rfl rfl ⟨(Nat.le_of_ble_eq_true rfl), (Nat.le_of_ble_eq_true rfl)⟩ (Nat.le_of_ble_eq_true rfl) ⟨(Nat.le_of_ble_eq_true rfl), (Nat.le_of_ble_eq_true rfl)⟩ dX9_humidityIn_28 rfl rfl ?_
    refine r_if_ne (t := 36) (q := 34) C dX9_humidityIn_31 (by decide) rfl (fun c15 => ?_) (fun c15 => ?_)
    · replace hf := m_if1 hf c15
      refine r_aload_n (q := 37) C 0 dX9_humidityIn_36 rfl rfl ?_
      obtain ⟨_u, S17, h16, hf⟩ := m_bw_of hf
      refine r_callV (mc := 0) (ms := 0) (q := 40) (st1 := []) C (c_X9_setsAside hl h16) rfl w_1258 w_1259 w_1371 w_11 w_1260 hd_X9_setsAside rfl (by decide) g1 rfl rfl rfl ⟨(Nat.le_of_ble_eq_true rfl), (Nat.le_of_ble_eq_true rfl)⟩ (Nat.le_of_ble_eq_true rfl) ⟨(Nat.le_of_ble_eq_true rfl), (Nat.le_of_ble_eq_true rfl)⟩ dX9_humidityIn_37 rfl rfl ?_
      refine r_aload_n (q := 41) C 0 dX9_humidityIn_40 rfl rfl ?_
      refine r_iload_n (q := 42) C 2 dX9_humidityIn_41 rfl rfl ?_
      refine r_iload_n (q := 43) C 1 dX9_humidityIn_42 rfl rfl ?_
      refine r_iload_n (q := 44) C 1 dX9_humidityIn_43 rfl rfl ?_
      obtain ⟨v20, S19, h18, hf⟩ := m_bw_of hf
      refine r_callV (mc := 0) (ms := 0) (q := 47) (st1 := [.int v20]) C (c_X9_hours hl h18) rfl w_1241 w_1242 w_1367 w_11 w_1243 hd_X9_hours rfl (by decide) g1 rfl rfl rfl ⟨(Nat.le_of_ble_eq_true rfl), (Nat.le_of_ble_eq_true rfl)⟩ (Nat.le_of_ble_eq_true rfl) ⟨(Nat.le_of_ble_eq_true rfl), (Nat.le_of_ble_eq_true rfl)⟩ dX9_humidityIn_44 rfl rfl ?_
      refine r_istore_n (q := 48) (L' := [(3, .int v20), (0, .ref a0), (1, .int p1), (2, .int p2)]) C dX9_humidityIn_47 rfl rfl (by decide) rfl ?_
      refine r_aload_n (q := 49) C 1 dX9_humidityIn_48 rfl rfl ?_
      refine r_iload_n (q := 50) C 2 dX9_humidityIn_49 rfl rfl ?_
      obtain ⟨v22, h21, hf⟩ := m_b1_of hf
      refine r_callV (mc := 0) (ms := 0) (q := 53) (st1 := [.int v22]) C (c_X9_humidityOf hl h21) rfl w_1149 w_1150 w_1357 w_11 w_1151 hd_X9_humidityOf rfl (by decide) g1 rfl rfl rfl ⟨(Nat.le_of_ble_eq_true rfl), (Nat.le_of_ble_eq_true rfl)⟩ (Nat.le_of_ble_eq_true rfl) ⟨(Nat.le_of_ble_eq_true rfl), (Nat.le_of_ble_eq_true rfl)⟩ dX9_humidityIn_50 rfl rfl ?_
      refine r_istore (q := 55) (L' := [(4, .int v22), (3, .int v20), (0, .ref a0), (1, .int p1), (2, .int p2)]) C dX9_humidityIn_53 rfl (by decide) rfl ?_
      refine r_aload_n (q := 56) C 2 dX9_humidityIn_55 rfl rfl ?_
      obtain ⟨_u, S24, h23, hf⟩ := m_bw_of hf
      refine r_callV (mc := 0) (ms := 0) (q := 59) (st1 := []) C (c_X9_bringsBack hl h23) rfl w_1261 w_1262 w_1372 w_11 w_1263 hd_X9_bringsBack rfl (by decide) g1 rfl rfl rfl ⟨(Nat.le_of_ble_eq_true rfl), (Nat.le_of_ble_eq_true rfl)⟩ (Nat.le_of_ble_eq_true rfl) ⟨(Nat.le_of_ble_eq_true rfl), (Nat.le_of_ble_eq_true rfl)⟩ dX9_humidityIn_56 rfl rfl ?_
      refine r_iload (q := 61) C 0 dX9_humidityIn_59 rfl rfl ?_
      obtain ⟨rfl, rfl⟩ := m_so2 hf
      exact r_iret C F dX9_humidityIn_61
    · replace hf := m_if0 hf (fun z => z c15)
      refine r_iconst (q := 35) (v := (0 : Int32)) C dX9_humidityIn_34 (by decide) rfl ?_
      obtain ⟨rfl, rfl⟩ := m_so2 hf
      exact r_iret C F dX9_humidityIn_35
def F_X9_isWord_35 (Z : m_Z) (S : m_S) (a0 : Nat) (p1 : Nat) (j8 : (Unit → Option (Int32))) (j9 : (Unit → Option (Int32))) (lp11 : Int32 → Option (Int32)) (v10 : Int32) : Option (Int32) := m_gd (p1 < 8) ((if (Int32.ofNat (m_len.getD p1 0)) ≤ v10 then j8 () else m_b1 (f_X9_at Z S a0 ((S.1 a0 15) + v10)) (fun v18 => m_gd (p1 < 8 ∧ m_in v10 (m_len.getD p1 0)) ((if v18 = ((m_byt.getD p1 []).getD v10.toNatClampNeg 0) then m_lt (v10 + (1 : Int32)) (fun v21 => lp11 v21) else j9 ())))))
def f_X9_isWord (Z : m_Z) (S : m_S) (a0 : Nat) (p1 : Nat) : Option (Int32) := m_gd (m_ok Z a0 9) (m_b1 (f_X9_isWrong Z S a0) (fun v3 => (if ¬ v3 = 0 then some (0 : Int32) else (if ¬ (S.1 a0 16) = (1 : Int32) then some (0 : Int32) else m_gd (p1 < 8) ((if ((S.1 a0 14) - (S.1 a0 15)) = (Int32.ofNat (m_len.getD p1 0)) then m_jp (fun (_ : Unit) => some (1 : Int32)) (fun j8 => m_jp (fun (_ : Unit) => some (0 : Int32)) (fun j9 => m_fx (F_X9_isWord_35 Z S a0 p1 j8 j9) 100000 (0 : Int32))) else some (0 : Int32)))))))
abbrev rm_X9_isWord : Room := { frames := 4, cells := 0, slots := 0, locals := 120 }
theorem hd_X9_isWord : yX9_isWord.cls = RX9 ∧ yX9_isWord.cls ≠ "java/lang/invoke/MethodHandle" ∧ yX9_isWord.cls ≠ "java/lang/invoke/VarHandle" ∧ (parseMethodDescriptor yX9_isWord.desc).map (fun d => d.parameters.length) = some 1 := by decide +kernel
set_option maxHeartbeats 4000000 in
set_option maxRecDepth 100000 in
theorem c_X9_isWord {l : Launch} (hl : l.stackTraces = false) {Z : m_Z} {S : m_S} {a0 : Nat} {p1 : Nat} {rZ9 : Int32} (hf : f_X9_isWord Z S a0 p1 = some rZ9) : m_Ct l yX9_isWord (.code yX9_isWord cX9_isWord 3 (some .boolean) :: m_ws) rm_X9_isWord (fun f => [.ref a0, .ref (f p1)]) Z S (some (.int rZ9)) S := by
  unfold f_X9_isWord at hf
  refine m_ent hl (by decide) (fun _ => Nat.le_of_ble_eq_true rfl) (fun x C F => ?_)
  have C : m_H x l RX9 cX9_isWord 3 rm_X9_isWord := C
  show m_G x Z S 3 0 0 0 [(0, .ref a0), (1, .ref (m_K x p1))] []
  refine r_aload_n (q := 1) C 0 dX9_isWord_0 rfl rfl ?_
  obtain ⟨g1, hf⟩ := m_gd_of hf
  obtain ⟨v3, h2, hf⟩ := m_b1_of hf
  refine r_callV (mc := 0) (ms := 0) (q := 4) (st1 := [.int v3]) C (c_X9_isWrong hl h2) rfl w_1061 w_1062 w_1339 w_11 w_1063 hd_X9_isWrong rfl (by decide) g1 rfl rfl rfl ⟨(Nat.le_of_ble_eq_true rfl), (Nat.le_of_ble_eq_true rfl)⟩ (Nat.le_of_ble_eq_true rfl) ⟨(Nat.le_of_ble_eq_true rfl), (Nat.le_of_ble_eq_true rfl)⟩ dX9_isWord_1 rfl rfl ?_
  refine r_if_ne (t := 31) (q := 7) C dX9_isWord_4 (by decide) rfl (fun c4 => ?_) (fun c4 => ?_)
  · replace hf := m_if1 hf c4
    refine r_iconst (q := 32) (v := (0 : Int32)) C dX9_isWord_31 (by decide) rfl ?_
    obtain rfl := m_so1 hf
    exact r_zret C F (by decide) dX9_isWord_32
  · replace hf := m_if0 hf (fun z => z c4)
    refine r_aload_n (q := 8) C 0 dX9_isWord_7 rfl rfl ?_
    refine gf_X9_111 (q := 11) C dX9_isWord_8 g1 rfl ?_
    refine r_iconst (q := 12) (v := (1 : Int32)) C dX9_isWord_11 (by decide) rfl ?_
    refine r_icmp_ne (t := 31) (q := 15) C dX9_isWord_12 (by decide) rfl (fun c5 => ?_) (fun c5 => ?_)
    · replace hf := m_if1 hf c5
      refine r_iconst (q := 32) (v := (0 : Int32)) C dX9_isWord_31 (by decide) rfl ?_
      obtain rfl := m_so1 hf
      exact r_zret C F (by decide) dX9_isWord_32
    · replace hf := m_if0 hf (fun z => z c5)
      refine r_aload_n (q := 16) C 0 dX9_isWord_15 rfl rfl ?_
      refine gf_X9_101 (q := 19) C dX9_isWord_16 g1 rfl ?_
      refine r_aload_n (q := 20) C 0 dX9_isWord_19 rfl rfl ?_
      refine gf_X9_108 (q := 23) C dX9_isWord_20 g1 rfl ?_
      refine r_isub (q := 24) C dX9_isWord_23 rfl ?_
      refine r_aload_n (q := 25) C 1 dX9_isWord_24 rfl rfl ?_
      obtain ⟨g6, hf⟩ := m_gd_of hf
      refine r_slen (st0 := []) (q := 28) hl C w_1064 g6 ⟨(Nat.le_of_ble_eq_true rfl), (Nat.le_of_ble_eq_true rfl)⟩ (Nat.le_of_ble_eq_true rfl) ⟨(Nat.le_of_ble_eq_true rfl), (Nat.le_of_ble_eq_true rfl)⟩ dX9_isWord_25 rfl ?_
      refine r_icmp_eq (t := 33) (q := 31) C dX9_isWord_28 (by decide) rfl (fun c7 => ?_) (fun c7 => ?_)
      · replace hf := m_if1 hf c7
        refine r_iconst (q := 34) (v := (0 : Int32)) C dX9_isWord_33 (by decide) rfl ?_
        refine r_istore_n (q := 35) (L' := [(2, .int (0 : Int32)), (0, .ref a0), (1, .ref (m_K x p1))]) C dX9_isWord_34 rfl rfl (by decide) rfl ?_
        obtain ⟨j8, ej8, hf⟩ := m_jp_of hf
        have J8 : ∀ (_ : Unit), j8 () = some rZ9 → m_G x Z S 3 0 0 69 [] [] := by
          intro _ hf
          rw [ej8] at hf
          refine r_iconst (q := 70) (v := (1 : Int32)) C dX9_isWord_69 (by decide) rfl ?_
          obtain rfl := m_so1 hf
          exact r_zret C F (by decide) dX9_isWord_70
        obtain ⟨j9, ej9, hf⟩ := m_jp_of hf
        have J9 : ∀ (_ : Unit), j9 () = some rZ9 → m_G x Z S 3 0 0 61 [] [] := by
          intro _ hf
          rw [ej9] at hf
          refine r_iconst (q := 62) (v := (0 : Int32)) C dX9_isWord_61 (by decide) rfl ?_
          obtain rfl := m_so1 hf
          exact r_zret C F (by decide) dX9_isWord_62
        have LL14 : ∀ (fu13 : Nat) (v10 : Int32), m_fx (F_X9_isWord_35 Z S a0 p1 j8 j9) fu13 v10 = some rZ9 → m_G x Z S 3 0 0 35 [(0, .ref a0), (1, .ref (m_K x p1)), (2, .int v10)] [] := by
          intro fu13
          induction fu13 with
          | zero => intros; rename_i hf; cases hf
          | succ fu13 ih12 =>
            intro v10 hf
            replace hf : F_X9_isWord_35 Z S a0 p1 j8 j9 (m_fx (F_X9_isWord_35 Z S a0 p1 j8 j9) fu13) v10 = some rZ9 := hf
            unfold F_X9_isWord_35 at hf
            refine r_iload_n (q := 36) C 2 dX9_isWord_35 rfl rfl ?_
            refine r_aload_n (q := 37) C 1 dX9_isWord_36 rfl rfl ?_
            obtain ⟨g15, hf⟩ := m_gd_of hf
            refine r_slen (st0 := []) (q := 40) hl C w_1064 g15 ⟨(Nat.le_of_ble_eq_true rfl), (Nat.le_of_ble_eq_true rfl)⟩ (Nat.le_of_ble_eq_true rfl) ⟨(Nat.le_of_ble_eq_true rfl), (Nat.le_of_ble_eq_true rfl)⟩ dX9_isWord_37 rfl ?_
            refine r_icmp_ge (t := 69) (q := 43) C dX9_isWord_40 (by decide) rfl (fun c16 => ?_) (fun c16 => ?_)
            · replace hf := m_if1 hf c16
              refine r_sub [] rfl ?_
              exact J8 ()  hf
            · replace hf := m_if0 hf c16
              refine r_aload_n (q := 44) C 0 dX9_isWord_43 rfl rfl ?_
              refine r_aload_n (q := 45) C 0 dX9_isWord_44 rfl rfl ?_
              refine gf_X9_108 (q := 48) C dX9_isWord_45 g1 rfl ?_
              refine r_iload_n (q := 49) C 2 dX9_isWord_48 rfl rfl ?_
              refine r_iadd (q := 50) C dX9_isWord_49 rfl ?_
              obtain ⟨v18, h17, hf⟩ := m_b1_of hf
              refine r_callV (mc := 0) (ms := 0) (q := 53) (st1 := [.int v18]) C (c_X9_at hl h17) rfl w_1041 w_1042 w_1335 w_11 w_1043 hd_X9_at rfl (by decide) g1 rfl rfl rfl ⟨(Nat.le_of_ble_eq_true rfl), (Nat.le_of_ble_eq_true rfl)⟩ (Nat.le_of_ble_eq_true rfl) ⟨(Nat.le_of_ble_eq_true rfl), (Nat.le_of_ble_eq_true rfl)⟩ dX9_isWord_50 rfl rfl ?_
              refine r_aload_n (q := 54) C 1 dX9_isWord_53 rfl rfl ?_
              refine r_iload_n (q := 55) C 2 dX9_isWord_54 rfl rfl ?_
              obtain ⟨g19, hf⟩ := m_gd_of hf
              refine r_schar (q := 58) hl C w_1065 g19 ⟨(Nat.le_of_ble_eq_true rfl), (Nat.le_of_ble_eq_true rfl)⟩ (Nat.le_of_ble_eq_true rfl) ⟨(Nat.le_of_ble_eq_true rfl), (Nat.le_of_ble_eq_true rfl)⟩ dX9_isWord_55 rfl ?_
              refine r_icmp_eq (t := 63) (q := 61) C dX9_isWord_58 (by decide) rfl (fun c20 => ?_) (fun c20 => ?_)
              · replace hf := m_if1 hf c20
                obtain ⟨v21, e22, hf⟩ := m_lt_of hf
                refine r_iinc (q := 66) (v := v21) (L' := [(2, .int v21), (0, .ref a0), (1, .ref (m_K x p1))]) C 2 dX9_isWord_63 rfl (by rw [e22]; rfl) rfl (by decide) rfl ?_
                refine r_goto (t := 35) C dX9_isWord_66 (by decide) ?_
                refine r_sub [1, 2, 0] rfl ?_
                exact ih12 v21 hf
              · replace hf := m_if0 hf c20
                refine r_sub [] rfl ?_
                exact J9 ()  hf
        refine r_sub [1, 2, 0] rfl ?_
        exact LL14 100000 (0 : Int32) hf
      · replace hf := m_if0 hf c7
        refine r_iconst (q := 32) (v := (0 : Int32)) C dX9_isWord_31 (by decide) rfl ?_
        obtain rfl := m_so1 hf
        exact r_zret C F (by decide) dX9_isWord_32
def F_X9_named_29 (Z : m_Z) (a0 : Nat) (p1 : Nat) (p2 : Int32) (S3 : m_S) (j4 : (Unit → Option (Int32 × m_S))) (j6 : (Int32 → Option (Int32 × m_S))) (lp8 : Int32 → Option (Int32 × m_S)) (v7 : Int32) : Option (Int32 × m_S) := (if p2 ≤ v7 then j4 () else m_gd (m_ok Z p1 12) (m_gd (m_in v7 (Z.2.2 p1)) ((if ¬ (lg_cmp (S3.2.1 p1 v7.toNatClampNeg) (S3.2.1 a0 20)) = 0 then m_lt (v7 + (1 : Int32)) (fun v16 => lp8 v16) else j6 v7))))
def f_X9_named (Z : m_Z) (S : m_S) (a0 : Nat) (p1 : Nat) (p2 : Int32) : Option (Int32 × m_S) := m_gd (m_ok Z a0 9) (m_jp (fun (S3 : m_S) => m_jp (fun (_ : Unit) => some ((-1 : Int32), S3)) (fun j4 => m_jp (fun (v5 : Int32) => some (v5, S3)) (fun j6 => m_fx (F_X9_named_29 Z a0 p1 p2 S3 j4 j6) 100000 (0 : Int32)))) (fun j2 => m_jp (fun (_ : Unit) => m_bw (f_X9_fails Z S a0 (1 : Int32)) (fun _u S21 => j2 S21)) (fun j19 => (if ¬ (S.1 a0 16) = (1 : Int32) then j19 () else (if ((S.1 a0 14) - (S.1 a0 15)) ≤ (8 : Int32) then j2 S else j19 ())))))
abbrev rm_X9_named : Room := { frames := 2, cells := 0, slots := 0, locals := 41 }
theorem hd_X9_named : yX9_named.cls = RX9 ∧ yX9_named.cls ≠ "java/lang/invoke/MethodHandle" ∧ yX9_named.cls ≠ "java/lang/invoke/VarHandle" ∧ (parseMethodDescriptor yX9_named.desc).map (fun d => d.parameters.length) = some 2 := by decide +kernel
set_option maxHeartbeats 4000000 in
set_option maxRecDepth 100000 in
theorem c_X9_named {l : Launch} (hl : l.stackTraces = false) {Z : m_Z} {S : m_S} {a0 : Nat} {p1 : Nat} {p2 : Int32} {rZ9 : Int32} {SZ9 : m_S} (hf : f_X9_named Z S a0 p1 p2 = some (rZ9, SZ9)) : m_Ct l yX9_named (.code yX9_named cX9_named 4 (some .int) :: m_ws) rm_X9_named (fun f => [.ref a0, .ref p1, .int p2]) Z S (some (.int rZ9)) SZ9 := by
  unfold f_X9_named at hf
  refine m_ent hl (by decide) (fun _ => Nat.le_of_ble_eq_true rfl) (fun x C F => ?_)
  have C : m_H x l RX9 cX9_named 4 rm_X9_named := C
  show m_G x Z S 4 0 0 0 [(0, .ref a0), (1, .ref p1), (2, .int p2)] []
  refine r_aload_n (q := 1) C 0 dX9_named_0 rfl rfl ?_
  obtain ⟨g1, hf⟩ := m_gd_of hf
  refine gf_X9_111 (q := 4) C dX9_named_1 g1 rfl ?_
  refine r_iconst (q := 5) (v := (1 : Int32)) C dX9_named_4 (by decide) rfl ?_
  obtain ⟨j2, ej2, hf⟩ := m_jp_of hf
  have J2 : ∀ (S3 : m_S), j2 S3 = some (rZ9, SZ9) → m_G x Z S3 4 0 0 27 [(0, .ref a0), (1, .ref p1), (2, .int p2)] [] := by
    intro S3 hf
    rw [ej2] at hf
    refine r_iconst (q := 28) (v := (0 : Int32)) C dX9_named_27 (by decide) rfl ?_
    refine r_istore_n (q := 29) (L' := [(3, .int (0 : Int32)), (0, .ref a0), (1, .ref p1), (2, .int p2)]) C dX9_named_28 rfl rfl (by decide) rfl ?_
    obtain ⟨j4, ej4, hf⟩ := m_jp_of hf
    have J4 : ∀ (_ : Unit), j4 () = some (rZ9, SZ9) → m_G x Z S3 4 0 0 53 [] [] := by
      intro _ hf
      rw [ej4] at hf
      refine r_iconst (q := 54) (v := (-1 : Int32)) C dX9_named_53 (by decide) rfl ?_
      obtain ⟨rfl, rfl⟩ := m_so2 hf
      exact r_iret C F dX9_named_54
    obtain ⟨j6, ej6, hf⟩ := m_jp_of hf
    have J6 : ∀ (v5 : Int32), j6 v5 = some (rZ9, SZ9) → m_G x Z S3 4 0 0 45 [(3, .int v5)] [] := by
      intro v5 hf
      rw [ej6] at hf
      refine r_iload_n (q := 46) C 0 dX9_named_45 rfl rfl ?_
      obtain ⟨rfl, rfl⟩ := m_so2 hf
      exact r_iret C F dX9_named_46
    have LL11 : ∀ (fu10 : Nat) (v7 : Int32), m_fx (F_X9_named_29 Z a0 p1 p2 S3 j4 j6) fu10 v7 = some (rZ9, SZ9) → m_G x Z S3 4 0 0 29 [(0, .ref a0), (1, .ref p1), (2, .int p2), (3, .int v7)] [] := by
      intro fu10
      induction fu10 with
      | zero => intros; rename_i hf; cases hf
      | succ fu10 ih9 =>
        intro v7 hf
        replace hf : F_X9_named_29 Z a0 p1 p2 S3 j4 j6 (m_fx (F_X9_named_29 Z a0 p1 p2 S3 j4 j6) fu10) v7 = some (rZ9, SZ9) := hf
        unfold F_X9_named_29 at hf
        refine r_iload_n (q := 30) C 3 dX9_named_29 rfl rfl ?_
        refine r_iload_n (q := 31) C 2 dX9_named_30 rfl rfl ?_
        refine r_icmp_ge (t := 53) (q := 34) C dX9_named_31 (by decide) rfl (fun c12 => ?_) (fun c12 => ?_)
        · replace hf := m_if1 hf c12
          refine r_sub [] rfl ?_
          exact J4 ()  hf
        · replace hf := m_if0 hf c12
          refine r_aload_n (q := 35) C 1 dX9_named_34 rfl rfl ?_
          refine r_iload_n (q := 36) C 3 dX9_named_35 rfl rfl ?_
          obtain ⟨g13, hf⟩ := m_gd_of hf
          obtain ⟨g14, hf⟩ := m_gd_of hf
          refine r_lald (q := 37) C dX9_named_36 ⟨g13, g14⟩ rfl ?_
          refine r_aload_n (q := 38) C 0 dX9_named_37 rfl rfl ?_
          refine gf_X9_118 (q := 41) C dX9_named_38 g1 rfl ?_
          refine r_lcmp (q := 42) C dX9_named_41 rfl ?_
          refine r_if_ne (t := 47) (q := 45) C dX9_named_42 (by decide) rfl (fun c15 => ?_) (fun c15 => ?_)
          · replace hf := m_if1 hf c15
            obtain ⟨v16, e17, hf⟩ := m_lt_of hf
            refine r_iinc (q := 50) (v := v16) (L' := [(3, .int v16), (0, .ref a0), (1, .ref p1), (2, .int p2)]) C 3 dX9_named_47 rfl (by rw [e17]; rfl) rfl (by decide) rfl ?_
            refine r_goto (t := 29) C dX9_named_50 (by decide) ?_
            refine r_sub [1, 2, 3, 0] rfl ?_
            exact ih9 v16 hf
          · replace hf := m_if0 hf (fun z => z c15)
            refine r_sub [3] rfl ?_
            exact J6 v7 hf
    refine r_sub [1, 2, 3, 0] rfl ?_
    exact LL11 100000 (0 : Int32) hf
  obtain ⟨j19, ej19, hf⟩ := m_jp_of hf
  have J19 : ∀ (_ : Unit), j19 () = some (rZ9, SZ9) → m_G x Z S 4 0 0 22 [(0, .ref a0), (1, .ref p1), (2, .int p2)] [] := by
    intro _ hf
    rw [ej19] at hf
    refine r_aload_n (q := 23) C 0 dX9_named_22 rfl rfl ?_
    refine r_iconst (q := 24) (v := (1 : Int32)) C dX9_named_23 (by decide) rfl ?_
    obtain ⟨_u, S21, h20, hf⟩ := m_bw_of hf
    refine r_callV (mc := 0) (ms := 0) (q := 27) (st1 := []) C (c_X9_fails hl h20) rfl w_1066 w_1067 w_1340 w_11 w_1068 hd_X9_fails rfl (by decide) g1 rfl rfl rfl ⟨(Nat.le_of_ble_eq_true rfl), (Nat.le_of_ble_eq_true rfl)⟩ (Nat.le_of_ble_eq_true rfl) ⟨(Nat.le_of_ble_eq_true rfl), (Nat.le_of_ble_eq_true rfl)⟩ dX9_named_24 rfl rfl ?_
    exact J2 S21 hf
  refine r_icmp_ne (t := 22) (q := 8) C dX9_named_5 (by decide) rfl (fun c22 => ?_) (fun c22 => ?_)
  · replace hf := m_if1 hf c22
    exact J19 ()  hf
  · replace hf := m_if0 hf (fun z => z c22)
    refine r_aload_n (q := 9) C 0 dX9_named_8 rfl rfl ?_
    refine gf_X9_101 (q := 12) C dX9_named_9 g1 rfl ?_
    refine r_aload_n (q := 13) C 0 dX9_named_12 rfl rfl ?_
    refine gf_X9_108 (q := 16) C dX9_named_13 g1 rfl ?_
    refine r_isub (q := 17) C dX9_named_16 rfl ?_
    refine r_bipush (q := 19) (v := (8 : Int32)) C dX9_named_17 (by decide) rfl ?_
    refine r_icmp_le (t := 27) (q := 22) C dX9_named_19 (by decide) rfl (fun c23 => ?_) (fun c23 => ?_)
    · replace hf := m_if1 hf c23
      exact J2 S hf
    · replace hf := m_if0 hf c23
      exact J19 ()  hf
def f_X9_newName (Z : m_Z) (S : m_S) (a0 : Nat) (p1 : Nat) (p2 : Int32) : Option (Int32 × m_S) := m_gd (m_ok Z a0 9) (m_bw (f_X9_named Z S a0 p1 p2) (fun v4 S3 => m_jp (fun (S6 : m_S) => m_b1 (f_X9_isWrong Z S6 a0) (fun v8 => (if v8 = 0 then m_gd (m_ok Z p1 12) (m_gd (m_in p2 (Z.2.2 p1)) (m_lt (m_pJ S6 p1 p2.toNatClampNeg (S6.2.1 a0 20)) (fun S12 => m_bw (f_X9_token Z S12 a0) (fun _u S15 => some ((1 : Int32), S15))))) else some ((0 : Int32), S6)))) (fun j5 => (if v4 = (-1 : Int32) then j5 S3 else m_bw (f_X9_fails Z S3 a0 (3 : Int32)) (fun _u S18 => j5 S18)))))
abbrev rm_X9_newName : Room := { frames := 3, cells := 0, slots := 0, locals := 64 }
theorem hd_X9_newName : yX9_newName.cls = RX9 ∧ yX9_newName.cls ≠ "java/lang/invoke/MethodHandle" ∧ yX9_newName.cls ≠ "java/lang/invoke/VarHandle" ∧ (parseMethodDescriptor yX9_newName.desc).map (fun d => d.parameters.length) = some 2 := by decide +kernel
set_option maxHeartbeats 4000000 in
set_option maxRecDepth 100000 in
theorem c_X9_newName {l : Launch} (hl : l.stackTraces = false) {Z : m_Z} {S : m_S} {a0 : Nat} {p1 : Nat} {p2 : Int32} {rZ9 : Int32} {SZ9 : m_S} (hf : f_X9_newName Z S a0 p1 p2 = some (rZ9, SZ9)) : m_Ct l yX9_newName (.code yX9_newName cX9_newName 3 (some .boolean) :: m_ws) rm_X9_newName (fun f => [.ref a0, .ref p1, .int p2]) Z S (some (.int rZ9)) SZ9 := by
  unfold f_X9_newName at hf
  refine m_ent hl (by decide) (fun _ => Nat.le_of_ble_eq_true rfl) (fun x C F => ?_)
  have C : m_H x l RX9 cX9_newName 3 rm_X9_newName := C
  show m_G x Z S 3 0 0 0 [(0, .ref a0), (1, .ref p1), (2, .int p2)] []
  refine r_aload_n (q := 1) C 0 dX9_newName_0 rfl rfl ?_
  refine r_aload_n (q := 2) C 1 dX9_newName_1 rfl rfl ?_
  refine r_iload_n (q := 3) C 2 dX9_newName_2 rfl rfl ?_
  obtain ⟨g1, hf⟩ := m_gd_of hf
  obtain ⟨v4, S3, h2, hf⟩ := m_bw_of hf
  refine r_callV (mc := 0) (ms := 0) (q := 6) (st1 := [.int v4]) C (c_X9_named hl h2) rfl w_1090 w_1091 w_1348 w_11 w_1092 hd_X9_named rfl (by decide) g1 rfl rfl rfl ⟨(Nat.le_of_ble_eq_true rfl), (Nat.le_of_ble_eq_true rfl)⟩ (Nat.le_of_ble_eq_true rfl) ⟨(Nat.le_of_ble_eq_true rfl), (Nat.le_of_ble_eq_true rfl)⟩ dX9_newName_3 rfl rfl ?_
  refine r_iconst (q := 7) (v := (-1 : Int32)) C dX9_newName_6 (by decide) rfl ?_
  obtain ⟨j5, ej5, hf⟩ := m_jp_of hf
  have J5 : ∀ (S6 : m_S), j5 S6 = some (rZ9, SZ9) → m_G x Z S6 3 0 0 15 [(0, .ref a0), (1, .ref p1), (2, .int p2)] [] := by
    intro S6 hf
    rw [ej5] at hf
    refine r_aload_n (q := 16) C 0 dX9_newName_15 rfl rfl ?_
    obtain ⟨v8, h7, hf⟩ := m_b1_of hf
    refine r_callV (mc := 0) (ms := 0) (q := 19) (st1 := [.int v8]) C (c_X9_isWrong hl h7) rfl w_1061 w_1062 w_1339 w_11 w_1063 hd_X9_isWrong rfl (by decide) g1 rfl rfl rfl ⟨(Nat.le_of_ble_eq_true rfl), (Nat.le_of_ble_eq_true rfl)⟩ (Nat.le_of_ble_eq_true rfl) ⟨(Nat.le_of_ble_eq_true rfl), (Nat.le_of_ble_eq_true rfl)⟩ dX9_newName_16 rfl rfl ?_
    refine r_if_eq (t := 24) (q := 22) C dX9_newName_19 (by decide) rfl (fun c9 => ?_) (fun c9 => ?_)
    · replace hf := m_if1 hf c9
      refine r_aload_n (q := 25) C 1 dX9_newName_24 rfl rfl ?_
      refine r_iload_n (q := 26) C 2 dX9_newName_25 rfl rfl ?_
      refine r_aload_n (q := 27) C 0 dX9_newName_26 rfl rfl ?_
      refine gf_X9_118 (q := 30) C dX9_newName_27 g1 rfl ?_
      obtain ⟨g10, hf⟩ := m_gd_of hf
      obtain ⟨g11, hf⟩ := m_gd_of hf
      obtain ⟨S12, e13, hf⟩ := m_lt_of hf
      refine r_last (q := 31) C dX9_newName_30 ⟨g10, g11⟩ rfl ?_
      rw [← e13]
      refine r_aload_n (q := 32) C 0 dX9_newName_31 rfl rfl ?_
      obtain ⟨_u, S15, h14, hf⟩ := m_bw_of hf
      refine r_callV (mc := 0) (ms := 0) (q := 35) (st1 := []) C (c_X9_token hl h14) rfl w_1038 w_1039 w_1334 w_11 w_1040 hd_X9_token rfl (by decide) g1 rfl rfl rfl ⟨(Nat.le_of_ble_eq_true rfl), (Nat.le_of_ble_eq_true rfl)⟩ (Nat.le_of_ble_eq_true rfl) ⟨(Nat.le_of_ble_eq_true rfl), (Nat.le_of_ble_eq_true rfl)⟩ dX9_newName_32 rfl rfl ?_
      refine r_iconst (q := 36) (v := (1 : Int32)) C dX9_newName_35 (by decide) rfl ?_
      obtain ⟨rfl, rfl⟩ := m_so2 hf
      exact r_zret C F (by decide) dX9_newName_36
    · replace hf := m_if0 hf c9
      refine r_iconst (q := 23) (v := (0 : Int32)) C dX9_newName_22 (by decide) rfl ?_
      obtain ⟨rfl, rfl⟩ := m_so2 hf
      exact r_zret C F (by decide) dX9_newName_23
  refine r_icmp_eq (t := 15) (q := 10) C dX9_newName_7 (by decide) rfl (fun c16 => ?_) (fun c16 => ?_)
  · replace hf := m_if1 hf c16
    exact J5 S3 hf
  · replace hf := m_if0 hf c16
    refine r_aload_n (q := 11) C 0 dX9_newName_10 rfl rfl ?_
    refine r_iconst (q := 12) (v := (3 : Int32)) C dX9_newName_11 (by decide) rfl ?_
    obtain ⟨_u, S18, h17, hf⟩ := m_bw_of hf
    refine r_callV (mc := 0) (ms := 0) (q := 15) (st1 := []) C (c_X9_fails hl h17) rfl w_1066 w_1067 w_1340 w_11 w_1068 hd_X9_fails rfl (by decide) g1 rfl rfl rfl ⟨(Nat.le_of_ble_eq_true rfl), (Nat.le_of_ble_eq_true rfl)⟩ (Nat.le_of_ble_eq_true rfl) ⟨(Nat.le_of_ble_eq_true rfl), (Nat.le_of_ble_eq_true rfl)⟩ dX9_newName_12 rfl rfl ?_
    exact J5 S18 hf
def f_X9_point (Z : m_Z) (S : m_S) (a0 : Nat) (p1 : Int32) (p2 : Int32) : Option (Unit × m_S) := m_lt ((p1 + (2 : Int32)) + ((2 : Int32) * p2)) (fun v1 => m_gd (m_ok Z a0 9) (m_b1 (S.2.2 a0 2) (fun b4 => m_jp (fun (v7 : Int32) => m_bw (f_X9_figure Z S a0 v7 (1000 : Int32)) (fun v10 S9 => m_gd (m_ok Z b4 11) (m_gd (m_in v1 (Z.2.2 b4)) (m_lt (m_pI S9 b4 v1.toNatClampNeg v10) (fun S13 => m_b1 (S13.2.2 a0 2) (fun b15 => (if ¬ p2 = 0 then m_gd (m_ok Z b15 11) (m_lt (v1 - (1 : Int32)) (fun v19 => m_gd (m_in v19 (Z.2.2 b15)) (m_bw (f_X9_figure Z S13 a0 (S13.1 b15 v19.toNatClampNeg) (9999 : Int32)) (fun v24 S23 => m_gd (m_in (v1 + (1 : Int32)) (Z.2.2 b15)) (m_lt (m_pI S23 b15 (v1 + (1 : Int32)).toNatClampNeg v24) (fun S26 => some ((), S26))))))) else m_bw (f_X9_figure Z S13 a0 (0 : Int32) (9999 : Int32)) (fun v30 S29 => m_gd (m_ok Z b15 11) (m_gd (m_in (v1 + (1 : Int32)) (Z.2.2 b15)) (m_lt (m_pI S29 b15 (v1 + (1 : Int32)).toNatClampNeg v30) (fun S33 => some ((), S33)))))))))))) (fun j6 => (if ¬ p2 = 0 then m_gd (m_ok Z b4 11) (m_lt (v1 - (2 : Int32)) (fun v37 => m_gd (m_in v37 (Z.2.2 b4)) (j6 ((S.1 b4 v37.toNatClampNeg) + (1 : Int32))))) else j6 (0 : Int32))))))
abbrev rm_X9_point : Room := { frames := 3, cells := 0, slots := 0, locals := 65 }
theorem hd_X9_point : yX9_point.cls = RX9 ∧ yX9_point.cls ≠ "java/lang/invoke/MethodHandle" ∧ yX9_point.cls ≠ "java/lang/invoke/VarHandle" ∧ (parseMethodDescriptor yX9_point.desc).map (fun d => d.parameters.length) = some 2 := by decide +kernel
set_option maxHeartbeats 4000000 in
set_option maxRecDepth 100000 in
theorem c_X9_point {l : Launch} (hl : l.stackTraces = false) {Z : m_Z} {S : m_S} {a0 : Nat} {p1 : Int32} {p2 : Int32} {rZ9 : Unit} {SZ9 : m_S} (hf : f_X9_point Z S a0 p1 p2 = some (rZ9, SZ9)) : m_Ct l yX9_point (.code yX9_point cX9_point 4 none :: m_ws) rm_X9_point (fun f => [.ref a0, .int p1, .int p2]) Z S (none) SZ9 := by
  unfold f_X9_point at hf
  refine m_ent hl (by decide) (fun _ => Nat.le_of_ble_eq_true rfl) (fun x C F => ?_)
  have C : m_H x l RX9 cX9_point 4 rm_X9_point := C
  show m_G x Z S 4 0 0 0 [(0, .ref a0), (1, .int p1), (2, .int p2)] []
  refine r_iload_n (q := 1) C 1 dX9_point_0 rfl rfl ?_
  refine r_iconst (q := 2) (v := (2 : Int32)) C dX9_point_1 (by decide) rfl ?_
  refine r_iadd (q := 3) C dX9_point_2 rfl ?_
  refine r_iconst (q := 4) (v := (2 : Int32)) C dX9_point_3 (by decide) rfl ?_
  refine r_iload_n (q := 5) C 2 dX9_point_4 rfl rfl ?_
  refine r_imul (q := 6) C dX9_point_5 rfl ?_
  refine r_iadd (q := 7) C dX9_point_6 rfl ?_
  obtain ⟨v1, e2, hf⟩ := m_lt_of hf
  refine r_nm e2 ?_
  refine r_istore_n (q := 8) (L' := [(3, .int v1), (0, .ref a0), (1, .int p1), (2, .int p2)]) C dX9_point_7 rfl rfl (by decide) rfl ?_
  refine r_aload_n (q := 9) C 1 dX9_point_8 rfl rfl ?_
  obtain ⟨g3, hf⟩ := m_gd_of hf
  obtain ⟨b4, e5, hf⟩ := m_b1_of hf
  refine gf_X9_13 (q := 12) C dX9_point_9 g3 e5 rfl ?_
  refine r_iload_n (q := 13) C 0 dX9_point_12 rfl rfl ?_
  refine r_aload_n (q := 14) C 1 dX9_point_13 rfl rfl ?_
  refine r_iload_n (q := 15) C 3 dX9_point_14 rfl rfl ?_
  obtain ⟨j6, ej6, hf⟩ := m_jp_of hf
  have J6 : ∀ (v7 : Int32), j6 v7 = some (rZ9, SZ9) → m_G x Z S 4 0 0 32 [(0, .ref a0), (2, .int p2), (3, .int v1)] [.int v7, .ref a0, .int v1, .ref b4] := by
    intro v7 hf
    rw [ej6] at hf
    refine r_sipush (q := 35) (v := (1000 : Int32)) C dX9_point_32 (by decide) rfl ?_
    obtain ⟨v10, S9, h8, hf⟩ := m_bw_of hf
    refine r_callV (mc := 0) (ms := 0) (q := 38) (st1 := [.int v10, .int v1, .ref b4]) C (c_X9_figure hl h8) rfl w_1069 w_1070 w_1341 w_11 w_1071 hd_X9_figure rfl (by decide) g3 rfl rfl rfl ⟨(Nat.le_of_ble_eq_true rfl), (Nat.le_of_ble_eq_true rfl)⟩ (Nat.le_of_ble_eq_true rfl) ⟨(Nat.le_of_ble_eq_true rfl), (Nat.le_of_ble_eq_true rfl)⟩ dX9_point_35 rfl rfl ?_
    obtain ⟨g11, hf⟩ := m_gd_of hf
    obtain ⟨g12, hf⟩ := m_gd_of hf
    obtain ⟨S13, e14, hf⟩ := m_lt_of hf
    refine r_iast (q := 39) C dX9_point_38 ⟨g11, g12⟩ rfl ?_
    rw [← e14]
    refine r_aload_n (q := 40) C 0 dX9_point_39 rfl rfl ?_
    obtain ⟨b15, e16, hf⟩ := m_b1_of hf
    refine gf_X9_13 (q := 43) C dX9_point_40 g3 e16 rfl ?_
    refine r_iload_n (q := 44) C 2 dX9_point_43 rfl rfl ?_
    refine r_iconst (q := 45) (v := (1 : Int32)) C dX9_point_44 (by decide) rfl ?_
    refine r_iadd (q := 46) C dX9_point_45 rfl ?_
    refine r_aload_n (q := 47) C 0 dX9_point_46 rfl rfl ?_
    refine r_iload_n (q := 48) C 1 dX9_point_47 rfl rfl ?_
    refine r_if_ne (t := 55) (q := 51) C dX9_point_48 (by decide) rfl (fun c17 => ?_) (fun c17 => ?_)
    · replace hf := m_if1 hf c17
      refine r_aload_n (q := 56) C 0 dX9_point_55 rfl rfl ?_
      refine gf_X9_13 (q := 59) C dX9_point_56 g3 e16 rfl ?_
      refine r_iload_n (q := 60) C 2 dX9_point_59 rfl rfl ?_
      refine r_iconst (q := 61) (v := (1 : Int32)) C dX9_point_60 (by decide) rfl ?_
      refine r_isub (q := 62) C dX9_point_61 rfl ?_
      obtain ⟨g18, hf⟩ := m_gd_of hf
      obtain ⟨v19, e20, hf⟩ := m_lt_of hf
      refine r_nm e20 ?_
      obtain ⟨g21, hf⟩ := m_gd_of hf
      refine r_iald (q := 63) C dX9_point_62 ⟨g18, g21⟩ rfl ?_
      refine r_sipush (q := 66) (v := (9999 : Int32)) C dX9_point_63 (by decide) rfl ?_
      obtain ⟨v24, S23, h22, hf⟩ := m_bw_of hf
      refine r_callV (mc := 0) (ms := 0) (q := 69) (st1 := [.int v24, .int (v1 + (1 : Int32)), .ref b15]) C (c_X9_figure hl h22) rfl w_1069 w_1070 w_1341 w_11 w_1071 hd_X9_figure rfl (by decide) g3 rfl rfl rfl ⟨(Nat.le_of_ble_eq_true rfl), (Nat.le_of_ble_eq_true rfl)⟩ (Nat.le_of_ble_eq_true rfl) ⟨(Nat.le_of_ble_eq_true rfl), (Nat.le_of_ble_eq_true rfl)⟩ dX9_point_66 rfl rfl ?_
      obtain ⟨g25, hf⟩ := m_gd_of hf
      obtain ⟨S26, e27, hf⟩ := m_lt_of hf
      refine r_iast (q := 70) C dX9_point_69 ⟨g18, g25⟩ rfl ?_
      rw [← e27]
      obtain ⟨rfl, rfl⟩ := m_so2 hf
      exact r_vret C F dX9_point_70
    · replace hf := m_if0 hf (fun z => z c17)
      refine r_iconst (q := 52) (v := (0 : Int32)) C dX9_point_51 (by decide) rfl ?_
      refine r_goto (t := 63) C dX9_point_52 (by decide) ?_
      refine r_sipush (q := 66) (v := (9999 : Int32)) C dX9_point_63 (by decide) rfl ?_
      obtain ⟨v30, S29, h28, hf⟩ := m_bw_of hf
      refine r_callV (mc := 0) (ms := 0) (q := 69) (st1 := [.int v30, .int (v1 + (1 : Int32)), .ref b15]) C (c_X9_figure hl h28) rfl w_1069 w_1070 w_1341 w_11 w_1071 hd_X9_figure rfl (by decide) g3 rfl rfl rfl ⟨(Nat.le_of_ble_eq_true rfl), (Nat.le_of_ble_eq_true rfl)⟩ (Nat.le_of_ble_eq_true rfl) ⟨(Nat.le_of_ble_eq_true rfl), (Nat.le_of_ble_eq_true rfl)⟩ dX9_point_66 rfl rfl ?_
      obtain ⟨g31, hf⟩ := m_gd_of hf
      obtain ⟨g32, hf⟩ := m_gd_of hf
      obtain ⟨S33, e34, hf⟩ := m_lt_of hf
      refine r_iast (q := 70) C dX9_point_69 ⟨g31, g32⟩ rfl ?_
      rw [← e34]
      obtain ⟨rfl, rfl⟩ := m_so2 hf
      exact r_vret C F dX9_point_70
  refine r_if_ne (t := 22) (q := 18) C dX9_point_15 (by decide) rfl (fun c35 => ?_) (fun c35 => ?_)
  · replace hf := m_if1 hf c35
    refine r_aload_n (q := 23) C 1 dX9_point_22 rfl rfl ?_
    refine gf_X9_13 (q := 26) C dX9_point_23 g3 e5 rfl ?_
    refine r_iload_n (q := 27) C 0 dX9_point_26 rfl rfl ?_
    refine r_iconst (q := 28) (v := (2 : Int32)) C dX9_point_27 (by decide) rfl ?_
    refine r_isub (q := 29) C dX9_point_28 rfl ?_
    obtain ⟨g36, hf⟩ := m_gd_of hf
    obtain ⟨v37, e38, hf⟩ := m_lt_of hf
    refine r_nm e38 ?_
    obtain ⟨g39, hf⟩ := m_gd_of hf
    refine r_iald (q := 30) C dX9_point_29 ⟨g36, g39⟩ rfl ?_
    refine r_iconst (q := 31) (v := (1 : Int32)) C dX9_point_30 (by decide) rfl ?_
    refine r_iadd (q := 32) C dX9_point_31 rfl ?_
    refine r_sub [1, 3, 0] rfl ?_
    exact J6 ((S.1 b4 v37.toNatClampNeg) + (1 : Int32)) hf
  · replace hf := m_if0 hf (fun z => z c35)
    refine r_iconst (q := 19) (v := (0 : Int32)) C dX9_point_18 (by decide) rfl ?_
    refine r_goto (t := 32) C dX9_point_19 (by decide) ?_
    refine r_sub [1, 3, 0] rfl ?_
    exact J6 (0 : Int32) hf
def F_X9_kind_56 (Z : m_Z) (a0 : Nat) (v20 : Int32) (j50 : (Int32 → m_S → Option (Unit × m_S))) (j52 : (m_S → Option (Unit × m_S))) (lp55 : (Int32 × m_S) → Option (Unit × m_S)) (p76 : (Int32 × m_S)) : Option (Unit × m_S) := match p76 with
  | (v53, S54) => m_b1 (f_X9_isWord Z S54 a0 6) (fun v60 => (if v60 = 0 then j50 v53 S54 else m_jp (fun (S63 : m_S) => m_b1 (f_X9_isWrong Z S63 a0) (fun v65 => (if v65 = 0 then m_bw (f_X9_token Z S63 a0) (fun _u S68 => m_bw (f_X9_point Z S68 a0 v20 v53) (fun _u S70 => m_lt (v53 + (1 : Int32)) (fun v71 => lp55 (v71, S70)))) else j52 S63))) (fun j62 => (if ¬ v53 = (6 : Int32) then j62 S54 else m_bw (f_X9_fails Z S54 a0 (4 : Int32)) (fun _u S75 => j62 S75)))))
def f_X9_kind (Z : m_Z) (S : m_S) (a0 : Nat) : Option (Unit × m_S) := m_gd (m_ok Z a0 9) (m_bw (f_X9_begins Z S a0 (4 : Int32) (4 : Int32)) (fun v4 S3 => (if v4 = 0 then some ((), S3) else m_b1 (S3.2.2 a0 21) (fun b6 => m_b1 (S3.2.2 a0 2) (fun b8 => m_gd (m_ok Z b8 11) (m_gd (m_in (4 : Int32) (Z.2.2 b8)) (m_bw (f_X9_newName Z S3 a0 b6 (S3.1 b8 (4 : Int32).toNatClampNeg)) (fun v14 S13 => (if ¬ v14 = 0 then m_b1 (S13.2.2 a0 2) (fun b16 => m_gd (m_ok Z b16 11) (m_gd (m_in (4 : Int32) (Z.2.2 b16)) (m_lt ((54 : Int32) + ((14 : Int32) * (S13.1 b16 (4 : Int32).toNatClampNeg))) (fun v20 => m_bw (f_X9_figure Z S13 a0 (0 : Int32) (1000 : Int32)) (fun v24 S23 => m_gd (m_in v20 (Z.2.2 b16)) (m_lt (m_pI S23 b16 v20.toNatClampNeg v24) (fun S26 => m_jp (fun (v28 : Int32) (S29 : m_S) => m_jp (fun (S31 : m_S) => m_b1 (S31.2.2 a0 2) (fun b32 => m_gd (m_ok Z b32 11) (m_gd (m_in (v20 + (1 : Int32)) (Z.2.2 b32)) (m_lt (m_pI S31 b32 (v20 + (1 : Int32)).toNatClampNeg v28) (fun S36 => m_b1 (S36.2.2 a0 2) (fun b38 => m_gd (m_ok Z b38 11) (m_gd (m_in (4 : Int32) (Z.2.2 b38)) (m_gd (m_in (4 : Int32) (Z.2.2 b38)) (m_lt (m_pI S36 b38 (4 : Int32).toNatClampNeg ((S36.1 b38 (4 : Int32).toNatClampNeg) + (1 : Int32))) (fun S43 => m_bw (f_X9_ends Z S43 a0) (fun _u S46 => some ((), S46)))))))))))) (fun j30 => (if (2 : Int32) ≤ v28 then j30 S29 else m_bw (f_X9_fails Z S29 a0 (1 : Int32)) (fun _u S49 => j30 S49)))) (fun j50 => m_jp (fun (S51 : m_S) => some ((), S51)) (fun j52 => m_fx (F_X9_kind_56 Z a0 v20 j50 j52) 100000 ((0 : Int32), S26)))))))))) else some ((), S13))))))))))
abbrev rm_X9_kind : Room := { frames := 5, cells := 0, slots := 0, locals := 142 }
theorem hd_X9_kind : yX9_kind.cls = RX9 ∧ yX9_kind.cls ≠ "java/lang/invoke/MethodHandle" ∧ yX9_kind.cls ≠ "java/lang/invoke/VarHandle" ∧ (parseMethodDescriptor yX9_kind.desc).map (fun d => d.parameters.length) = some 0 := by decide +kernel
set_option maxHeartbeats 4000000 in
set_option maxRecDepth 100000 in
theorem c_X9_kind {l : Launch} (hl : l.stackTraces = false) {Z : m_Z} {S : m_S} {a0 : Nat} {rZ9 : Unit} {SZ9 : m_S} (hf : f_X9_kind Z S a0 = some (rZ9, SZ9)) : m_Ct l yX9_kind (.code yX9_kind cX9_kind 3 none :: m_ws) rm_X9_kind (fun f => [.ref a0]) Z S (none) SZ9 := by
  unfold f_X9_kind at hf
  refine m_ent hl (by decide) (fun _ => Nat.le_of_ble_eq_true rfl) (fun x C F => ?_)
  have C : m_H x l RX9 cX9_kind 3 rm_X9_kind := C
  show m_G x Z S 3 0 0 0 [(0, .ref a0)] []
  refine r_aload_n (q := 1) C 0 dX9_kind_0 rfl rfl ?_
  refine r_iconst (q := 2) (v := (4 : Int32)) C dX9_kind_1 (by decide) rfl ?_
  refine r_iconst (q := 3) (v := (4 : Int32)) C dX9_kind_2 (by decide) rfl ?_
  obtain ⟨g1, hf⟩ := m_gd_of hf
  obtain ⟨v4, S3, h2, hf⟩ := m_bw_of hf
  refine r_callV (mc := 0) (ms := 0) (q := 6) (st1 := [.int v4]) C (c_X9_begins hl h2) rfl w_1078 w_1079 w_1344 w_11 w_1080 hd_X9_begins rfl (by decide) g1 rfl rfl rfl ⟨(Nat.le_of_ble_eq_true rfl), (Nat.le_of_ble_eq_true rfl)⟩ (Nat.le_of_ble_eq_true rfl) ⟨(Nat.le_of_ble_eq_true rfl), (Nat.le_of_ble_eq_true rfl)⟩ dX9_kind_3 rfl rfl ?_
  refine r_if_eq (t := 26) (q := 9) C dX9_kind_6 (by decide) rfl (fun c5 => ?_) (fun c5 => ?_)
  · replace hf := m_if1 hf c5
    obtain ⟨rfl, rfl⟩ := m_so2 hf
    exact r_vret C F dX9_kind_26
  · replace hf := m_if0 hf c5
    refine r_aload_n (q := 10) C 0 dX9_kind_9 rfl rfl ?_
    refine r_aload_n (q := 11) C 0 dX9_kind_10 rfl rfl ?_
    obtain ⟨b6, e7, hf⟩ := m_b1_of hf
    refine gf_X9_49 (q := 14) C dX9_kind_11 g1 e7 rfl ?_
    refine r_aload_n (q := 15) C 0 dX9_kind_14 rfl rfl ?_
    obtain ⟨b8, e9, hf⟩ := m_b1_of hf
    refine gf_X9_13 (q := 18) C dX9_kind_15 g1 e9 rfl ?_
    refine r_iconst (q := 19) (v := (4 : Int32)) C dX9_kind_18 (by decide) rfl ?_
    obtain ⟨g10, hf⟩ := m_gd_of hf
    obtain ⟨g11, hf⟩ := m_gd_of hf
    refine r_iald (q := 20) C dX9_kind_19 ⟨g10, g11⟩ rfl ?_
    obtain ⟨v14, S13, h12, hf⟩ := m_bw_of hf
    refine r_callV (mc := 0) (ms := 0) (q := 23) (st1 := [.int v14]) C (c_X9_newName hl h12) rfl w_1087 w_1088 w_1347 w_11 w_1089 hd_X9_newName rfl (by decide) g1 rfl rfl rfl ⟨(Nat.le_of_ble_eq_true rfl), (Nat.le_of_ble_eq_true rfl)⟩ (Nat.le_of_ble_eq_true rfl) ⟨(Nat.le_of_ble_eq_true rfl), (Nat.le_of_ble_eq_true rfl)⟩ dX9_kind_20 rfl rfl ?_
    refine r_if_ne (t := 27) (q := 26) C dX9_kind_23 (by decide) rfl (fun c15 => ?_) (fun c15 => ?_)
    · replace hf := m_if1 hf c15
      refine r_bipush (q := 29) (v := (54 : Int32)) C dX9_kind_27 (by decide) rfl ?_
      refine r_bipush (q := 31) (v := (14 : Int32)) C dX9_kind_29 (by decide) rfl ?_
      refine r_aload_n (q := 32) C 0 dX9_kind_31 rfl rfl ?_
      obtain ⟨b16, e17, hf⟩ := m_b1_of hf
      refine gf_X9_13 (q := 35) C dX9_kind_32 g1 e17 rfl ?_
      refine r_iconst (q := 36) (v := (4 : Int32)) C dX9_kind_35 (by decide) rfl ?_
      obtain ⟨g18, hf⟩ := m_gd_of hf
      obtain ⟨g19, hf⟩ := m_gd_of hf
      refine r_iald (q := 37) C dX9_kind_36 ⟨g18, g19⟩ rfl ?_
      refine r_imul (q := 38) C dX9_kind_37 rfl ?_
      refine r_iadd (q := 39) C dX9_kind_38 rfl ?_
      obtain ⟨v20, e21, hf⟩ := m_lt_of hf
      refine r_nm e21 ?_
      refine r_istore_n (q := 40) (L' := [(1, .int v20), (0, .ref a0)]) C dX9_kind_39 rfl rfl (by decide) rfl ?_
      refine r_aload_n (q := 41) C 1 dX9_kind_40 rfl rfl ?_
      refine gf_X9_13 (q := 44) C dX9_kind_41 g1 e17 rfl ?_
      refine r_iload_n (q := 45) C 0 dX9_kind_44 rfl rfl ?_
      refine r_aload_n (q := 46) C 1 dX9_kind_45 rfl rfl ?_
      refine r_iconst (q := 47) (v := (0 : Int32)) C dX9_kind_46 (by decide) rfl ?_
      refine r_sipush (q := 50) (v := (1000 : Int32)) C dX9_kind_47 (by decide) rfl ?_
      obtain ⟨v24, S23, h22, hf⟩ := m_bw_of hf
      refine r_callV (mc := 0) (ms := 0) (q := 53) (st1 := [.int v24, .int v20, .ref b16]) C (c_X9_figure hl h22) rfl w_1069 w_1070 w_1341 w_11 w_1071 hd_X9_figure rfl (by decide) g1 rfl rfl rfl ⟨(Nat.le_of_ble_eq_true rfl), (Nat.le_of_ble_eq_true rfl)⟩ (Nat.le_of_ble_eq_true rfl) ⟨(Nat.le_of_ble_eq_true rfl), (Nat.le_of_ble_eq_true rfl)⟩ dX9_kind_50 rfl rfl ?_
      obtain ⟨g25, hf⟩ := m_gd_of hf
      obtain ⟨S26, e27, hf⟩ := m_lt_of hf
      refine r_iast (q := 54) C dX9_kind_53 ⟨g18, g25⟩ rfl ?_
      rw [← e27]
      refine r_iconst (q := 55) (v := (0 : Int32)) C dX9_kind_54 (by decide) rfl ?_
      refine r_istore_n (q := 56) (L' := [(2, .int (0 : Int32)), (1, .int v20), (0, .ref a0)]) C dX9_kind_55 rfl rfl (by decide) rfl ?_
      obtain ⟨j50, ej50, hf⟩ := m_jp_of hf
      have J50 : ∀ (v28 : Int32) (S29 : m_S), j50 v28 S29 = some (rZ9, SZ9) → m_G x Z S29 3 0 0 100 [(0, .ref a0), (1, .int v20), (2, .int v28)] [] := by
        intro v28 S29 hf
        rw [ej50] at hf
        refine r_iload_n (q := 101) C 2 dX9_kind_100 rfl rfl ?_
        refine r_iconst (q := 102) (v := (2 : Int32)) C dX9_kind_101 (by decide) rfl ?_
        obtain ⟨j30, ej30, hf⟩ := m_jp_of hf
        have J30 : ∀ (S31 : m_S), j30 S31 = some (rZ9, SZ9) → m_G x Z S31 3 0 0 110 [(0, .ref a0), (1, .int v20), (2, .int v28)] [] := by
          intro S31 hf
          rw [ej30] at hf
          refine r_aload_n (q := 111) C 0 dX9_kind_110 rfl rfl ?_
          obtain ⟨b32, e33, hf⟩ := m_b1_of hf
          refine gf_X9_13 (q := 114) C dX9_kind_111 g1 e33 rfl ?_
          refine r_iload_n (q := 115) C 1 dX9_kind_114 rfl rfl ?_
          refine r_iconst (q := 116) (v := (1 : Int32)) C dX9_kind_115 (by decide) rfl ?_
          refine r_iadd (q := 117) C dX9_kind_116 rfl ?_
          refine r_iload_n (q := 118) C 2 dX9_kind_117 rfl rfl ?_
          obtain ⟨g34, hf⟩ := m_gd_of hf
          obtain ⟨g35, hf⟩ := m_gd_of hf
          obtain ⟨S36, e37, hf⟩ := m_lt_of hf
          refine r_iast (q := 119) C dX9_kind_118 ⟨g34, g35⟩ rfl ?_
          rw [← e37]
          refine r_aload_n (q := 120) C 0 dX9_kind_119 rfl rfl ?_
          obtain ⟨b38, e39, hf⟩ := m_b1_of hf
          refine gf_X9_13 (q := 123) C dX9_kind_120 g1 e39 rfl ?_
          refine r_iconst (q := 124) (v := (4 : Int32)) C dX9_kind_123 (by decide) rfl ?_
          refine r_dup2 (q := 125) C dX9_kind_124 rfl rfl rfl ?_
          obtain ⟨g40, hf⟩ := m_gd_of hf
          obtain ⟨g41, hf⟩ := m_gd_of hf
          refine r_iald (q := 126) C dX9_kind_125 ⟨g40, g41⟩ rfl ?_
          refine r_iconst (q := 127) (v := (1 : Int32)) C dX9_kind_126 (by decide) rfl ?_
          refine r_iadd (q := 128) C dX9_kind_127 rfl ?_
          obtain ⟨g42, hf⟩ := m_gd_of hf
          obtain ⟨S43, e44, hf⟩ := m_lt_of hf
          refine r_iast (q := 129) C dX9_kind_128 ⟨g40, g42⟩ rfl ?_
          rw [← e44]
          refine r_aload_n (q := 130) C 0 dX9_kind_129 rfl rfl ?_
          obtain ⟨_u, S46, h45, hf⟩ := m_bw_of hf
          refine r_callV (mc := 0) (ms := 0) (q := 133) (st1 := []) C (c_X9_ends hl h45) rfl w_1072 w_1073 w_1342 w_11 w_1074 hd_X9_ends rfl (by decide) g1 rfl rfl rfl ⟨(Nat.le_of_ble_eq_true rfl), (Nat.le_of_ble_eq_true rfl)⟩ (Nat.le_of_ble_eq_true rfl) ⟨(Nat.le_of_ble_eq_true rfl), (Nat.le_of_ble_eq_true rfl)⟩ dX9_kind_130 rfl rfl ?_
          obtain ⟨rfl, rfl⟩ := m_so2 hf
          exact r_vret C F dX9_kind_133
        refine r_icmp_ge (t := 110) (q := 105) C dX9_kind_102 (by decide) rfl (fun c47 => ?_) (fun c47 => ?_)
        · replace hf := m_if1 hf c47
          exact J30 S29 hf
        · replace hf := m_if0 hf c47
          refine r_aload_n (q := 106) C 0 dX9_kind_105 rfl rfl ?_
          refine r_iconst (q := 107) (v := (1 : Int32)) C dX9_kind_106 (by decide) rfl ?_
          obtain ⟨_u, S49, h48, hf⟩ := m_bw_of hf
          refine r_callV (mc := 0) (ms := 0) (q := 110) (st1 := []) C (c_X9_fails hl h48) rfl w_1066 w_1067 w_1340 w_11 w_1068 hd_X9_fails rfl (by decide) g1 rfl rfl rfl ⟨(Nat.le_of_ble_eq_true rfl), (Nat.le_of_ble_eq_true rfl)⟩ (Nat.le_of_ble_eq_true rfl) ⟨(Nat.le_of_ble_eq_true rfl), (Nat.le_of_ble_eq_true rfl)⟩ dX9_kind_107 rfl rfl ?_
          exact J30 S49 hf
      obtain ⟨j52, ej52, hf⟩ := m_jp_of hf
      have J52 : ∀ (S51 : m_S), j52 S51 = some (rZ9, SZ9) → m_G x Z S51 3 0 0 83 [] [] := by
        intro S51 hf
        rw [ej52] at hf
        obtain ⟨rfl, rfl⟩ := m_so2 hf
        exact r_vret C F dX9_kind_83
      have LL58 : ∀ (fu57 : Nat) (v53 : Int32) (S54 : m_S), m_fx (F_X9_kind_56 Z a0 v20 j50 j52) fu57 (v53, S54) = some (rZ9, SZ9) → m_G x Z S54 3 0 0 56 [(0, .ref a0), (1, .int v20), (2, .int v53)] [] := by
        intro fu57
        induction fu57 with
        | zero => intros; rename_i hf; cases hf
        | succ fu57 ih56 =>
          intro v53 S54 hf
          replace hf : F_X9_kind_56 Z a0 v20 j50 j52 (m_fx (F_X9_kind_56 Z a0 v20 j50 j52) fu57) (v53, S54) = some (rZ9, SZ9) := hf
          unfold F_X9_kind_56 at hf
          dsimp only at hf
          refine r_aload_n (q := 57) C 0 dX9_kind_56 rfl rfl ?_
          refine r_ldcS (q := 59) (tx := "point") (t := 6) C (by decide +kernel) dX9_kind_57 rfl ?_
          obtain ⟨v60, h59, hf⟩ := m_b1_of hf
          refine r_callV (mc := 0) (ms := 0) (q := 62) (st1 := [.int v60]) C (c_X9_isWord hl h59) rfl w_1058 w_1059 w_1338 w_11 w_1060 hd_X9_isWord rfl (by decide) g1 rfl rfl rfl ⟨(Nat.le_of_ble_eq_true rfl), (Nat.le_of_ble_eq_true rfl)⟩ (Nat.le_of_ble_eq_true rfl) ⟨(Nat.le_of_ble_eq_true rfl), (Nat.le_of_ble_eq_true rfl)⟩ dX9_kind_59 rfl rfl ?_
          refine r_if_eq (t := 100) (q := 65) C dX9_kind_62 (by decide) rfl (fun c61 => ?_) (fun c61 => ?_)
          · replace hf := m_if1 hf c61
            exact J50 v53 S54 hf
          · replace hf := m_if0 hf c61
            refine r_iload_n (q := 66) C 2 dX9_kind_65 rfl rfl ?_
            refine r_bipush (q := 68) (v := (6 : Int32)) C dX9_kind_66 (by decide) rfl ?_
            obtain ⟨j62, ej62, hf⟩ := m_jp_of hf
            have J62 : ∀ (S63 : m_S), j62 S63 = some (rZ9, SZ9) → m_G x Z S63 3 0 0 76 [(0, .ref a0), (1, .int v20), (2, .int v53)] [] := by
              intro S63 hf
              rw [ej62] at hf
              refine r_aload_n (q := 77) C 0 dX9_kind_76 rfl rfl ?_
              obtain ⟨v65, h64, hf⟩ := m_b1_of hf
              refine r_callV (mc := 0) (ms := 0) (q := 80) (st1 := [.int v65]) C (c_X9_isWrong hl h64) rfl w_1061 w_1062 w_1339 w_11 w_1063 hd_X9_isWrong rfl (by decide) g1 rfl rfl rfl ⟨(Nat.le_of_ble_eq_true rfl), (Nat.le_of_ble_eq_true rfl)⟩ (Nat.le_of_ble_eq_true rfl) ⟨(Nat.le_of_ble_eq_true rfl), (Nat.le_of_ble_eq_true rfl)⟩ dX9_kind_77 rfl rfl ?_
              refine r_if_eq (t := 84) (q := 83) C dX9_kind_80 (by decide) rfl (fun c66 => ?_) (fun c66 => ?_)
              · replace hf := m_if1 hf c66
                refine r_aload_n (q := 85) C 0 dX9_kind_84 rfl rfl ?_
                obtain ⟨_u, S68, h67, hf⟩ := m_bw_of hf
                refine r_callV (mc := 0) (ms := 0) (q := 88) (st1 := []) C (c_X9_token hl h67) rfl w_1038 w_1039 w_1334 w_11 w_1040 hd_X9_token rfl (by decide) g1 rfl rfl rfl ⟨(Nat.le_of_ble_eq_true rfl), (Nat.le_of_ble_eq_true rfl)⟩ (Nat.le_of_ble_eq_true rfl) ⟨(Nat.le_of_ble_eq_true rfl), (Nat.le_of_ble_eq_true rfl)⟩ dX9_kind_85 rfl rfl ?_
                refine r_aload_n (q := 89) C 0 dX9_kind_88 rfl rfl ?_
                refine r_iload_n (q := 90) C 1 dX9_kind_89 rfl rfl ?_
                refine r_iload_n (q := 91) C 2 dX9_kind_90 rfl rfl ?_
                obtain ⟨_u, S70, h69, hf⟩ := m_bw_of hf
                refine r_callV (mc := 0) (ms := 0) (q := 94) (st1 := []) C (c_X9_point hl h69) rfl w_1093 w_1094 w_1349 w_11 w_1095 hd_X9_point rfl (by decide) g1 rfl rfl rfl ⟨(Nat.le_of_ble_eq_true rfl), (Nat.le_of_ble_eq_true rfl)⟩ (Nat.le_of_ble_eq_true rfl) ⟨(Nat.le_of_ble_eq_true rfl), (Nat.le_of_ble_eq_true rfl)⟩ dX9_kind_91 rfl rfl ?_
                obtain ⟨v71, e72, hf⟩ := m_lt_of hf
                refine r_iinc (q := 97) (v := v71) (L' := [(2, .int v71), (0, .ref a0), (1, .int v20)]) C 2 dX9_kind_94 rfl (by rw [e72]; rfl) rfl (by decide) rfl ?_
                refine r_goto (t := 56) C dX9_kind_97 (by decide) ?_
                refine r_sub [1, 2, 0] rfl ?_
                exact ih56 v71 S70 hf
              · replace hf := m_if0 hf c66
                refine r_sub [] rfl ?_
                exact J52 S63 hf
            refine r_icmp_ne (t := 76) (q := 71) C dX9_kind_68 (by decide) rfl (fun c73 => ?_) (fun c73 => ?_)
            · replace hf := m_if1 hf c73
              exact J62 S54 hf
            · replace hf := m_if0 hf (fun z => z c73)
              refine r_aload_n (q := 72) C 0 dX9_kind_71 rfl rfl ?_
              refine r_iconst (q := 73) (v := (4 : Int32)) C dX9_kind_72 (by decide) rfl ?_
              obtain ⟨_u, S75, h74, hf⟩ := m_bw_of hf
              refine r_callV (mc := 0) (ms := 0) (q := 76) (st1 := []) C (c_X9_fails hl h74) rfl w_1066 w_1067 w_1340 w_11 w_1068 hd_X9_fails rfl (by decide) g1 rfl rfl rfl ⟨(Nat.le_of_ble_eq_true rfl), (Nat.le_of_ble_eq_true rfl)⟩ (Nat.le_of_ble_eq_true rfl) ⟨(Nat.le_of_ble_eq_true rfl), (Nat.le_of_ble_eq_true rfl)⟩ dX9_kind_73 rfl rfl ?_
              exact J62 S75 hf
      refine r_sub [2, 1, 0] rfl ?_
      exact LL58 100000 (0 : Int32) S26 hf
    · replace hf := m_if0 hf (fun z => z c15)
      obtain ⟨rfl, rfl⟩ := m_so2 hf
      exact r_vret C F dX9_kind_26
def F_X9_plain_23 (Z : m_Z) (a0 : Nat) (j3 : (m_S → Option (Unit × m_S))) (lp6 : (Int32 × m_S) → Option (Unit × m_S)) (p20 : (Int32 × m_S)) : Option (Unit × m_S) := match p20 with
  | (v4, S5) => (if (340 : Int32) ≤ v4 then j3 S5 else m_gd (m_ok Z a0 9) (m_b1 (S5.2.2 a0 6) (fun b12 => m_gd (m_ok Z b12 11) (m_gd (m_in v4 (Z.2.2 b12)) (m_lt (m_pI S5 b12 v4.toNatClampNeg (0 : Int32)) (fun S16 => m_lt (v4 + (1 : Int32)) (fun v18 => lp6 (v18, S16))))))))
def F_X9_plain_2 (Z : m_Z) (a0 : Nat) (j21 : (m_S → Option (Unit × m_S))) (lp24 : (Int32 × m_S) → Option (Unit × m_S)) (p38 : (Int32 × m_S)) : Option (Unit × m_S) := match p38 with
  | (v22, S23) => (if (116 : Int32) ≤ v22 then j21 S23 else m_gd (m_ok Z a0 9) (m_b1 (S23.2.2 a0 2) (fun b30 => m_gd (m_ok Z b30 11) (m_gd (m_in v22 (Z.2.2 b30)) (m_lt (m_pI S23 b30 v22.toNatClampNeg (0 : Int32)) (fun S34 => m_lt (v22 + (1 : Int32)) (fun v36 => lp24 (v36, S34))))))))
def f_X9_plain (Z : m_Z) (S : m_S) (a0 : Nat) : Option (Unit × m_S) := m_jp (fun (S1 : m_S) => m_jp (fun (S2 : m_S) => some ((), S2)) (fun j3 => m_fx (F_X9_plain_23 Z a0 j3) 100000 ((0 : Int32), S1))) (fun j21 => m_fx (F_X9_plain_2 Z a0 j21) 100000 ((0 : Int32), S))
abbrev rm_X9_plain : Room := { frames := 0, cells := 0, slots := 0, locals := 0 }
theorem hd_X9_plain : yX9_plain.cls = RX9 ∧ yX9_plain.cls ≠ "java/lang/invoke/MethodHandle" ∧ yX9_plain.cls ≠ "java/lang/invoke/VarHandle" ∧ (parseMethodDescriptor yX9_plain.desc).map (fun d => d.parameters.length) = some 0 := by decide +kernel
set_option maxHeartbeats 4000000 in
set_option maxRecDepth 100000 in
theorem c_X9_plain {l : Launch} (hl : l.stackTraces = false) {Z : m_Z} {S : m_S} {a0 : Nat} {rZ9 : Unit} {SZ9 : m_S} (hf : f_X9_plain Z S a0 = some (rZ9, SZ9)) : m_Ct l yX9_plain (.code yX9_plain cX9_plain 2 none :: m_ws) rm_X9_plain (fun f => [.ref a0]) Z S (none) SZ9 := by
  unfold f_X9_plain at hf
  refine m_ent hl (by decide) (fun _ => Nat.le_of_ble_eq_true rfl) (fun x C F => ?_)
  have C : m_H x l RX9 cX9_plain 2 rm_X9_plain := C
  show m_G x Z S 2 0 0 0 [(0, .ref a0)] []
  refine r_iconst (q := 1) (v := (0 : Int32)) C dX9_plain_0 (by decide) rfl ?_
  refine r_istore_n (q := 2) (L' := [(1, .int (0 : Int32)), (0, .ref a0)]) C dX9_plain_1 rfl rfl (by decide) rfl ?_
  obtain ⟨j21, ej21, hf⟩ := m_jp_of hf
  have J21 : ∀ (S1 : m_S), j21 S1 = some (rZ9, SZ9) → m_G x Z S1 2 0 0 21 [(0, .ref a0)] [] := by
    intro S1 hf
    rw [ej21] at hf
    refine r_iconst (q := 22) (v := (0 : Int32)) C dX9_plain_21 (by decide) rfl ?_
    refine r_istore_n (q := 23) (L' := [(1, .int (0 : Int32)), (0, .ref a0)]) C dX9_plain_22 rfl rfl (by decide) rfl ?_
    obtain ⟨j3, ej3, hf⟩ := m_jp_of hf
    have J3 : ∀ (S2 : m_S), j3 S2 = some (rZ9, SZ9) → m_G x Z S2 2 0 0 43 [] [] := by
      intro S2 hf
      rw [ej3] at hf
      obtain ⟨rfl, rfl⟩ := m_so2 hf
      exact r_vret C F dX9_plain_43
    have LL9 : ∀ (fu8 : Nat) (v4 : Int32) (S5 : m_S), m_fx (F_X9_plain_23 Z a0 j3) fu8 (v4, S5) = some (rZ9, SZ9) → m_G x Z S5 2 0 0 23 [(0, .ref a0), (1, .int v4)] [] := by
      intro fu8
      induction fu8 with
      | zero => intros; rename_i hf; cases hf
      | succ fu8 ih7 =>
        intro v4 S5 hf
        replace hf : F_X9_plain_23 Z a0 j3 (m_fx (F_X9_plain_23 Z a0 j3) fu8) (v4, S5) = some (rZ9, SZ9) := hf
        unfold F_X9_plain_23 at hf
        dsimp only at hf
        refine r_iload_n (q := 24) C 1 dX9_plain_23 rfl rfl ?_
        refine r_sipush (q := 27) (v := (340 : Int32)) C dX9_plain_24 (by decide) rfl ?_
        refine r_icmp_ge (t := 43) (q := 30) C dX9_plain_27 (by decide) rfl (fun c10 => ?_) (fun c10 => ?_)
        · replace hf := m_if1 hf c10
          refine r_sub [] rfl ?_
          exact J3 S5 hf
        · replace hf := m_if0 hf c10
          refine r_aload_n (q := 31) C 0 dX9_plain_30 rfl rfl ?_
          obtain ⟨g11, hf⟩ := m_gd_of hf
          obtain ⟨b12, e13, hf⟩ := m_b1_of hf
          refine gf_X9_25 (q := 34) C dX9_plain_31 g11 e13 rfl ?_
          refine r_iload_n (q := 35) C 1 dX9_plain_34 rfl rfl ?_
          refine r_iconst (q := 36) (v := (0 : Int32)) C dX9_plain_35 (by decide) rfl ?_
          obtain ⟨g14, hf⟩ := m_gd_of hf
          obtain ⟨g15, hf⟩ := m_gd_of hf
          obtain ⟨S16, e17, hf⟩ := m_lt_of hf
          refine r_iast (q := 37) C dX9_plain_36 ⟨g14, g15⟩ rfl ?_
          rw [← e17]
          obtain ⟨v18, e19, hf⟩ := m_lt_of hf
          refine r_iinc (q := 40) (v := v18) (L' := [(1, .int v18), (0, .ref a0)]) C 1 dX9_plain_37 rfl (by rw [e19]; rfl) rfl (by decide) rfl ?_
          refine r_goto (t := 23) C dX9_plain_40 (by decide) ?_
          refine r_sub [1, 0] rfl ?_
          exact ih7 v18 S16 hf
    refine r_sub [1, 0] rfl ?_
    exact LL9 100000 (0 : Int32) S1 hf
  have LL27 : ∀ (fu26 : Nat) (v22 : Int32) (S23 : m_S), m_fx (F_X9_plain_2 Z a0 j21) fu26 (v22, S23) = some (rZ9, SZ9) → m_G x Z S23 2 0 0 2 [(0, .ref a0), (1, .int v22)] [] := by
    intro fu26
    induction fu26 with
    | zero => intros; rename_i hf; cases hf
    | succ fu26 ih25 =>
      intro v22 S23 hf
      replace hf : F_X9_plain_2 Z a0 j21 (m_fx (F_X9_plain_2 Z a0 j21) fu26) (v22, S23) = some (rZ9, SZ9) := hf
      unfold F_X9_plain_2 at hf
      dsimp only at hf
      refine r_iload_n (q := 3) C 1 dX9_plain_2 rfl rfl ?_
      refine r_bipush (q := 5) (v := (116 : Int32)) C dX9_plain_3 (by decide) rfl ?_
      refine r_icmp_ge (t := 21) (q := 8) C dX9_plain_5 (by decide) rfl (fun c28 => ?_) (fun c28 => ?_)
      · replace hf := m_if1 hf c28
        refine r_sub [0] rfl ?_
        exact J21 S23 hf
      · replace hf := m_if0 hf c28
        refine r_aload_n (q := 9) C 0 dX9_plain_8 rfl rfl ?_
        obtain ⟨g29, hf⟩ := m_gd_of hf
        obtain ⟨b30, e31, hf⟩ := m_b1_of hf
        refine gf_X9_13 (q := 12) C dX9_plain_9 g29 e31 rfl ?_
        refine r_iload_n (q := 13) C 1 dX9_plain_12 rfl rfl ?_
        refine r_iconst (q := 14) (v := (0 : Int32)) C dX9_plain_13 (by decide) rfl ?_
        obtain ⟨g32, hf⟩ := m_gd_of hf
        obtain ⟨g33, hf⟩ := m_gd_of hf
        obtain ⟨S34, e35, hf⟩ := m_lt_of hf
        refine r_iast (q := 15) C dX9_plain_14 ⟨g32, g33⟩ rfl ?_
        rw [← e35]
        obtain ⟨v36, e37, hf⟩ := m_lt_of hf
        refine r_iinc (q := 18) (v := v36) (L' := [(1, .int v36), (0, .ref a0)]) C 1 dX9_plain_15 rfl (by rw [e37]; rfl) rfl (by decide) rfl ?_
        refine r_goto (t := 2) C dX9_plain_18 (by decide) ?_
        refine r_sub [1, 0] rfl ?_
        exact ih25 v36 S34 hf
  refine r_sub [1, 0] rfl ?_
  exact LL27 100000 (0 : Int32) S hf
def f_X9_takesWord (Z : m_Z) (S : m_S) (a0 : Nat) (p1 : Nat) : Option (Int32 × m_S) := m_gd (m_ok Z a0 9) (m_b1 (f_X9_isWord Z S a0 p1) (fun v3 => (if v3 = 0 then m_gd (v3 = 0 ∨ v3 = 1) (some (v3, S)) else m_bw (f_X9_token Z S a0) (fun _u S7 => m_gd (v3 = 0 ∨ v3 = 1) (some (v3, S7))))))
abbrev rm_X9_takesWord : Room := { frames := 5, cells := 0, slots := 0, locals := 142 }
theorem hd_X9_takesWord : yX9_takesWord.cls = RX9 ∧ yX9_takesWord.cls ≠ "java/lang/invoke/MethodHandle" ∧ yX9_takesWord.cls ≠ "java/lang/invoke/VarHandle" ∧ (parseMethodDescriptor yX9_takesWord.desc).map (fun d => d.parameters.length) = some 1 := by decide +kernel
set_option maxHeartbeats 4000000 in
set_option maxRecDepth 100000 in
theorem c_X9_takesWord {l : Launch} (hl : l.stackTraces = false) {Z : m_Z} {S : m_S} {a0 : Nat} {p1 : Nat} {rZ9 : Int32} {SZ9 : m_S} (hf : f_X9_takesWord Z S a0 p1 = some (rZ9, SZ9)) : m_Ct l yX9_takesWord (.code yX9_takesWord cX9_takesWord 3 (some .boolean) :: m_ws) rm_X9_takesWord (fun f => [.ref a0, .ref (f p1)]) Z S (some (.int rZ9)) SZ9 := by
  unfold f_X9_takesWord at hf
  refine m_ent hl (by decide) (fun _ => Nat.le_of_ble_eq_true rfl) (fun x C F => ?_)
  have C : m_H x l RX9 cX9_takesWord 3 rm_X9_takesWord := C
  show m_G x Z S 3 0 0 0 [(0, .ref a0), (1, .ref (m_K x p1))] []
  refine r_aload_n (q := 1) C 0 dX9_takesWord_0 rfl rfl ?_
  refine r_aload_n (q := 2) C 1 dX9_takesWord_1 rfl rfl ?_
  obtain ⟨g1, hf⟩ := m_gd_of hf
  obtain ⟨v3, h2, hf⟩ := m_b1_of hf
  refine r_callV (mc := 0) (ms := 0) (q := 5) (st1 := [.int v3]) C (c_X9_isWord hl h2) rfl w_1058 w_1059 w_1338 w_11 w_1060 hd_X9_isWord rfl (by decide) g1 rfl rfl rfl ⟨(Nat.le_of_ble_eq_true rfl), (Nat.le_of_ble_eq_true rfl)⟩ (Nat.le_of_ble_eq_true rfl) ⟨(Nat.le_of_ble_eq_true rfl), (Nat.le_of_ble_eq_true rfl)⟩ dX9_takesWord_2 rfl rfl ?_
  refine r_istore_n (q := 6) (L' := [(2, .int v3), (0, .ref a0), (1, .ref (m_K x p1))]) C dX9_takesWord_5 rfl rfl (by decide) rfl ?_
  refine r_iload_n (q := 7) C 0 dX9_takesWord_6 rfl rfl ?_
  refine r_if_eq (t := 14) (q := 10) C dX9_takesWord_7 (by decide) rfl (fun c4 => ?_) (fun c4 => ?_)
  · replace hf := m_if1 hf c4
    refine r_iload_n (q := 15) C 0 dX9_takesWord_14 rfl rfl ?_
    obtain ⟨g5, hf⟩ := m_gd_of hf
    obtain ⟨rfl, rfl⟩ := m_so2 hf
    exact r_zret C F (m_zn g5) dX9_takesWord_15
  · replace hf := m_if0 hf c4
    refine r_aload_n (q := 11) C 1 dX9_takesWord_10 rfl rfl ?_
    obtain ⟨_u, S7, h6, hf⟩ := m_bw_of hf
    refine r_callV (mc := 0) (ms := 0) (q := 14) (st1 := []) C (c_X9_token hl h6) rfl w_1038 w_1039 w_1334 w_11 w_1040 hd_X9_token rfl (by decide) g1 rfl rfl rfl ⟨(Nat.le_of_ble_eq_true rfl), (Nat.le_of_ble_eq_true rfl)⟩ (Nat.le_of_ble_eq_true rfl) ⟨(Nat.le_of_ble_eq_true rfl), (Nat.le_of_ble_eq_true rfl)⟩ dX9_takesWord_11 rfl rfl ?_
    refine r_iload_n (q := 15) C 0 dX9_takesWord_14 rfl rfl ?_
    obtain ⟨g8, hf⟩ := m_gd_of hf
    obtain ⟨rfl, rfl⟩ := m_so2 hf
    exact r_zret C F (m_zn g8) dX9_takesWord_15
def f_X9_season (Z : m_Z) (S : m_S) (a0 : Nat) : Option (Unit × m_S) := m_gd (m_ok Z a0 9) (m_bw (f_X9_begins Z S a0 (2 : Int32) (12 : Int32)) (fun v4 S3 => (if ¬ v4 = 0 then m_b1 (S3.2.2 a0 2) (fun b6 => m_gd (m_ok Z b6 11) (m_gd (m_in (2 : Int32) (Z.2.2 b6)) (m_lt ((6 : Int32) + ((2 : Int32) * (S3.1 b6 (2 : Int32).toNatClampNeg))) (fun v10 => m_gd (m_in (2 : Int32) (Z.2.2 b6)) (m_jp (fun (v14 : Int32) => m_bw (f_X9_figure Z S3 a0 v14 (364 : Int32)) (fun v17 S16 => m_gd (m_in v10 (Z.2.2 b6)) (m_lt (m_pI S16 b6 v10.toNatClampNeg v17) (fun S19 => m_b1 (S19.2.2 a0 2) (fun b21 => m_bw (f_X9_figure Z S19 a0 (0 : Int32) (1000 : Int32)) (fun v25 S24 => m_gd (m_ok Z b21 11) (m_gd (m_in (v10 + (1 : Int32)) (Z.2.2 b21)) (m_lt (m_pI S24 b21 (v10 + (1 : Int32)).toNatClampNeg v25) (fun S28 => m_b1 (S28.2.2 a0 2) (fun b30 => m_gd (m_ok Z b30 11) (m_gd (m_in (2 : Int32) (Z.2.2 b30)) (m_gd (m_in (2 : Int32) (Z.2.2 b30)) (m_lt (m_pI S28 b30 (2 : Int32).toNatClampNeg ((S28.1 b30 (2 : Int32).toNatClampNeg) + (1 : Int32))) (fun S35 => m_bw (f_X9_ends Z S35 a0) (fun _u S38 => some ((), S38)))))))))))))))) (fun j13 => (if ¬ (S3.1 b6 (2 : Int32).toNatClampNeg) = 0 then m_lt (v10 - (2 : Int32)) (fun v40 => m_gd (m_in v40 (Z.2.2 b6)) (j13 ((S3.1 b6 v40.toNatClampNeg) + (1 : Int32)))) else j13 (0 : Int32)))))))) else some ((), S3))))
abbrev rm_X9_season : Room := { frames := 3, cells := 0, slots := 0, locals := 65 }
theorem hd_X9_season : yX9_season.cls = RX9 ∧ yX9_season.cls ≠ "java/lang/invoke/MethodHandle" ∧ yX9_season.cls ≠ "java/lang/invoke/VarHandle" ∧ (parseMethodDescriptor yX9_season.desc).map (fun d => d.parameters.length) = some 0 := by decide +kernel
set_option maxHeartbeats 4000000 in
set_option maxRecDepth 100000 in
theorem c_X9_season {l : Launch} (hl : l.stackTraces = false) {Z : m_Z} {S : m_S} {a0 : Nat} {rZ9 : Unit} {SZ9 : m_S} (hf : f_X9_season Z S a0 = some (rZ9, SZ9)) : m_Ct l yX9_season (.code yX9_season cX9_season 2 none :: m_ws) rm_X9_season (fun f => [.ref a0]) Z S (none) SZ9 := by
  unfold f_X9_season at hf
  refine m_ent hl (by decide) (fun _ => Nat.le_of_ble_eq_true rfl) (fun x C F => ?_)
  have C : m_H x l RX9 cX9_season 2 rm_X9_season := C
  show m_G x Z S 2 0 0 0 [(0, .ref a0)] []
  refine r_aload_n (q := 1) C 0 dX9_season_0 rfl rfl ?_
  refine r_iconst (q := 2) (v := (2 : Int32)) C dX9_season_1 (by decide) rfl ?_
  refine r_bipush (q := 4) (v := (12 : Int32)) C dX9_season_2 (by decide) rfl ?_
  obtain ⟨g1, hf⟩ := m_gd_of hf
  obtain ⟨v4, S3, h2, hf⟩ := m_bw_of hf
  refine r_callV (mc := 0) (ms := 0) (q := 7) (st1 := [.int v4]) C (c_X9_begins hl h2) rfl w_1078 w_1079 w_1344 w_11 w_1080 hd_X9_begins rfl (by decide) g1 rfl rfl rfl ⟨(Nat.le_of_ble_eq_true rfl), (Nat.le_of_ble_eq_true rfl)⟩ (Nat.le_of_ble_eq_true rfl) ⟨(Nat.le_of_ble_eq_true rfl), (Nat.le_of_ble_eq_true rfl)⟩ dX9_season_4 rfl rfl ?_
  refine r_if_ne (t := 11) (q := 10) C dX9_season_7 (by decide) rfl (fun c5 => ?_) (fun c5 => ?_)
  · replace hf := m_if1 hf c5
    refine r_bipush (q := 13) (v := (6 : Int32)) C dX9_season_11 (by decide) rfl ?_
    refine r_iconst (q := 14) (v := (2 : Int32)) C dX9_season_13 (by decide) rfl ?_
    refine r_aload_n (q := 15) C 0 dX9_season_14 rfl rfl ?_
    obtain ⟨b6, e7, hf⟩ := m_b1_of hf
    refine gf_X9_13 (q := 18) C dX9_season_15 g1 e7 rfl ?_
    refine r_iconst (q := 19) (v := (2 : Int32)) C dX9_season_18 (by decide) rfl ?_
    obtain ⟨g8, hf⟩ := m_gd_of hf
    obtain ⟨g9, hf⟩ := m_gd_of hf
    refine r_iald (q := 20) C dX9_season_19 ⟨g8, g9⟩ rfl ?_
    refine r_imul (q := 21) C dX9_season_20 rfl ?_
    refine r_iadd (q := 22) C dX9_season_21 rfl ?_
    obtain ⟨v10, e11, hf⟩ := m_lt_of hf
    refine r_nm e11 ?_
    refine r_istore_n (q := 23) (L' := [(1, .int v10), (0, .ref a0)]) C dX9_season_22 rfl rfl (by decide) rfl ?_
    refine r_aload_n (q := 24) C 1 dX9_season_23 rfl rfl ?_
    refine gf_X9_13 (q := 27) C dX9_season_24 g1 e7 rfl ?_
    refine r_iload_n (q := 28) C 0 dX9_season_27 rfl rfl ?_
    refine r_aload_n (q := 29) C 1 dX9_season_28 rfl rfl ?_
    refine r_aload_n (q := 30) C 1 dX9_season_29 rfl rfl ?_
    refine gf_X9_13 (q := 33) C dX9_season_30 g1 e7 rfl ?_
    refine r_iconst (q := 34) (v := (2 : Int32)) C dX9_season_33 (by decide) rfl ?_
    obtain ⟨g12, hf⟩ := m_gd_of hf
    refine r_iald (q := 35) C dX9_season_34 ⟨g8, g12⟩ rfl ?_
    obtain ⟨j13, ej13, hf⟩ := m_jp_of hf
    have J13 : ∀ (v14 : Int32), j13 v14 = some (rZ9, SZ9) → m_G x Z S3 2 0 0 52 [(0, .ref a0), (1, .int v10)] [.int v14, .ref a0, .int v10, .ref b6] := by
      intro v14 hf
      rw [ej13] at hf
      refine r_sipush (q := 55) (v := (364 : Int32)) C dX9_season_52 (by decide) rfl ?_
      obtain ⟨v17, S16, h15, hf⟩ := m_bw_of hf
      refine r_callV (mc := 0) (ms := 0) (q := 58) (st1 := [.int v17, .int v10, .ref b6]) C (c_X9_figure hl h15) rfl w_1069 w_1070 w_1341 w_11 w_1071 hd_X9_figure rfl (by decide) g1 rfl rfl rfl ⟨(Nat.le_of_ble_eq_true rfl), (Nat.le_of_ble_eq_true rfl)⟩ (Nat.le_of_ble_eq_true rfl) ⟨(Nat.le_of_ble_eq_true rfl), (Nat.le_of_ble_eq_true rfl)⟩ dX9_season_55 rfl rfl ?_
      obtain ⟨g18, hf⟩ := m_gd_of hf
      obtain ⟨S19, e20, hf⟩ := m_lt_of hf
      refine r_iast (q := 59) C dX9_season_58 ⟨g8, g18⟩ rfl ?_
      rw [← e20]
      refine r_aload_n (q := 60) C 0 dX9_season_59 rfl rfl ?_
      obtain ⟨b21, e22, hf⟩ := m_b1_of hf
      refine gf_X9_13 (q := 63) C dX9_season_60 g1 e22 rfl ?_
      refine r_iload_n (q := 64) C 1 dX9_season_63 rfl rfl ?_
      refine r_iconst (q := 65) (v := (1 : Int32)) C dX9_season_64 (by decide) rfl ?_
      refine r_iadd (q := 66) C dX9_season_65 rfl ?_
      refine r_aload_n (q := 67) C 0 dX9_season_66 rfl rfl ?_
      refine r_iconst (q := 68) (v := (0 : Int32)) C dX9_season_67 (by decide) rfl ?_
      refine r_sipush (q := 71) (v := (1000 : Int32)) C dX9_season_68 (by decide) rfl ?_
      obtain ⟨v25, S24, h23, hf⟩ := m_bw_of hf
      refine r_callV (mc := 0) (ms := 0) (q := 74) (st1 := [.int v25, .int (v10 + (1 : Int32)), .ref b21]) C (c_X9_figure hl h23) rfl w_1069 w_1070 w_1341 w_11 w_1071 hd_X9_figure rfl (by decide) g1 rfl rfl rfl ⟨(Nat.le_of_ble_eq_true rfl), (Nat.le_of_ble_eq_true rfl)⟩ (Nat.le_of_ble_eq_true rfl) ⟨(Nat.le_of_ble_eq_true rfl), (Nat.le_of_ble_eq_true rfl)⟩ dX9_season_71 rfl rfl ?_
      obtain ⟨g26, hf⟩ := m_gd_of hf
      obtain ⟨g27, hf⟩ := m_gd_of hf
      obtain ⟨S28, e29, hf⟩ := m_lt_of hf
      refine r_iast (q := 75) C dX9_season_74 ⟨g26, g27⟩ rfl ?_
      rw [← e29]
      refine r_aload_n (q := 76) C 0 dX9_season_75 rfl rfl ?_
      obtain ⟨b30, e31, hf⟩ := m_b1_of hf
      refine gf_X9_13 (q := 79) C dX9_season_76 g1 e31 rfl ?_
      refine r_iconst (q := 80) (v := (2 : Int32)) C dX9_season_79 (by decide) rfl ?_
      refine r_dup2 (q := 81) C dX9_season_80 rfl rfl rfl ?_
      obtain ⟨g32, hf⟩ := m_gd_of hf
      obtain ⟨g33, hf⟩ := m_gd_of hf
      refine r_iald (q := 82) C dX9_season_81 ⟨g32, g33⟩ rfl ?_
      refine r_iconst (q := 83) (v := (1 : Int32)) C dX9_season_82 (by decide) rfl ?_
      refine r_iadd (q := 84) C dX9_season_83 rfl ?_
      obtain ⟨g34, hf⟩ := m_gd_of hf
      obtain ⟨S35, e36, hf⟩ := m_lt_of hf
      refine r_iast (q := 85) C dX9_season_84 ⟨g32, g34⟩ rfl ?_
      rw [← e36]
      refine r_aload_n (q := 86) C 0 dX9_season_85 rfl rfl ?_
      obtain ⟨_u, S38, h37, hf⟩ := m_bw_of hf
      refine r_callV (mc := 0) (ms := 0) (q := 89) (st1 := []) C (c_X9_ends hl h37) rfl w_1072 w_1073 w_1342 w_11 w_1074 hd_X9_ends rfl (by decide) g1 rfl rfl rfl ⟨(Nat.le_of_ble_eq_true rfl), (Nat.le_of_ble_eq_true rfl)⟩ (Nat.le_of_ble_eq_true rfl) ⟨(Nat.le_of_ble_eq_true rfl), (Nat.le_of_ble_eq_true rfl)⟩ dX9_season_86 rfl rfl ?_
      obtain ⟨rfl, rfl⟩ := m_so2 hf
      exact r_vret C F dX9_season_89
    refine r_if_ne (t := 42) (q := 38) C dX9_season_35 (by decide) rfl (fun c39 => ?_) (fun c39 => ?_)
    · replace hf := m_if1 hf c39
      refine r_aload_n (q := 43) C 1 dX9_season_42 rfl rfl ?_
      refine gf_X9_13 (q := 46) C dX9_season_43 g1 e7 rfl ?_
      refine r_iload_n (q := 47) C 0 dX9_season_46 rfl rfl ?_
      refine r_iconst (q := 48) (v := (2 : Int32)) C dX9_season_47 (by decide) rfl ?_
      refine r_isub (q := 49) C dX9_season_48 rfl ?_
      obtain ⟨v40, e41, hf⟩ := m_lt_of hf
      refine r_nm e41 ?_
      obtain ⟨g42, hf⟩ := m_gd_of hf
      refine r_iald (q := 50) C dX9_season_49 ⟨g8, g42⟩ rfl ?_
      refine r_iconst (q := 51) (v := (1 : Int32)) C dX9_season_50 (by decide) rfl ?_
      refine r_iadd (q := 52) C dX9_season_51 rfl ?_
      refine r_sub [1, 0] rfl ?_
      exact J13 ((S3.1 b6 v40.toNatClampNeg) + (1 : Int32)) hf
    · replace hf := m_if0 hf (fun z => z c39)
      refine r_iconst (q := 39) (v := (0 : Int32)) C dX9_season_38 (by decide) rfl ?_
      refine r_goto (t := 52) C dX9_season_39 (by decide) ?_
      refine r_sub [1, 0] rfl ?_
      exact J13 (0 : Int32) hf
  · replace hf := m_if0 hf (fun z => z c5)
    obtain ⟨rfl, rfl⟩ := m_so2 hf
    exact r_vret C F dX9_season_10
def F_X9_visitors_39 (Z : m_Z) (a0 : Nat) (v11 : Int32) (v14 : Int32) (j25 : (m_S → Option (Unit × m_S))) (lp28 : (Int32 × m_S) → Option (Unit × m_S)) (p47 : (Int32 × m_S)) : Option (Unit × m_S) := match p47 with
  | (v26, S27) => (if v11 < v26 then j25 S27 else m_b1 (f_X9_isWrong Z S27 a0) (fun v34 => (if ¬ v34 = 0 then j25 S27 else m_b1 (S27.2.2 a0 2) (fun b36 => m_lt ((30 : Int32) + v26) (fun v38 => m_gd (m_ok Z b36 11) (m_gd (m_in v38 (Z.2.2 b36)) (m_gd (m_in v38 (Z.2.2 b36)) (m_lt (m_pI S27 b36 v38.toNatClampNeg ((S27.1 b36 v38.toNatClampNeg) + v14)) (fun S43 => m_lt (v26 + (1 : Int32)) (fun v45 => lp28 (v45, S43)))))))))))
def f_X9_visitors (Z : m_Z) (S : m_S) (a0 : Nat) : Option (Unit × m_S) := m_gd (m_ok Z a0 9) (m_bw (f_X9_begins Z S a0 (3 : Int32) (6 : Int32)) (fun v4 S3 => (if ¬ v4 = 0 then m_bw (f_X9_figure Z S3 a0 (0 : Int32) (23 : Int32)) (fun v8 S7 => m_bw (f_X9_figure Z S7 a0 v8 (23 : Int32)) (fun v11 S10 => m_bw (f_X9_figure Z S10 a0 (0 : Int32) (999 : Int32)) (fun v14 S13 => m_jp (fun (S15 : m_S) => m_b1 (S15.2.2 a0 2) (fun b16 => m_gd (m_ok Z b16 11) (m_gd (m_in (3 : Int32) (Z.2.2 b16)) (m_gd (m_in (3 : Int32) (Z.2.2 b16)) (m_lt (m_pI S15 b16 (3 : Int32).toNatClampNeg ((S15.1 b16 (3 : Int32).toNatClampNeg) + (1 : Int32))) (fun S21 => m_bw (f_X9_ends Z S21 a0) (fun _u S24 => some ((), S24)))))))) (fun j25 => m_fx (F_X9_visitors_39 Z a0 v11 v14 j25) 100000 (v8, S13))))) else some ((), S3))))
abbrev rm_X9_visitors : Room := { frames := 3, cells := 0, slots := 0, locals := 65 }
theorem hd_X9_visitors : yX9_visitors.cls = RX9 ∧ yX9_visitors.cls ≠ "java/lang/invoke/MethodHandle" ∧ yX9_visitors.cls ≠ "java/lang/invoke/VarHandle" ∧ (parseMethodDescriptor yX9_visitors.desc).map (fun d => d.parameters.length) = some 0 := by decide +kernel
set_option maxHeartbeats 4000000 in
set_option maxRecDepth 100000 in
theorem c_X9_visitors {l : Launch} (hl : l.stackTraces = false) {Z : m_Z} {S : m_S} {a0 : Nat} {rZ9 : Unit} {SZ9 : m_S} (hf : f_X9_visitors Z S a0 = some (rZ9, SZ9)) : m_Ct l yX9_visitors (.code yX9_visitors cX9_visitors 5 none :: m_ws) rm_X9_visitors (fun f => [.ref a0]) Z S (none) SZ9 := by
  unfold f_X9_visitors at hf
  refine m_ent hl (by decide) (fun _ => Nat.le_of_ble_eq_true rfl) (fun x C F => ?_)
  have C : m_H x l RX9 cX9_visitors 5 rm_X9_visitors := C
  show m_G x Z S 5 0 0 0 [(0, .ref a0)] []
  refine r_aload_n (q := 1) C 0 dX9_visitors_0 rfl rfl ?_
  refine r_iconst (q := 2) (v := (3 : Int32)) C dX9_visitors_1 (by decide) rfl ?_
  refine r_bipush (q := 4) (v := (6 : Int32)) C dX9_visitors_2 (by decide) rfl ?_
  obtain ⟨g1, hf⟩ := m_gd_of hf
  obtain ⟨v4, S3, h2, hf⟩ := m_bw_of hf
  refine r_callV (mc := 0) (ms := 0) (q := 7) (st1 := [.int v4]) C (c_X9_begins hl h2) rfl w_1078 w_1079 w_1344 w_11 w_1080 hd_X9_begins rfl (by decide) g1 rfl rfl rfl ⟨(Nat.le_of_ble_eq_true rfl), (Nat.le_of_ble_eq_true rfl)⟩ (Nat.le_of_ble_eq_true rfl) ⟨(Nat.le_of_ble_eq_true rfl), (Nat.le_of_ble_eq_true rfl)⟩ dX9_visitors_4 rfl rfl ?_
  refine r_if_ne (t := 11) (q := 10) C dX9_visitors_7 (by decide) rfl (fun c5 => ?_) (fun c5 => ?_)
  · replace hf := m_if1 hf c5
    refine r_aload_n (q := 12) C 0 dX9_visitors_11 rfl rfl ?_
    refine r_iconst (q := 13) (v := (0 : Int32)) C dX9_visitors_12 (by decide) rfl ?_
    refine r_bipush (q := 15) (v := (23 : Int32)) C dX9_visitors_13 (by decide) rfl ?_
    obtain ⟨v8, S7, h6, hf⟩ := m_bw_of hf
    refine r_callV (mc := 0) (ms := 0) (q := 18) (st1 := [.int v8]) C (c_X9_figure hl h6) rfl w_1069 w_1070 w_1341 w_11 w_1071 hd_X9_figure rfl (by decide) g1 rfl rfl rfl ⟨(Nat.le_of_ble_eq_true rfl), (Nat.le_of_ble_eq_true rfl)⟩ (Nat.le_of_ble_eq_true rfl) ⟨(Nat.le_of_ble_eq_true rfl), (Nat.le_of_ble_eq_true rfl)⟩ dX9_visitors_15 rfl rfl ?_
    refine r_istore_n (q := 19) (L' := [(1, .int v8), (0, .ref a0)]) C dX9_visitors_18 rfl rfl (by decide) rfl ?_
    refine r_aload_n (q := 20) C 1 dX9_visitors_19 rfl rfl ?_
    refine r_iload_n (q := 21) C 0 dX9_visitors_20 rfl rfl ?_
    refine r_bipush (q := 23) (v := (23 : Int32)) C dX9_visitors_21 (by decide) rfl ?_
    obtain ⟨v11, S10, h9, hf⟩ := m_bw_of hf
    refine r_callV (mc := 0) (ms := 0) (q := 26) (st1 := [.int v11]) C (c_X9_figure hl h9) rfl w_1069 w_1070 w_1341 w_11 w_1071 hd_X9_figure rfl (by decide) g1 rfl rfl rfl ⟨(Nat.le_of_ble_eq_true rfl), (Nat.le_of_ble_eq_true rfl)⟩ (Nat.le_of_ble_eq_true rfl) ⟨(Nat.le_of_ble_eq_true rfl), (Nat.le_of_ble_eq_true rfl)⟩ dX9_visitors_23 rfl rfl ?_
    refine r_istore_n (q := 27) (L' := [(2, .int v11), (1, .int v8), (0, .ref a0)]) C dX9_visitors_26 rfl rfl (by decide) rfl ?_
    refine r_aload_n (q := 28) C 2 dX9_visitors_27 rfl rfl ?_
    refine r_iconst (q := 29) (v := (0 : Int32)) C dX9_visitors_28 (by decide) rfl ?_
    refine r_sipush (q := 32) (v := (999 : Int32)) C dX9_visitors_29 (by decide) rfl ?_
    obtain ⟨v14, S13, h12, hf⟩ := m_bw_of hf
    refine r_callV (mc := 0) (ms := 0) (q := 35) (st1 := [.int v14]) C (c_X9_figure hl h12) rfl w_1069 w_1070 w_1341 w_11 w_1071 hd_X9_figure rfl (by decide) g1 rfl rfl rfl ⟨(Nat.le_of_ble_eq_true rfl), (Nat.le_of_ble_eq_true rfl)⟩ (Nat.le_of_ble_eq_true rfl) ⟨(Nat.le_of_ble_eq_true rfl), (Nat.le_of_ble_eq_true rfl)⟩ dX9_visitors_32 rfl rfl ?_
    refine r_istore_n (q := 36) (L' := [(3, .int v14), (2, .int v11), (1, .int v8), (0, .ref a0)]) C dX9_visitors_35 rfl rfl (by decide) rfl ?_
    refine r_iload_n (q := 37) C 2 dX9_visitors_36 rfl rfl ?_
    refine r_istore (q := 39) (L' := [(4, .int v8), (3, .int v14), (2, .int v11), (1, .int v8), (0, .ref a0)]) C dX9_visitors_37 rfl (by decide) rfl ?_
    obtain ⟨j25, ej25, hf⟩ := m_jp_of hf
    have J25 : ∀ (S15 : m_S), j25 S15 = some (rZ9, SZ9) → m_G x Z S15 5 0 0 72 [(0, .ref a0)] [] := by
      intro S15 hf
      rw [ej25] at hf
      refine r_aload_n (q := 73) C 0 dX9_visitors_72 rfl rfl ?_
      obtain ⟨b16, e17, hf⟩ := m_b1_of hf
      refine gf_X9_13 (q := 76) C dX9_visitors_73 g1 e17 rfl ?_
      refine r_iconst (q := 77) (v := (3 : Int32)) C dX9_visitors_76 (by decide) rfl ?_
      refine r_dup2 (q := 78) C dX9_visitors_77 rfl rfl rfl ?_
      obtain ⟨g18, hf⟩ := m_gd_of hf
      obtain ⟨g19, hf⟩ := m_gd_of hf
      refine r_iald (q := 79) C dX9_visitors_78 ⟨g18, g19⟩ rfl ?_
      refine r_iconst (q := 80) (v := (1 : Int32)) C dX9_visitors_79 (by decide) rfl ?_
      refine r_iadd (q := 81) C dX9_visitors_80 rfl ?_
      obtain ⟨g20, hf⟩ := m_gd_of hf
      obtain ⟨S21, e22, hf⟩ := m_lt_of hf
      refine r_iast (q := 82) C dX9_visitors_81 ⟨g18, g20⟩ rfl ?_
      rw [← e22]
      refine r_aload_n (q := 83) C 0 dX9_visitors_82 rfl rfl ?_
      obtain ⟨_u, S24, h23, hf⟩ := m_bw_of hf
      refine r_callV (mc := 0) (ms := 0) (q := 86) (st1 := []) C (c_X9_ends hl h23) rfl w_1072 w_1073 w_1342 w_11 w_1074 hd_X9_ends rfl (by decide) g1 rfl rfl rfl ⟨(Nat.le_of_ble_eq_true rfl), (Nat.le_of_ble_eq_true rfl)⟩ (Nat.le_of_ble_eq_true rfl) ⟨(Nat.le_of_ble_eq_true rfl), (Nat.le_of_ble_eq_true rfl)⟩ dX9_visitors_83 rfl rfl ?_
      obtain ⟨rfl, rfl⟩ := m_so2 hf
      exact r_vret C F dX9_visitors_86
    have LL31 : ∀ (fu30 : Nat) (v26 : Int32) (S27 : m_S), m_fx (F_X9_visitors_39 Z a0 v11 v14 j25) fu30 (v26, S27) = some (rZ9, SZ9) → m_G x Z S27 5 0 0 39 [(0, .ref a0), (2, .int v11), (3, .int v14), (4, .int v26)] [] := by
      intro fu30
      induction fu30 with
      | zero => intros; rename_i hf; cases hf
      | succ fu30 ih29 =>
        intro v26 S27 hf
        replace hf : F_X9_visitors_39 Z a0 v11 v14 j25 (m_fx (F_X9_visitors_39 Z a0 v11 v14 j25) fu30) (v26, S27) = some (rZ9, SZ9) := hf
        unfold F_X9_visitors_39 at hf
        dsimp only at hf
        refine r_iload (q := 41) C 3 dX9_visitors_39 rfl rfl ?_
        refine r_iload_n (q := 42) C 1 dX9_visitors_41 rfl rfl ?_
        refine r_icmp_gt (t := 72) (q := 45) C dX9_visitors_42 (by decide) rfl (fun c32 => ?_) (fun c32 => ?_)
        · replace hf := m_if1 hf c32
          refine r_sub [0] rfl ?_
          exact J25 S27 hf
        · replace hf := m_if0 hf c32
          refine r_aload_n (q := 46) C 0 dX9_visitors_45 rfl rfl ?_
          obtain ⟨v34, h33, hf⟩ := m_b1_of hf
          refine r_callV (mc := 0) (ms := 0) (q := 49) (st1 := [.int v34]) C (c_X9_isWrong hl h33) rfl w_1061 w_1062 w_1339 w_11 w_1063 hd_X9_isWrong rfl (by decide) g1 rfl rfl rfl ⟨(Nat.le_of_ble_eq_true rfl), (Nat.le_of_ble_eq_true rfl)⟩ (Nat.le_of_ble_eq_true rfl) ⟨(Nat.le_of_ble_eq_true rfl), (Nat.le_of_ble_eq_true rfl)⟩ dX9_visitors_46 rfl rfl ?_
          refine r_if_ne (t := 72) (q := 52) C dX9_visitors_49 (by decide) rfl (fun c35 => ?_) (fun c35 => ?_)
          · replace hf := m_if1 hf c35
            refine r_sub [0] rfl ?_
            exact J25 S27 hf
          · replace hf := m_if0 hf (fun z => z c35)
            refine r_aload_n (q := 53) C 0 dX9_visitors_52 rfl rfl ?_
            obtain ⟨b36, e37, hf⟩ := m_b1_of hf
            refine gf_X9_13 (q := 56) C dX9_visitors_53 g1 e37 rfl ?_
            refine r_bipush (q := 58) (v := (30 : Int32)) C dX9_visitors_56 (by decide) rfl ?_
            refine r_iload (q := 60) C 3 dX9_visitors_58 rfl rfl ?_
            refine r_iadd (q := 61) C dX9_visitors_60 rfl ?_
            obtain ⟨v38, e39, hf⟩ := m_lt_of hf
            refine r_nm e39 ?_
            refine r_dup2 (q := 62) C dX9_visitors_61 rfl rfl rfl ?_
            obtain ⟨g40, hf⟩ := m_gd_of hf
            obtain ⟨g41, hf⟩ := m_gd_of hf
            refine r_iald (q := 63) C dX9_visitors_62 ⟨g40, g41⟩ rfl ?_
            refine r_iload_n (q := 64) C 2 dX9_visitors_63 rfl rfl ?_
            refine r_iadd (q := 65) C dX9_visitors_64 rfl ?_
            obtain ⟨g42, hf⟩ := m_gd_of hf
            obtain ⟨S43, e44, hf⟩ := m_lt_of hf
            refine r_iast (q := 66) C dX9_visitors_65 ⟨g40, g42⟩ rfl ?_
            rw [← e44]
            obtain ⟨v45, e46, hf⟩ := m_lt_of hf
            refine r_iinc (q := 69) (v := v45) (L' := [(4, .int v45), (0, .ref a0), (2, .int v11), (3, .int v14)]) C 3 dX9_visitors_66 rfl (by rw [e46]; rfl) rfl (by decide) rfl ?_
            refine r_goto (t := 39) C dX9_visitors_69 (by decide) ?_
            refine r_sub [1, 2, 3, 0] rfl ?_
            exact ih29 v45 S43 hf
    refine r_sub [4, 2, 1, 0] rfl ?_
    exact LL31 100000 v8 S13 hf
  · replace hf := m_if0 hf (fun z => z c5)
    obtain ⟨rfl, rfl⟩ := m_so2 hf
    exact r_vret C F dX9_visitors_10
def f_X9_oneCase (Z : m_Z) (S : m_S) (a0 : Nat) : Option (Unit × m_S) := m_gd (m_ok Z a0 9) (m_bw (f_X9_begins Z S a0 (5 : Int32) (6 : Int32)) (fun v4 S3 => (if v4 = 0 then some ((), S3) else m_b1 (S3.2.2 a0 22) (fun b6 => m_b1 (S3.2.2 a0 2) (fun b8 => m_gd (m_ok Z b8 11) (m_gd (m_in (5 : Int32) (Z.2.2 b8)) (m_bw (f_X9_newName Z S3 a0 b6 (S3.1 b8 (5 : Int32).toNatClampNeg)) (fun v14 S13 => (if ¬ v14 = 0 then m_b1 (S13.2.2 a0 2) (fun b16 => m_gd (m_ok Z b16 11) (m_gd (m_in (5 : Int32) (Z.2.2 b16)) (m_lt ((4 : Int32) + ((56 : Int32) * (S13.1 b16 (5 : Int32).toNatClampNeg))) (fun v20 => m_bw (f_X9_figure Z S13 a0 (100 : Int32) (9999 : Int32)) (fun v24 S23 => m_gd (m_in ((110 : Int32) + (S13.1 b16 (5 : Int32).toNatClampNeg)) (Z.2.2 b16)) (m_lt (m_pI S23 b16 ((110 : Int32) + (S13.1 b16 (5 : Int32).toNatClampNeg)).toNatClampNeg v24) (fun S26 => m_b1 (S26.2.2 a0 6) (fun b28 => m_bw (f_X9_figure Z S26 a0 (0 : Int32) (1000 : Int32)) (fun v32 S31 => m_gd (m_ok Z b28 11) (m_gd (m_in (v20 + (0 : Int32)) (Z.2.2 b28)) (m_lt (m_pI S31 b28 (v20 + (0 : Int32)).toNatClampNeg v32) (fun S35 => m_b1 (S35.2.2 a0 6) (fun b37 => m_b1 (S35.2.2 a0 2) (fun b39 => m_gd (m_ok Z b39 11) (m_lt ((110 : Int32) + (S13.1 b16 (5 : Int32).toNatClampNeg)) (fun v42 => m_gd (m_in v42 (Z.2.2 b39)) (m_bw (f_X9_figure Z S35 a0 (0 : Int32) (1000 : Int32)) (fun v47 S46 => m_gd (m_ok Z b37 11) (m_gd (m_in (v20 + (3 : Int32)) (Z.2.2 b37)) (m_lt (m_pI S46 b37 (v20 + (3 : Int32)).toNatClampNeg (((S35.1 b39 v42.toNatClampNeg) * v47) / (1000 : Int32))) (fun S50 => m_b1 (S50.2.2 a0 6) (fun b52 => m_gd (m_ok Z b52 11) (m_gd (m_in (v20 + (2 : Int32)) (Z.2.2 b52)) (m_lt (m_pI S50 b52 (v20 + (2 : Int32)).toNatClampNeg (1000 : Int32)) (fun S56 => m_bw (f_X9_takesWord Z S56 a0 7) (fun v60 S59 => m_jp (fun (S62 : m_S) => m_b1 (S62.2.2 a0 2) (fun b63 => m_gd (m_ok Z b63 11) (m_gd (m_in (5 : Int32) (Z.2.2 b63)) (m_gd (m_in (5 : Int32) (Z.2.2 b63)) (m_lt (m_pI S62 b63 (5 : Int32).toNatClampNeg ((S62.1 b63 (5 : Int32).toNatClampNeg) + (1 : Int32))) (fun S68 => m_bw (f_X9_ends Z S68 a0) (fun _u S71 => some ((), S71)))))))) (fun j61 => (if v60 = 0 then j61 S59 else m_b1 (S59.2.2 a0 6) (fun b73 => m_bw (f_X9_figure Z S59 a0 (0 : Int32) (1000 : Int32)) (fun v77 S76 => m_gd (m_ok Z b73 11) (m_gd (m_in (v20 + (1 : Int32)) (Z.2.2 b73)) (m_lt (m_pI S76 b73 (v20 + (1 : Int32)).toNatClampNeg v77) (fun S80 => m_b1 (S80.2.2 a0 6) (fun b82 => m_gd (m_ok Z b82 11) (m_lt (v20 + (1 : Int32)) (fun v85 => m_gd (m_in v85 (Z.2.2 b82)) (m_bw (f_X9_figure Z S80 a0 (S80.1 b82 v85.toNatClampNeg) (1000 : Int32)) (fun v90 S89 => m_gd (m_in (v20 + (2 : Int32)) (Z.2.2 b82)) (m_lt (m_pI S89 b82 (v20 + (2 : Int32)).toNatClampNeg v90) (fun S92 => j61 S92)))))))))))))))))))))))))))))))))))))))) else some ((), S13))))))))))
abbrev rm_X9_oneCase : Room := { frames := 6, cells := 0, slots := 0, locals := 164 }
theorem hd_X9_oneCase : yX9_oneCase.cls = RX9 ∧ yX9_oneCase.cls ≠ "java/lang/invoke/MethodHandle" ∧ yX9_oneCase.cls ≠ "java/lang/invoke/VarHandle" ∧ (parseMethodDescriptor yX9_oneCase.desc).map (fun d => d.parameters.length) = some 0 := by decide +kernel
set_option maxHeartbeats 4000000 in
set_option maxRecDepth 100000 in
theorem c_X9_oneCase {l : Launch} (hl : l.stackTraces = false) {Z : m_Z} {S : m_S} {a0 : Nat} {rZ9 : Unit} {SZ9 : m_S} (hf : f_X9_oneCase Z S a0 = some (rZ9, SZ9)) : m_Ct l yX9_oneCase (.code yX9_oneCase cX9_oneCase 3 none :: m_ws) rm_X9_oneCase (fun f => [.ref a0]) Z S (none) SZ9 := by
  unfold f_X9_oneCase at hf
  refine m_ent hl (by decide) (fun _ => Nat.le_of_ble_eq_true rfl) (fun x C F => ?_)
  have C : m_H x l RX9 cX9_oneCase 3 rm_X9_oneCase := C
  show m_G x Z S 3 0 0 0 [(0, .ref a0)] []
  refine r_aload_n (q := 1) C 0 dX9_oneCase_0 rfl rfl ?_
  refine r_iconst (q := 2) (v := (5 : Int32)) C dX9_oneCase_1 (by decide) rfl ?_
  refine r_bipush (q := 4) (v := (6 : Int32)) C dX9_oneCase_2 (by decide) rfl ?_
  obtain ⟨g1, hf⟩ := m_gd_of hf
  obtain ⟨v4, S3, h2, hf⟩ := m_bw_of hf
  refine r_callV (mc := 0) (ms := 0) (q := 7) (st1 := [.int v4]) C (c_X9_begins hl h2) rfl w_1078 w_1079 w_1344 w_11 w_1080 hd_X9_begins rfl (by decide) g1 rfl rfl rfl ⟨(Nat.le_of_ble_eq_true rfl), (Nat.le_of_ble_eq_true rfl)⟩ (Nat.le_of_ble_eq_true rfl) ⟨(Nat.le_of_ble_eq_true rfl), (Nat.le_of_ble_eq_true rfl)⟩ dX9_oneCase_4 rfl rfl ?_
  refine r_if_eq (t := 27) (q := 10) C dX9_oneCase_7 (by decide) rfl (fun c5 => ?_) (fun c5 => ?_)
  · replace hf := m_if1 hf c5
    obtain ⟨rfl, rfl⟩ := m_so2 hf
    exact r_vret C F dX9_oneCase_27
  · replace hf := m_if0 hf c5
    refine r_aload_n (q := 11) C 0 dX9_oneCase_10 rfl rfl ?_
    refine r_aload_n (q := 12) C 0 dX9_oneCase_11 rfl rfl ?_
    obtain ⟨b6, e7, hf⟩ := m_b1_of hf
    refine gf_X9_52 (q := 15) C dX9_oneCase_12 g1 e7 rfl ?_
    refine r_aload_n (q := 16) C 0 dX9_oneCase_15 rfl rfl ?_
    obtain ⟨b8, e9, hf⟩ := m_b1_of hf
    refine gf_X9_13 (q := 19) C dX9_oneCase_16 g1 e9 rfl ?_
    refine r_iconst (q := 20) (v := (5 : Int32)) C dX9_oneCase_19 (by decide) rfl ?_
    obtain ⟨g10, hf⟩ := m_gd_of hf
    obtain ⟨g11, hf⟩ := m_gd_of hf
    refine r_iald (q := 21) C dX9_oneCase_20 ⟨g10, g11⟩ rfl ?_
    obtain ⟨v14, S13, h12, hf⟩ := m_bw_of hf
    refine r_callV (mc := 0) (ms := 0) (q := 24) (st1 := [.int v14]) C (c_X9_newName hl h12) rfl w_1087 w_1088 w_1347 w_11 w_1089 hd_X9_newName rfl (by decide) g1 rfl rfl rfl ⟨(Nat.le_of_ble_eq_true rfl), (Nat.le_of_ble_eq_true rfl)⟩ (Nat.le_of_ble_eq_true rfl) ⟨(Nat.le_of_ble_eq_true rfl), (Nat.le_of_ble_eq_true rfl)⟩ dX9_oneCase_21 rfl rfl ?_
    refine r_if_ne (t := 28) (q := 27) C dX9_oneCase_24 (by decide) rfl (fun c15 => ?_) (fun c15 => ?_)
    · replace hf := m_if1 hf c15
      refine r_aload_n (q := 29) C 0 dX9_oneCase_28 rfl rfl ?_
      obtain ⟨b16, e17, hf⟩ := m_b1_of hf
      refine gf_X9_13 (q := 32) C dX9_oneCase_29 g1 e17 rfl ?_
      refine r_iconst (q := 33) (v := (5 : Int32)) C dX9_oneCase_32 (by decide) rfl ?_
      obtain ⟨g18, hf⟩ := m_gd_of hf
      obtain ⟨g19, hf⟩ := m_gd_of hf
      refine r_iald (q := 34) C dX9_oneCase_33 ⟨g18, g19⟩ rfl ?_
      refine r_istore_n (q := 35) (L' := [(1, .int (S13.1 b16 (5 : Int32).toNatClampNeg)), (0, .ref a0)]) C dX9_oneCase_34 rfl rfl (by decide) rfl ?_
      refine r_iconst (q := 36) (v := (4 : Int32)) C dX9_oneCase_35 (by decide) rfl ?_
      refine r_bipush (q := 38) (v := (56 : Int32)) C dX9_oneCase_36 (by decide) rfl ?_
      refine r_iload_n (q := 39) C 0 dX9_oneCase_38 rfl rfl ?_
      refine r_imul (q := 40) C dX9_oneCase_39 rfl ?_
      refine r_iadd (q := 41) C dX9_oneCase_40 rfl ?_
      obtain ⟨v20, e21, hf⟩ := m_lt_of hf
      refine r_nm e21 ?_
      refine r_istore_n (q := 42) (L' := [(2, .int v20), (1, .int (S13.1 b16 (5 : Int32).toNatClampNeg)), (0, .ref a0)]) C dX9_oneCase_41 rfl rfl (by decide) rfl ?_
      refine r_aload_n (q := 43) C 2 dX9_oneCase_42 rfl rfl ?_
      refine gf_X9_13 (q := 46) C dX9_oneCase_43 g1 e17 rfl ?_
      refine r_bipush (q := 48) (v := (110 : Int32)) C dX9_oneCase_46 (by decide) rfl ?_
      refine r_iload_n (q := 49) C 1 dX9_oneCase_48 rfl rfl ?_
      refine r_iadd (q := 50) C dX9_oneCase_49 rfl ?_
      refine r_aload_n (q := 51) C 2 dX9_oneCase_50 rfl rfl ?_
      refine r_bipush (q := 53) (v := (100 : Int32)) C dX9_oneCase_51 (by decide) rfl ?_
      refine r_sipush (q := 56) (v := (9999 : Int32)) C dX9_oneCase_53 (by decide) rfl ?_
      obtain ⟨v24, S23, h22, hf⟩ := m_bw_of hf
      refine r_callV (mc := 0) (ms := 0) (q := 59) (st1 := [.int v24, .int ((110 : Int32) + (S13.1 b16 (5 : Int32).toNatClampNeg)), .ref b16]) C (c_X9_figure hl h22) rfl w_1069 w_1070 w_1341 w_11 w_1071 hd_X9_figure rfl (by decide) g1 rfl rfl rfl ⟨(Nat.le_of_ble_eq_true rfl), (Nat.le_of_ble_eq_true rfl)⟩ (Nat.le_of_ble_eq_true rfl) ⟨(Nat.le_of_ble_eq_true rfl), (Nat.le_of_ble_eq_true rfl)⟩ dX9_oneCase_56 rfl rfl ?_
      obtain ⟨g25, hf⟩ := m_gd_of hf
      obtain ⟨S26, e27, hf⟩ := m_lt_of hf
      refine r_iast (q := 60) C dX9_oneCase_59 ⟨g18, g25⟩ rfl ?_
      rw [← e27]
      refine r_aload_n (q := 61) C 2 dX9_oneCase_60 rfl rfl ?_
      obtain ⟨b28, e29, hf⟩ := m_b1_of hf
      refine gf_X9_25 (q := 64) C dX9_oneCase_61 g1 e29 rfl ?_
      refine r_iload_n (q := 65) C 0 dX9_oneCase_64 rfl rfl ?_
      refine r_iconst (q := 66) (v := (0 : Int32)) C dX9_oneCase_65 (by decide) rfl ?_
      refine r_iadd (q := 67) C dX9_oneCase_66 rfl ?_
      refine r_aload_n (q := 68) C 2 dX9_oneCase_67 rfl rfl ?_
      refine r_iconst (q := 69) (v := (0 : Int32)) C dX9_oneCase_68 (by decide) rfl ?_
      refine r_sipush (q := 72) (v := (1000 : Int32)) C dX9_oneCase_69 (by decide) rfl ?_
      obtain ⟨v32, S31, h30, hf⟩ := m_bw_of hf
      refine r_callV (mc := 0) (ms := 0) (q := 75) (st1 := [.int v32, .int (v20 + (0 : Int32)), .ref b28]) C (c_X9_figure hl h30) rfl w_1069 w_1070 w_1341 w_11 w_1071 hd_X9_figure rfl (by decide) g1 rfl rfl rfl ⟨(Nat.le_of_ble_eq_true rfl), (Nat.le_of_ble_eq_true rfl)⟩ (Nat.le_of_ble_eq_true rfl) ⟨(Nat.le_of_ble_eq_true rfl), (Nat.le_of_ble_eq_true rfl)⟩ dX9_oneCase_72 rfl rfl ?_
      obtain ⟨g33, hf⟩ := m_gd_of hf
      obtain ⟨g34, hf⟩ := m_gd_of hf
      obtain ⟨S35, e36, hf⟩ := m_lt_of hf
      refine r_iast (q := 76) C dX9_oneCase_75 ⟨g33, g34⟩ rfl ?_
      rw [← e36]
      refine r_aload_n (q := 77) C 2 dX9_oneCase_76 rfl rfl ?_
      obtain ⟨b37, e38, hf⟩ := m_b1_of hf
      refine gf_X9_25 (q := 80) C dX9_oneCase_77 g1 e38 rfl ?_
      refine r_iload_n (q := 81) C 0 dX9_oneCase_80 rfl rfl ?_
      refine r_iconst (q := 82) (v := (3 : Int32)) C dX9_oneCase_81 (by decide) rfl ?_
      refine r_iadd (q := 83) C dX9_oneCase_82 rfl ?_
      refine r_aload_n (q := 84) C 2 dX9_oneCase_83 rfl rfl ?_
      obtain ⟨b39, e40, hf⟩ := m_b1_of hf
      refine gf_X9_13 (q := 87) C dX9_oneCase_84 g1 e40 rfl ?_
      refine r_bipush (q := 89) (v := (110 : Int32)) C dX9_oneCase_87 (by decide) rfl ?_
      refine r_iload_n (q := 90) C 1 dX9_oneCase_89 rfl rfl ?_
      refine r_iadd (q := 91) C dX9_oneCase_90 rfl ?_
      obtain ⟨g41, hf⟩ := m_gd_of hf
      obtain ⟨v42, e43, hf⟩ := m_lt_of hf
      refine r_nm e43 ?_
      obtain ⟨g44, hf⟩ := m_gd_of hf
      refine r_iald (q := 92) C dX9_oneCase_91 ⟨g41, g44⟩ rfl ?_
      refine r_aload_n (q := 93) C 2 dX9_oneCase_92 rfl rfl ?_
      refine r_iconst (q := 94) (v := (0 : Int32)) C dX9_oneCase_93 (by decide) rfl ?_
      refine r_sipush (q := 97) (v := (1000 : Int32)) C dX9_oneCase_94 (by decide) rfl ?_
      obtain ⟨v47, S46, h45, hf⟩ := m_bw_of hf
      refine r_callV (mc := 0) (ms := 0) (q := 100) (st1 := [.int v47, .int (S35.1 b39 v42.toNatClampNeg), .int (v20 + (3 : Int32)), .ref b37]) C (c_X9_figure hl h45) rfl w_1069 w_1070 w_1341 w_11 w_1071 hd_X9_figure rfl (by decide) g1 rfl rfl rfl ⟨(Nat.le_of_ble_eq_true rfl), (Nat.le_of_ble_eq_true rfl)⟩ (Nat.le_of_ble_eq_true rfl) ⟨(Nat.le_of_ble_eq_true rfl), (Nat.le_of_ble_eq_true rfl)⟩ dX9_oneCase_97 rfl rfl ?_
      refine r_imul (q := 101) C dX9_oneCase_100 rfl ?_
      refine r_sipush (q := 104) (v := (1000 : Int32)) C dX9_oneCase_101 (by decide) rfl ?_
      refine r_idiv (q := 105) C dX9_oneCase_104 (by decide) rfl ?_
      obtain ⟨g48, hf⟩ := m_gd_of hf
      obtain ⟨g49, hf⟩ := m_gd_of hf
      obtain ⟨S50, e51, hf⟩ := m_lt_of hf
      refine r_iast (q := 106) C dX9_oneCase_105 ⟨g48, g49⟩ rfl ?_
      rw [← e51]
      refine r_aload_n (q := 107) C 2 dX9_oneCase_106 rfl rfl ?_
      obtain ⟨b52, e53, hf⟩ := m_b1_of hf
      refine gf_X9_25 (q := 110) C dX9_oneCase_107 g1 e53 rfl ?_
      refine r_iload_n (q := 111) C 0 dX9_oneCase_110 rfl rfl ?_
      refine r_iconst (q := 112) (v := (2 : Int32)) C dX9_oneCase_111 (by decide) rfl ?_
      refine r_iadd (q := 113) C dX9_oneCase_112 rfl ?_
      refine r_sipush (q := 116) (v := (1000 : Int32)) C dX9_oneCase_113 (by decide) rfl ?_
      obtain ⟨g54, hf⟩ := m_gd_of hf
      obtain ⟨g55, hf⟩ := m_gd_of hf
      obtain ⟨S56, e57, hf⟩ := m_lt_of hf
      refine r_iast (q := 117) C dX9_oneCase_116 ⟨g54, g55⟩ rfl ?_
      rw [← e57]
      refine r_aload_n (q := 118) C 2 dX9_oneCase_117 rfl rfl ?_
      refine r_ldcS (q := 120) (tx := "safe") (t := 7) C (by decide +kernel) dX9_oneCase_118 rfl ?_
      obtain ⟨v60, S59, h58, hf⟩ := m_bw_of hf
      refine r_callV (mc := 0) (ms := 0) (q := 123) (st1 := [.int v60]) C (c_X9_takesWord hl h58) rfl w_1055 w_1056 w_1337 w_11 w_1057 hd_X9_takesWord rfl (by decide) g1 rfl rfl rfl ⟨(Nat.le_of_ble_eq_true rfl), (Nat.le_of_ble_eq_true rfl)⟩ (Nat.le_of_ble_eq_true rfl) ⟨(Nat.le_of_ble_eq_true rfl), (Nat.le_of_ble_eq_true rfl)⟩ dX9_oneCase_120 rfl rfl ?_
      obtain ⟨j61, ej61, hf⟩ := m_jp_of hf
      have J61 : ∀ (S62 : m_S), j61 S62 = some (rZ9, SZ9) → m_G x Z S62 3 0 0 165 [(0, .ref a0)] [] := by
        intro S62 hf
        rw [ej61] at hf
        refine r_aload_n (q := 166) C 0 dX9_oneCase_165 rfl rfl ?_
        obtain ⟨b63, e64, hf⟩ := m_b1_of hf
        refine gf_X9_13 (q := 169) C dX9_oneCase_166 g1 e64 rfl ?_
        refine r_iconst (q := 170) (v := (5 : Int32)) C dX9_oneCase_169 (by decide) rfl ?_
        refine r_dup2 (q := 171) C dX9_oneCase_170 rfl rfl rfl ?_
        obtain ⟨g65, hf⟩ := m_gd_of hf
        obtain ⟨g66, hf⟩ := m_gd_of hf
        refine r_iald (q := 172) C dX9_oneCase_171 ⟨g65, g66⟩ rfl ?_
        refine r_iconst (q := 173) (v := (1 : Int32)) C dX9_oneCase_172 (by decide) rfl ?_
        refine r_iadd (q := 174) C dX9_oneCase_173 rfl ?_
        obtain ⟨g67, hf⟩ := m_gd_of hf
        obtain ⟨S68, e69, hf⟩ := m_lt_of hf
        refine r_iast (q := 175) C dX9_oneCase_174 ⟨g65, g67⟩ rfl ?_
        rw [← e69]
        refine r_aload_n (q := 176) C 0 dX9_oneCase_175 rfl rfl ?_
        obtain ⟨_u, S71, h70, hf⟩ := m_bw_of hf
        refine r_callV (mc := 0) (ms := 0) (q := 179) (st1 := []) C (c_X9_ends hl h70) rfl w_1072 w_1073 w_1342 w_11 w_1074 hd_X9_ends rfl (by decide) g1 rfl rfl rfl ⟨(Nat.le_of_ble_eq_true rfl), (Nat.le_of_ble_eq_true rfl)⟩ (Nat.le_of_ble_eq_true rfl) ⟨(Nat.le_of_ble_eq_true rfl), (Nat.le_of_ble_eq_true rfl)⟩ dX9_oneCase_176 rfl rfl ?_
        obtain ⟨rfl, rfl⟩ := m_so2 hf
        exact r_vret C F dX9_oneCase_179
      refine r_if_eq (t := 165) (q := 126) C dX9_oneCase_123 (by decide) rfl (fun c72 => ?_) (fun c72 => ?_)
      · replace hf := m_if1 hf c72
        refine r_sub [2] rfl ?_
        exact J61 S59 hf
      · replace hf := m_if0 hf c72
        refine r_aload_n (q := 127) C 2 dX9_oneCase_126 rfl rfl ?_
        obtain ⟨b73, e74, hf⟩ := m_b1_of hf
        refine gf_X9_25 (q := 130) C dX9_oneCase_127 g1 e74 rfl ?_
        refine r_iload_n (q := 131) C 0 dX9_oneCase_130 rfl rfl ?_
        refine r_iconst (q := 132) (v := (1 : Int32)) C dX9_oneCase_131 (by decide) rfl ?_
        refine r_iadd (q := 133) C dX9_oneCase_132 rfl ?_
        refine r_aload_n (q := 134) C 2 dX9_oneCase_133 rfl rfl ?_
        refine r_iconst (q := 135) (v := (0 : Int32)) C dX9_oneCase_134 (by decide) rfl ?_
        refine r_sipush (q := 138) (v := (1000 : Int32)) C dX9_oneCase_135 (by decide) rfl ?_
        obtain ⟨v77, S76, h75, hf⟩ := m_bw_of hf
        refine r_callV (mc := 0) (ms := 0) (q := 141) (st1 := [.int v77, .int (v20 + (1 : Int32)), .ref b73]) C (c_X9_figure hl h75) rfl w_1069 w_1070 w_1341 w_11 w_1071 hd_X9_figure rfl (by decide) g1 rfl rfl rfl ⟨(Nat.le_of_ble_eq_true rfl), (Nat.le_of_ble_eq_true rfl)⟩ (Nat.le_of_ble_eq_true rfl) ⟨(Nat.le_of_ble_eq_true rfl), (Nat.le_of_ble_eq_true rfl)⟩ dX9_oneCase_138 rfl rfl ?_
        obtain ⟨g78, hf⟩ := m_gd_of hf
        obtain ⟨g79, hf⟩ := m_gd_of hf
        obtain ⟨S80, e81, hf⟩ := m_lt_of hf
        refine r_iast (q := 142) C dX9_oneCase_141 ⟨g78, g79⟩ rfl ?_
        rw [← e81]
        refine r_aload_n (q := 143) C 2 dX9_oneCase_142 rfl rfl ?_
        obtain ⟨b82, e83, hf⟩ := m_b1_of hf
        refine gf_X9_25 (q := 146) C dX9_oneCase_143 g1 e83 rfl ?_
        refine r_iload_n (q := 147) C 0 dX9_oneCase_146 rfl rfl ?_
        refine r_iconst (q := 148) (v := (2 : Int32)) C dX9_oneCase_147 (by decide) rfl ?_
        refine r_iadd (q := 149) C dX9_oneCase_148 rfl ?_
        refine r_aload_n (q := 150) C 2 dX9_oneCase_149 rfl rfl ?_
        refine r_aload_n (q := 151) C 2 dX9_oneCase_150 rfl rfl ?_
        refine gf_X9_25 (q := 154) C dX9_oneCase_151 g1 e83 rfl ?_
        refine r_iload_n (q := 155) C 0 dX9_oneCase_154 rfl rfl ?_
        refine r_iconst (q := 156) (v := (1 : Int32)) C dX9_oneCase_155 (by decide) rfl ?_
        refine r_iadd (q := 157) C dX9_oneCase_156 rfl ?_
        obtain ⟨g84, hf⟩ := m_gd_of hf
        obtain ⟨v85, e86, hf⟩ := m_lt_of hf
        refine r_nm e86 ?_
        obtain ⟨g87, hf⟩ := m_gd_of hf
        refine r_iald (q := 158) C dX9_oneCase_157 ⟨g84, g87⟩ rfl ?_
        refine r_sipush (q := 161) (v := (1000 : Int32)) C dX9_oneCase_158 (by decide) rfl ?_
        obtain ⟨v90, S89, h88, hf⟩ := m_bw_of hf
        refine r_callV (mc := 0) (ms := 0) (q := 164) (st1 := [.int v90, .int (v20 + (2 : Int32)), .ref b82]) C (c_X9_figure hl h88) rfl w_1069 w_1070 w_1341 w_11 w_1071 hd_X9_figure rfl (by decide) g1 rfl rfl rfl ⟨(Nat.le_of_ble_eq_true rfl), (Nat.le_of_ble_eq_true rfl)⟩ (Nat.le_of_ble_eq_true rfl) ⟨(Nat.le_of_ble_eq_true rfl), (Nat.le_of_ble_eq_true rfl)⟩ dX9_oneCase_161 rfl rfl ?_
        obtain ⟨g91, hf⟩ := m_gd_of hf
        obtain ⟨S92, e93, hf⟩ := m_lt_of hf
        refine r_iast (q := 165) C dX9_oneCase_164 ⟨g84, g91⟩ rfl ?_
        rw [← e93]
        refine r_sub [2] rfl ?_
        exact J61 S92 hf
    · replace hf := m_if0 hf (fun z => z c15)
      obtain ⟨rfl, rfl⟩ := m_so2 hf
      exact r_vret C F dX9_oneCase_27
def f_X9_oneCassette (Z : m_Z) (S : m_S) (a0 : Nat) : Option (Unit × m_S) := m_gd (m_ok Z a0 9) (m_bw (f_X9_token Z S a0) (fun _u S3 => m_b1 (S3.2.2 a0 22) (fun b4 => m_b1 (S3.2.2 a0 2) (fun b6 => m_gd (m_ok Z b6 11) (m_gd (m_in (5 : Int32) (Z.2.2 b6)) (m_bw (f_X9_named Z S3 a0 b4 (S3.1 b6 (5 : Int32).toNatClampNeg)) (fun v12 S11 => m_jp (fun (S14 : m_S) => m_b1 (f_X9_isWrong Z S14 a0) (fun v16 => (if v16 = 0 then m_lt ((4 : Int32) + ((56 : Int32) * v12)) (fun v18 => m_b1 (S14.2.2 a0 6) (fun b20 => m_gd (m_ok Z b20 11) (m_lt (v18 + (4 : Int32)) (fun v23 => m_gd (m_in v23 (Z.2.2 b20)) (m_jp (fun (S27 : m_S) => m_b1 (f_X9_isWrong Z S27 a0) (fun v29 => m_jp (fun (S31 : m_S) => m_b1 (f_X9_isWrong Z S31 a0) (fun v33 => m_jp (fun (v35 : Int32) (S36 : m_S) => m_jp (fun (S38 : m_S) => m_b1 (f_X9_isWrong Z S38 a0) (fun v40 => (if v40 = 0 then m_bw (f_X9_token Z S38 a0) (fun _u S43 => m_b1 (S43.2.2 a0 6) (fun b44 => m_gd (m_ok Z b44 11) (m_lt (v18 + (4 : Int32)) (fun v47 => m_gd (m_in v47 (Z.2.2 b44)) (m_lt ((v18 + (8 : Int32)) + ((4 : Int32) * (S43.1 b44 v47.toNatClampNeg))) (fun v50 => m_gd (m_in (3 : Int32) (Z.2.2 b44)) (m_gd (m_in (v50 + (0 : Int32)) (Z.2.2 b44)) (m_lt (m_pI S43 b44 (v50 + (0 : Int32)).toNatClampNeg (S43.1 b44 (3 : Int32).toNatClampNeg)) (fun S54 => m_b1 (S54.2.2 a0 6) (fun b56 => m_gd (m_ok Z b56 11) (m_gd (m_in (v50 + (1 : Int32)) (Z.2.2 b56)) (m_lt (m_pI S54 b56 (v50 + (1 : Int32)).toNatClampNeg v35) (fun S60 => m_b1 (S60.2.2 a0 6) (fun b62 => m_bw (f_X9_figure Z S60 a0 (1 : Int32) (999 : Int32)) (fun v66 S65 => m_gd (m_ok Z b62 11) (m_gd (m_in (v50 + (2 : Int32)) (Z.2.2 b62)) (m_lt (m_pI S65 b62 (v50 + (2 : Int32)).toNatClampNeg v66) (fun S69 => m_b1 (S69.2.2 a0 6) (fun b71 => m_bw (f_X9_figure Z S69 a0 (0 : Int32) (1000 : Int32)) (fun v75 S74 => m_gd (m_ok Z b71 11) (m_gd (m_in (v50 + (3 : Int32)) (Z.2.2 b71)) (m_lt (m_pI S74 b71 (v50 + (3 : Int32)).toNatClampNeg v75) (fun S78 => m_b1 (S78.2.2 a0 6) (fun b80 => m_lt (v18 + (4 : Int32)) (fun v82 => m_gd (m_ok Z b80 11) (m_gd (m_in v82 (Z.2.2 b80)) (m_gd (m_in v82 (Z.2.2 b80)) (m_lt (m_pI S78 b80 v82.toNatClampNeg ((S78.1 b80 v82.toNatClampNeg) + (1 : Int32))) (fun S87 => m_b1 (S87.2.2 a0 6) (fun b89 => m_gd (m_ok Z b89 11) (m_gd (m_in (3 : Int32) (Z.2.2 b89)) (m_gd (m_in (3 : Int32) (Z.2.2 b89)) (m_lt (m_pI S87 b89 (3 : Int32).toNatClampNeg ((S87.1 b89 (3 : Int32).toNatClampNeg) + (1 : Int32))) (fun S94 => m_bw (f_X9_ends Z S94 a0) (fun _u S97 => some ((), S97)))))))))))))))))))))))))))))))))))) else some ((), S38)))) (fun j37 => (if ¬ v35 = (-1 : Int32) then j37 S36 else m_bw (f_X9_fails Z S36 a0 (3 : Int32)) (fun _u S100 => j37 S100)))) (fun j34 => (if v33 = 0 then m_b1 (S31.2.2 a0 21) (fun b102 => m_b1 (S31.2.2 a0 2) (fun b104 => m_gd (m_ok Z b104 11) (m_gd (m_in (4 : Int32) (Z.2.2 b104)) (m_bw (f_X9_named Z S31 a0 b102 (S31.1 b104 (4 : Int32).toNatClampNeg)) (fun v110 S109 => j34 v110 S109))))) else j34 (0 : Int32) S31)))) (fun j30 => (if ¬ v29 = 0 then j30 S27 else m_bw (f_X9_token Z S27 a0) (fun _u S113 => j30 S113))))) (fun j26 => (if ¬ (S14.1 b20 v23.toNatClampNeg) = (5 : Int32) then j26 S14 else m_bw (f_X9_fails Z S14 a0 (4 : Int32)) (fun _u S116 => j26 S116)))))))) else some ((), S14)))) (fun j13 => (if ¬ v12 = (-1 : Int32) then j13 S11 else m_bw (f_X9_fails Z S11 a0 (3 : Int32)) (fun _u S119 => j13 S119))))))))))
abbrev rm_X9_oneCassette : Room := { frames := 3, cells := 0, slots := 0, locals := 65 }
theorem hd_X9_oneCassette : yX9_oneCassette.cls = RX9 ∧ yX9_oneCassette.cls ≠ "java/lang/invoke/MethodHandle" ∧ yX9_oneCassette.cls ≠ "java/lang/invoke/VarHandle" ∧ (parseMethodDescriptor yX9_oneCassette.desc).map (fun d => d.parameters.length) = some 0 := by decide +kernel
set_option maxHeartbeats 4000000 in
set_option maxRecDepth 100000 in
theorem c_X9_oneCassette {l : Launch} (hl : l.stackTraces = false) {Z : m_Z} {S : m_S} {a0 : Nat} {rZ9 : Unit} {SZ9 : m_S} (hf : f_X9_oneCassette Z S a0 = some (rZ9, SZ9)) : m_Ct l yX9_oneCassette (.code yX9_oneCassette cX9_oneCassette 5 none :: m_ws) rm_X9_oneCassette (fun f => [.ref a0]) Z S (none) SZ9 := by
  unfold f_X9_oneCassette at hf
  refine m_ent hl (by decide) (fun _ => Nat.le_of_ble_eq_true rfl) (fun x C F => ?_)
  have C : m_H x l RX9 cX9_oneCassette 5 rm_X9_oneCassette := C
  show m_G x Z S 5 0 0 0 [(0, .ref a0)] []
  refine r_aload_n (q := 1) C 0 dX9_oneCassette_0 rfl rfl ?_
  obtain ⟨g1, hf⟩ := m_gd_of hf
  obtain ⟨_u, S3, h2, hf⟩ := m_bw_of hf
  refine r_callV (mc := 0) (ms := 0) (q := 4) (st1 := []) C (c_X9_token hl h2) rfl w_1038 w_1039 w_1334 w_11 w_1040 hd_X9_token rfl (by decide) g1 rfl rfl rfl ⟨(Nat.le_of_ble_eq_true rfl), (Nat.le_of_ble_eq_true rfl)⟩ (Nat.le_of_ble_eq_true rfl) ⟨(Nat.le_of_ble_eq_true rfl), (Nat.le_of_ble_eq_true rfl)⟩ dX9_oneCassette_1 rfl rfl ?_
  refine r_aload_n (q := 5) C 0 dX9_oneCassette_4 rfl rfl ?_
  refine r_aload_n (q := 6) C 0 dX9_oneCassette_5 rfl rfl ?_
  obtain ⟨b4, e5, hf⟩ := m_b1_of hf
  refine gf_X9_52 (q := 9) C dX9_oneCassette_6 g1 e5 rfl ?_
  refine r_aload_n (q := 10) C 0 dX9_oneCassette_9 rfl rfl ?_
  obtain ⟨b6, e7, hf⟩ := m_b1_of hf
  refine gf_X9_13 (q := 13) C dX9_oneCassette_10 g1 e7 rfl ?_
  refine r_iconst (q := 14) (v := (5 : Int32)) C dX9_oneCassette_13 (by decide) rfl ?_
  obtain ⟨g8, hf⟩ := m_gd_of hf
  obtain ⟨g9, hf⟩ := m_gd_of hf
  refine r_iald (q := 15) C dX9_oneCassette_14 ⟨g8, g9⟩ rfl ?_
  obtain ⟨v12, S11, h10, hf⟩ := m_bw_of hf
  refine r_callV (mc := 0) (ms := 0) (q := 18) (st1 := [.int v12]) C (c_X9_named hl h10) rfl w_1090 w_1091 w_1348 w_11 w_1092 hd_X9_named rfl (by decide) g1 rfl rfl rfl ⟨(Nat.le_of_ble_eq_true rfl), (Nat.le_of_ble_eq_true rfl)⟩ (Nat.le_of_ble_eq_true rfl) ⟨(Nat.le_of_ble_eq_true rfl), (Nat.le_of_ble_eq_true rfl)⟩ dX9_oneCassette_15 rfl rfl ?_
  refine r_istore_n (q := 19) (L' := [(1, .int v12), (0, .ref a0)]) C dX9_oneCassette_18 rfl rfl (by decide) rfl ?_
  refine r_iload_n (q := 20) C 0 dX9_oneCassette_19 rfl rfl ?_
  refine r_iconst (q := 21) (v := (-1 : Int32)) C dX9_oneCassette_20 (by decide) rfl ?_
  obtain ⟨j13, ej13, hf⟩ := m_jp_of hf
  have J13 : ∀ (S14 : m_S), j13 S14 = some (rZ9, SZ9) → m_G x Z S14 5 0 0 29 [(0, .ref a0), (1, .int v12)] [] := by
    intro S14 hf
    rw [ej13] at hf
    refine r_aload_n (q := 30) C 0 dX9_oneCassette_29 rfl rfl ?_
    obtain ⟨v16, h15, hf⟩ := m_b1_of hf
    refine r_callV (mc := 0) (ms := 0) (q := 33) (st1 := [.int v16]) C (c_X9_isWrong hl h15) rfl w_1061 w_1062 w_1339 w_11 w_1063 hd_X9_isWrong rfl (by decide) g1 rfl rfl rfl ⟨(Nat.le_of_ble_eq_true rfl), (Nat.le_of_ble_eq_true rfl)⟩ (Nat.le_of_ble_eq_true rfl) ⟨(Nat.le_of_ble_eq_true rfl), (Nat.le_of_ble_eq_true rfl)⟩ dX9_oneCassette_30 rfl rfl ?_
    refine r_if_eq (t := 37) (q := 36) C dX9_oneCassette_33 (by decide) rfl (fun c17 => ?_) (fun c17 => ?_)
    · replace hf := m_if1 hf c17
      refine r_iconst (q := 38) (v := (4 : Int32)) C dX9_oneCassette_37 (by decide) rfl ?_
      refine r_bipush (q := 40) (v := (56 : Int32)) C dX9_oneCassette_38 (by decide) rfl ?_
      refine r_iload_n (q := 41) C 1 dX9_oneCassette_40 rfl rfl ?_
      refine r_imul (q := 42) C dX9_oneCassette_41 rfl ?_
      refine r_iadd (q := 43) C dX9_oneCassette_42 rfl ?_
      obtain ⟨v18, e19, hf⟩ := m_lt_of hf
      refine r_nm e19 ?_
      refine r_istore_n (q := 44) (L' := [(2, .int v18), (0, .ref a0), (1, .int v12)]) C dX9_oneCassette_43 rfl rfl (by decide) rfl ?_
      refine r_aload_n (q := 45) C 1 dX9_oneCassette_44 rfl rfl ?_
      obtain ⟨b20, e21, hf⟩ := m_b1_of hf
      refine gf_X9_25 (q := 48) C dX9_oneCassette_45 g1 e21 rfl ?_
      refine r_iload_n (q := 49) C 0 dX9_oneCassette_48 rfl rfl ?_
      refine r_iconst (q := 50) (v := (4 : Int32)) C dX9_oneCassette_49 (by decide) rfl ?_
      refine r_iadd (q := 51) C dX9_oneCassette_50 rfl ?_
      obtain ⟨g22, hf⟩ := m_gd_of hf
      obtain ⟨v23, e24, hf⟩ := m_lt_of hf
      refine r_nm e24 ?_
      obtain ⟨g25, hf⟩ := m_gd_of hf
      refine r_iald (q := 52) C dX9_oneCassette_51 ⟨g22, g25⟩ rfl ?_
      refine r_iconst (q := 53) (v := (5 : Int32)) C dX9_oneCassette_52 (by decide) rfl ?_
      obtain ⟨j26, ej26, hf⟩ := m_jp_of hf
      have J26 : ∀ (S27 : m_S), j26 S27 = some (rZ9, SZ9) → m_G x Z S27 5 0 0 61 [(0, .ref a0), (2, .int v18)] [] := by
        intro S27 hf
        rw [ej26] at hf
        refine r_aload_n (q := 62) C 0 dX9_oneCassette_61 rfl rfl ?_
        obtain ⟨v29, h28, hf⟩ := m_b1_of hf
        refine r_callV (mc := 0) (ms := 0) (q := 65) (st1 := [.int v29]) C (c_X9_isWrong hl h28) rfl w_1061 w_1062 w_1339 w_11 w_1063 hd_X9_isWrong rfl (by decide) g1 rfl rfl rfl ⟨(Nat.le_of_ble_eq_true rfl), (Nat.le_of_ble_eq_true rfl)⟩ (Nat.le_of_ble_eq_true rfl) ⟨(Nat.le_of_ble_eq_true rfl), (Nat.le_of_ble_eq_true rfl)⟩ dX9_oneCassette_62 rfl rfl ?_
        obtain ⟨j30, ej30, hf⟩ := m_jp_of hf
        have J30 : ∀ (S31 : m_S), j30 S31 = some (rZ9, SZ9) → m_G x Z S31 5 0 0 72 [(0, .ref a0), (2, .int v18)] [] := by
          intro S31 hf
          rw [ej30] at hf
          refine r_aload_n (q := 73) C 0 dX9_oneCassette_72 rfl rfl ?_
          obtain ⟨v33, h32, hf⟩ := m_b1_of hf
          refine r_callV (mc := 0) (ms := 0) (q := 76) (st1 := [.int v33]) C (c_X9_isWrong hl h32) rfl w_1061 w_1062 w_1339 w_11 w_1063 hd_X9_isWrong rfl (by decide) g1 rfl rfl rfl ⟨(Nat.le_of_ble_eq_true rfl), (Nat.le_of_ble_eq_true rfl)⟩ (Nat.le_of_ble_eq_true rfl) ⟨(Nat.le_of_ble_eq_true rfl), (Nat.le_of_ble_eq_true rfl)⟩ dX9_oneCassette_73 rfl rfl ?_
          obtain ⟨j34, ej34, hf⟩ := m_jp_of hf
          have J34 : ∀ (v35 : Int32) (S36 : m_S), j34 v35 S36 = some (rZ9, SZ9) → m_G x Z S36 5 0 0 97 [(0, .ref a0), (2, .int v18)] [.int v35] := by
            intro v35 S36 hf
            rw [ej34] at hf
            refine r_istore_n (q := 98) (L' := [(3, .int v35), (0, .ref a0), (2, .int v18)]) C dX9_oneCassette_97 rfl rfl (by decide) rfl ?_
            refine r_iload_n (q := 99) C 0 dX9_oneCassette_98 rfl rfl ?_
            refine r_iconst (q := 100) (v := (-1 : Int32)) C dX9_oneCassette_99 (by decide) rfl ?_
            obtain ⟨j37, ej37, hf⟩ := m_jp_of hf
            have J37 : ∀ (S38 : m_S), j37 S38 = some (rZ9, SZ9) → m_G x Z S38 5 0 0 108 [(0, .ref a0), (2, .int v18), (3, .int v35)] [] := by
              intro S38 hf
              rw [ej37] at hf
              refine r_aload_n (q := 109) C 0 dX9_oneCassette_108 rfl rfl ?_
              obtain ⟨v40, h39, hf⟩ := m_b1_of hf
              refine r_callV (mc := 0) (ms := 0) (q := 112) (st1 := [.int v40]) C (c_X9_isWrong hl h39) rfl w_1061 w_1062 w_1339 w_11 w_1063 hd_X9_isWrong rfl (by decide) g1 rfl rfl rfl ⟨(Nat.le_of_ble_eq_true rfl), (Nat.le_of_ble_eq_true rfl)⟩ (Nat.le_of_ble_eq_true rfl) ⟨(Nat.le_of_ble_eq_true rfl), (Nat.le_of_ble_eq_true rfl)⟩ dX9_oneCassette_109 rfl rfl ?_
              refine r_if_eq (t := 116) (q := 115) C dX9_oneCassette_112 (by decide) rfl (fun c41 => ?_) (fun c41 => ?_)
              · replace hf := m_if1 hf c41
                refine r_aload_n (q := 117) C 0 dX9_oneCassette_116 rfl rfl ?_
                obtain ⟨_u, S43, h42, hf⟩ := m_bw_of hf
                refine r_callV (mc := 0) (ms := 0) (q := 120) (st1 := []) C (c_X9_token hl h42) rfl w_1038 w_1039 w_1334 w_11 w_1040 hd_X9_token rfl (by decide) g1 rfl rfl rfl ⟨(Nat.le_of_ble_eq_true rfl), (Nat.le_of_ble_eq_true rfl)⟩ (Nat.le_of_ble_eq_true rfl) ⟨(Nat.le_of_ble_eq_true rfl), (Nat.le_of_ble_eq_true rfl)⟩ dX9_oneCassette_117 rfl rfl ?_
                refine r_iload_n (q := 121) C 1 dX9_oneCassette_120 rfl rfl ?_
                refine r_bipush (q := 123) (v := (8 : Int32)) C dX9_oneCassette_121 (by decide) rfl ?_
                refine r_iadd (q := 124) C dX9_oneCassette_123 rfl ?_
                refine r_iconst (q := 125) (v := (4 : Int32)) C dX9_oneCassette_124 (by decide) rfl ?_
                refine r_aload_n (q := 126) C 0 dX9_oneCassette_125 rfl rfl ?_
                obtain ⟨b44, e45, hf⟩ := m_b1_of hf
                refine gf_X9_25 (q := 129) C dX9_oneCassette_126 g1 e45 rfl ?_
                refine r_iload_n (q := 130) C 1 dX9_oneCassette_129 rfl rfl ?_
                refine r_iconst (q := 131) (v := (4 : Int32)) C dX9_oneCassette_130 (by decide) rfl ?_
                refine r_iadd (q := 132) C dX9_oneCassette_131 rfl ?_
                obtain ⟨g46, hf⟩ := m_gd_of hf
                obtain ⟨v47, e48, hf⟩ := m_lt_of hf
                refine r_nm e48 ?_
                obtain ⟨g49, hf⟩ := m_gd_of hf
                refine r_iald (q := 133) C dX9_oneCassette_132 ⟨g46, g49⟩ rfl ?_
                refine r_imul (q := 134) C dX9_oneCassette_133 rfl ?_
                refine r_iadd (q := 135) C dX9_oneCassette_134 rfl ?_
                obtain ⟨v50, e51, hf⟩ := m_lt_of hf
                refine r_nm e51 ?_
                refine r_istore (q := 137) (L' := [(4, .int v50), (0, .ref a0), (2, .int v18), (3, .int v35)]) C dX9_oneCassette_135 rfl (by decide) rfl ?_
                refine r_aload_n (q := 138) C 1 dX9_oneCassette_137 rfl rfl ?_
                refine gf_X9_25 (q := 141) C dX9_oneCassette_138 g1 e45 rfl ?_
                refine r_iload (q := 143) C 0 dX9_oneCassette_141 rfl rfl ?_
                refine r_iconst (q := 144) (v := (0 : Int32)) C dX9_oneCassette_143 (by decide) rfl ?_
                refine r_iadd (q := 145) C dX9_oneCassette_144 rfl ?_
                refine r_aload_n (q := 146) C 1 dX9_oneCassette_145 rfl rfl ?_
                refine gf_X9_25 (q := 149) C dX9_oneCassette_146 g1 e45 rfl ?_
                refine r_iconst (q := 150) (v := (3 : Int32)) C dX9_oneCassette_149 (by decide) rfl ?_
                obtain ⟨g52, hf⟩ := m_gd_of hf
                refine r_iald (q := 151) C dX9_oneCassette_150 ⟨g46, g52⟩ rfl ?_
                obtain ⟨g53, hf⟩ := m_gd_of hf
                obtain ⟨S54, e55, hf⟩ := m_lt_of hf
                refine r_iast (q := 152) C dX9_oneCassette_151 ⟨g46, g53⟩ rfl ?_
                rw [← e55]
                refine r_aload_n (q := 153) C 1 dX9_oneCassette_152 rfl rfl ?_
                obtain ⟨b56, e57, hf⟩ := m_b1_of hf
                refine gf_X9_25 (q := 156) C dX9_oneCassette_153 g1 e57 rfl ?_
                refine r_iload (q := 158) C 0 dX9_oneCassette_156 rfl rfl ?_
                refine r_iconst (q := 159) (v := (1 : Int32)) C dX9_oneCassette_158 (by decide) rfl ?_
                refine r_iadd (q := 160) C dX9_oneCassette_159 rfl ?_
                refine r_iload_n (q := 161) C 3 dX9_oneCassette_160 rfl rfl ?_
                obtain ⟨g58, hf⟩ := m_gd_of hf
                obtain ⟨g59, hf⟩ := m_gd_of hf
                obtain ⟨S60, e61, hf⟩ := m_lt_of hf
                refine r_iast (q := 162) C dX9_oneCassette_161 ⟨g58, g59⟩ rfl ?_
                rw [← e61]
                refine r_aload_n (q := 163) C 1 dX9_oneCassette_162 rfl rfl ?_
                obtain ⟨b62, e63, hf⟩ := m_b1_of hf
                refine gf_X9_25 (q := 166) C dX9_oneCassette_163 g1 e63 rfl ?_
                refine r_iload (q := 168) C 0 dX9_oneCassette_166 rfl rfl ?_
                refine r_iconst (q := 169) (v := (2 : Int32)) C dX9_oneCassette_168 (by decide) rfl ?_
                refine r_iadd (q := 170) C dX9_oneCassette_169 rfl ?_
                refine r_aload_n (q := 171) C 1 dX9_oneCassette_170 rfl rfl ?_
                refine r_iconst (q := 172) (v := (1 : Int32)) C dX9_oneCassette_171 (by decide) rfl ?_
                refine r_sipush (q := 175) (v := (999 : Int32)) C dX9_oneCassette_172 (by decide) rfl ?_
                obtain ⟨v66, S65, h64, hf⟩ := m_bw_of hf
                refine r_callV (mc := 0) (ms := 0) (q := 178) (st1 := [.int v66, .int (v50 + (2 : Int32)), .ref b62]) C (c_X9_figure hl h64) rfl w_1069 w_1070 w_1341 w_11 w_1071 hd_X9_figure rfl (by decide) g1 rfl rfl rfl ⟨(Nat.le_of_ble_eq_true rfl), (Nat.le_of_ble_eq_true rfl)⟩ (Nat.le_of_ble_eq_true rfl) ⟨(Nat.le_of_ble_eq_true rfl), (Nat.le_of_ble_eq_true rfl)⟩ dX9_oneCassette_175 rfl rfl ?_
                obtain ⟨g67, hf⟩ := m_gd_of hf
                obtain ⟨g68, hf⟩ := m_gd_of hf
                obtain ⟨S69, e70, hf⟩ := m_lt_of hf
                refine r_iast (q := 179) C dX9_oneCassette_178 ⟨g67, g68⟩ rfl ?_
                rw [← e70]
                refine r_aload_n (q := 180) C 1 dX9_oneCassette_179 rfl rfl ?_
                obtain ⟨b71, e72, hf⟩ := m_b1_of hf
                refine gf_X9_25 (q := 183) C dX9_oneCassette_180 g1 e72 rfl ?_
                refine r_iload (q := 185) C 0 dX9_oneCassette_183 rfl rfl ?_
                refine r_iconst (q := 186) (v := (3 : Int32)) C dX9_oneCassette_185 (by decide) rfl ?_
                refine r_iadd (q := 187) C dX9_oneCassette_186 rfl ?_
                refine r_aload_n (q := 188) C 1 dX9_oneCassette_187 rfl rfl ?_
                refine r_iconst (q := 189) (v := (0 : Int32)) C dX9_oneCassette_188 (by decide) rfl ?_
                refine r_sipush (q := 192) (v := (1000 : Int32)) C dX9_oneCassette_189 (by decide) rfl ?_
                obtain ⟨v75, S74, h73, hf⟩ := m_bw_of hf
                refine r_callV (mc := 0) (ms := 0) (q := 195) (st1 := [.int v75, .int (v50 + (3 : Int32)), .ref b71]) C (c_X9_figure hl h73) rfl w_1069 w_1070 w_1341 w_11 w_1071 hd_X9_figure rfl (by decide) g1 rfl rfl rfl ⟨(Nat.le_of_ble_eq_true rfl), (Nat.le_of_ble_eq_true rfl)⟩ (Nat.le_of_ble_eq_true rfl) ⟨(Nat.le_of_ble_eq_true rfl), (Nat.le_of_ble_eq_true rfl)⟩ dX9_oneCassette_192 rfl rfl ?_
                obtain ⟨g76, hf⟩ := m_gd_of hf
                obtain ⟨g77, hf⟩ := m_gd_of hf
                obtain ⟨S78, e79, hf⟩ := m_lt_of hf
                refine r_iast (q := 196) C dX9_oneCassette_195 ⟨g76, g77⟩ rfl ?_
                rw [← e79]
                refine r_aload_n (q := 197) C 1 dX9_oneCassette_196 rfl rfl ?_
                obtain ⟨b80, e81, hf⟩ := m_b1_of hf
                refine gf_X9_25 (q := 200) C dX9_oneCassette_197 g1 e81 rfl ?_
                refine r_iload_n (q := 201) C 2 dX9_oneCassette_200 rfl rfl ?_
                refine r_iconst (q := 202) (v := (4 : Int32)) C dX9_oneCassette_201 (by decide) rfl ?_
                refine r_iadd (q := 203) C dX9_oneCassette_202 rfl ?_
                obtain ⟨v82, e83, hf⟩ := m_lt_of hf
                refine r_nm e83 ?_
                refine r_dup2 (q := 204) C dX9_oneCassette_203 rfl rfl rfl ?_
                obtain ⟨g84, hf⟩ := m_gd_of hf
                obtain ⟨g85, hf⟩ := m_gd_of hf
                refine r_iald (q := 205) C dX9_oneCassette_204 ⟨g84, g85⟩ rfl ?_
                refine r_iconst (q := 206) (v := (1 : Int32)) C dX9_oneCassette_205 (by decide) rfl ?_
                refine r_iadd (q := 207) C dX9_oneCassette_206 rfl ?_
                obtain ⟨g86, hf⟩ := m_gd_of hf
                obtain ⟨S87, e88, hf⟩ := m_lt_of hf
                refine r_iast (q := 208) C dX9_oneCassette_207 ⟨g84, g86⟩ rfl ?_
                rw [← e88]
                refine r_aload_n (q := 209) C 1 dX9_oneCassette_208 rfl rfl ?_
                obtain ⟨b89, e90, hf⟩ := m_b1_of hf
                refine gf_X9_25 (q := 212) C dX9_oneCassette_209 g1 e90 rfl ?_
                refine r_iconst (q := 213) (v := (3 : Int32)) C dX9_oneCassette_212 (by decide) rfl ?_
                refine r_dup2 (q := 214) C dX9_oneCassette_213 rfl rfl rfl ?_
                obtain ⟨g91, hf⟩ := m_gd_of hf
                obtain ⟨g92, hf⟩ := m_gd_of hf
                refine r_iald (q := 215) C dX9_oneCassette_214 ⟨g91, g92⟩ rfl ?_
                refine r_iconst (q := 216) (v := (1 : Int32)) C dX9_oneCassette_215 (by decide) rfl ?_
                refine r_iadd (q := 217) C dX9_oneCassette_216 rfl ?_
                obtain ⟨g93, hf⟩ := m_gd_of hf
                obtain ⟨S94, e95, hf⟩ := m_lt_of hf
                refine r_iast (q := 218) C dX9_oneCassette_217 ⟨g91, g93⟩ rfl ?_
                rw [← e95]
                refine r_aload_n (q := 219) C 1 dX9_oneCassette_218 rfl rfl ?_
                obtain ⟨_u, S97, h96, hf⟩ := m_bw_of hf
                refine r_callV (mc := 0) (ms := 0) (q := 222) (st1 := []) C (c_X9_ends hl h96) rfl w_1072 w_1073 w_1342 w_11 w_1074 hd_X9_ends rfl (by decide) g1 rfl rfl rfl ⟨(Nat.le_of_ble_eq_true rfl), (Nat.le_of_ble_eq_true rfl)⟩ (Nat.le_of_ble_eq_true rfl) ⟨(Nat.le_of_ble_eq_true rfl), (Nat.le_of_ble_eq_true rfl)⟩ dX9_oneCassette_219 rfl rfl ?_
                obtain ⟨rfl, rfl⟩ := m_so2 hf
                exact r_vret C F dX9_oneCassette_222
              · replace hf := m_if0 hf c41
                obtain ⟨rfl, rfl⟩ := m_so2 hf
                exact r_vret C F dX9_oneCassette_115
            refine r_icmp_ne (t := 108) (q := 103) C dX9_oneCassette_100 (by decide) rfl (fun c98 => ?_) (fun c98 => ?_)
            · replace hf := m_if1 hf c98
              refine r_sub [1, 2, 0] rfl ?_
              exact J37 S36 hf
            · replace hf := m_if0 hf (fun z => z c98)
              refine r_aload_n (q := 104) C 1 dX9_oneCassette_103 rfl rfl ?_
              refine r_iconst (q := 105) (v := (3 : Int32)) C dX9_oneCassette_104 (by decide) rfl ?_
              obtain ⟨_u, S100, h99, hf⟩ := m_bw_of hf
              refine r_callV (mc := 0) (ms := 0) (q := 108) (st1 := []) C (c_X9_fails hl h99) rfl w_1066 w_1067 w_1340 w_11 w_1068 hd_X9_fails rfl (by decide) g1 rfl rfl rfl ⟨(Nat.le_of_ble_eq_true rfl), (Nat.le_of_ble_eq_true rfl)⟩ (Nat.le_of_ble_eq_true rfl) ⟨(Nat.le_of_ble_eq_true rfl), (Nat.le_of_ble_eq_true rfl)⟩ dX9_oneCassette_105 rfl rfl ?_
              refine r_sub [1, 2, 0] rfl ?_
              exact J37 S100 hf
          refine r_if_eq (t := 83) (q := 79) C dX9_oneCassette_76 (by decide) rfl (fun c101 => ?_) (fun c101 => ?_)
          · replace hf := m_if1 hf c101
            refine r_aload_n (q := 84) C 0 dX9_oneCassette_83 rfl rfl ?_
            refine r_aload_n (q := 85) C 0 dX9_oneCassette_84 rfl rfl ?_
            obtain ⟨b102, e103, hf⟩ := m_b1_of hf
            refine gf_X9_49 (q := 88) C dX9_oneCassette_85 g1 e103 rfl ?_
            refine r_aload_n (q := 89) C 0 dX9_oneCassette_88 rfl rfl ?_
            obtain ⟨b104, e105, hf⟩ := m_b1_of hf
            refine gf_X9_13 (q := 92) C dX9_oneCassette_89 g1 e105 rfl ?_
            refine r_iconst (q := 93) (v := (4 : Int32)) C dX9_oneCassette_92 (by decide) rfl ?_
            obtain ⟨g106, hf⟩ := m_gd_of hf
            obtain ⟨g107, hf⟩ := m_gd_of hf
            refine r_iald (q := 94) C dX9_oneCassette_93 ⟨g106, g107⟩ rfl ?_
            obtain ⟨v110, S109, h108, hf⟩ := m_bw_of hf
            refine r_callV (mc := 0) (ms := 0) (q := 97) (st1 := [.int v110]) C (c_X9_named hl h108) rfl w_1090 w_1091 w_1348 w_11 w_1092 hd_X9_named rfl (by decide) g1 rfl rfl rfl ⟨(Nat.le_of_ble_eq_true rfl), (Nat.le_of_ble_eq_true rfl)⟩ (Nat.le_of_ble_eq_true rfl) ⟨(Nat.le_of_ble_eq_true rfl), (Nat.le_of_ble_eq_true rfl)⟩ dX9_oneCassette_94 rfl rfl ?_
            exact J34 v110 S109 hf
          · replace hf := m_if0 hf c101
            refine r_iconst (q := 80) (v := (0 : Int32)) C dX9_oneCassette_79 (by decide) rfl ?_
            refine r_goto (t := 97) C dX9_oneCassette_80 (by decide) ?_
            exact J34 (0 : Int32) S31 hf
        refine r_if_ne (t := 72) (q := 68) C dX9_oneCassette_65 (by decide) rfl (fun c111 => ?_) (fun c111 => ?_)
        · replace hf := m_if1 hf c111
          exact J30 S27 hf
        · replace hf := m_if0 hf (fun z => z c111)
          refine r_aload_n (q := 69) C 0 dX9_oneCassette_68 rfl rfl ?_
          obtain ⟨_u, S113, h112, hf⟩ := m_bw_of hf
          refine r_callV (mc := 0) (ms := 0) (q := 72) (st1 := []) C (c_X9_token hl h112) rfl w_1038 w_1039 w_1334 w_11 w_1040 hd_X9_token rfl (by decide) g1 rfl rfl rfl ⟨(Nat.le_of_ble_eq_true rfl), (Nat.le_of_ble_eq_true rfl)⟩ (Nat.le_of_ble_eq_true rfl) ⟨(Nat.le_of_ble_eq_true rfl), (Nat.le_of_ble_eq_true rfl)⟩ dX9_oneCassette_69 rfl rfl ?_
          exact J30 S113 hf
      refine r_icmp_ne (t := 61) (q := 56) C dX9_oneCassette_53 (by decide) rfl (fun c114 => ?_) (fun c114 => ?_)
      · replace hf := m_if1 hf c114
        refine r_sub [1, 0] rfl ?_
        exact J26 S14 hf
      · replace hf := m_if0 hf (fun z => z c114)
        refine r_aload_n (q := 57) C 1 dX9_oneCassette_56 rfl rfl ?_
        refine r_iconst (q := 58) (v := (4 : Int32)) C dX9_oneCassette_57 (by decide) rfl ?_
        obtain ⟨_u, S116, h115, hf⟩ := m_bw_of hf
        refine r_callV (mc := 0) (ms := 0) (q := 61) (st1 := []) C (c_X9_fails hl h115) rfl w_1066 w_1067 w_1340 w_11 w_1068 hd_X9_fails rfl (by decide) g1 rfl rfl rfl ⟨(Nat.le_of_ble_eq_true rfl), (Nat.le_of_ble_eq_true rfl)⟩ (Nat.le_of_ble_eq_true rfl) ⟨(Nat.le_of_ble_eq_true rfl), (Nat.le_of_ble_eq_true rfl)⟩ dX9_oneCassette_58 rfl rfl ?_
        refine r_sub [1, 0] rfl ?_
        exact J26 S116 hf
    · replace hf := m_if0 hf c17
      obtain ⟨rfl, rfl⟩ := m_so2 hf
      exact r_vret C F dX9_oneCassette_36
  refine r_icmp_ne (t := 29) (q := 24) C dX9_oneCassette_21 (by decide) rfl (fun c117 => ?_) (fun c117 => ?_)
  · replace hf := m_if1 hf c117
    refine r_sub [1, 0] rfl ?_
    exact J13 S11 hf
  · replace hf := m_if0 hf (fun z => z c117)
    refine r_aload_n (q := 25) C 1 dX9_oneCassette_24 rfl rfl ?_
    refine r_iconst (q := 26) (v := (3 : Int32)) C dX9_oneCassette_25 (by decide) rfl ?_
    obtain ⟨_u, S119, h118, hf⟩ := m_bw_of hf
    refine r_callV (mc := 0) (ms := 0) (q := 29) (st1 := []) C (c_X9_fails hl h118) rfl w_1066 w_1067 w_1340 w_11 w_1068 hd_X9_fails rfl (by decide) g1 rfl rfl rfl ⟨(Nat.le_of_ble_eq_true rfl), (Nat.le_of_ble_eq_true rfl)⟩ (Nat.le_of_ble_eq_true rfl) ⟨(Nat.le_of_ble_eq_true rfl), (Nat.le_of_ble_eq_true rfl)⟩ dX9_oneCassette_26 rfl rfl ?_
    refine r_sub [1, 0] rfl ?_
    exact J13 S119 hf
def F_X9_reads_109 (Z : m_Z) (a0 : Nat) (j35 : (m_S → Option (Unit × m_S))) (lp37 : m_S → Option (Unit × m_S)) (S36 : m_S) : Option (Unit × m_S) := m_b1 (f_X9_isWord Z S36 a0 5) (fun v42 => (if v42 = 0 then j35 S36 else m_bw (f_X9_oneCassette Z S36 a0) (fun _u S45 => lp37 S45)))
def F_X9_reads_93 (Z : m_Z) (a0 : Nat) (j47 : (m_S → Option (Unit × m_S))) (lp49 : m_S → Option (Unit × m_S)) (S48 : m_S) : Option (Unit × m_S) := m_b1 (f_X9_isWord Z S48 a0 4) (fun v54 => (if v54 = 0 then j47 S48 else m_bw (f_X9_oneCase Z S48 a0) (fun _u S57 => lp49 S57)))
def F_X9_reads_77 (Z : m_Z) (a0 : Nat) (j59 : (m_S → Option (Unit × m_S))) (lp61 : m_S → Option (Unit × m_S)) (S60 : m_S) : Option (Unit × m_S) := m_b1 (f_X9_isWord Z S60 a0 3) (fun v66 => (if v66 = 0 then j59 S60 else m_bw (f_X9_kind Z S60 a0) (fun _u S69 => lp61 S69)))
def F_X9_reads_61 (Z : m_Z) (a0 : Nat) (j71 : (m_S → Option (Unit × m_S))) (lp73 : m_S → Option (Unit × m_S)) (S72 : m_S) : Option (Unit × m_S) := m_b1 (f_X9_isWord Z S72 a0 2) (fun v78 => (if v78 = 0 then j71 S72 else m_bw (f_X9_visitors Z S72 a0) (fun _u S81 => lp73 S81)))
def F_X9_reads_45 (Z : m_Z) (a0 : Nat) (j83 : (m_S → Option (Unit × m_S))) (lp85 : m_S → Option (Unit × m_S)) (S84 : m_S) : Option (Unit × m_S) := m_b1 (f_X9_isWord Z S84 a0 1) (fun v90 => (if v90 = 0 then j83 S84 else m_bw (f_X9_season Z S84 a0) (fun _u S93 => lp85 S93)))
def f_X9_reads (Z : m_Z) (S : m_S) (a0 : Nat) : Option (Unit × m_S) := m_gd (m_ok Z a0 9) (m_bw (f_X9_takesWord Z S a0 0) (fun v4 S3 => m_jp (fun (S6 : m_S) => m_b1 (S6.2.2 a0 2) (fun b7 => m_bw (f_X9_figure Z S6 a0 (0 : Int32) (999 : Int32)) (fun v11 S10 => m_gd (m_ok Z b7 11) (m_gd (m_in (0 : Int32) (Z.2.2 b7)) (m_lt (m_pI S10 b7 (0 : Int32).toNatClampNeg v11) (fun S14 => m_b1 (S14.2.2 a0 2) (fun b16 => m_bw (f_X9_figure Z S14 a0 (0 : Int32) (99 : Int32)) (fun v20 S19 => m_gd (m_ok Z b16 11) (m_gd (m_in (1 : Int32) (Z.2.2 b16)) (m_lt (m_pI S19 b16 (1 : Int32).toNatClampNeg v20) (fun S23 => m_bw (f_X9_ends Z S23 a0) (fun _u S26 => m_jp (fun (S27 : m_S) => m_jp (fun (S28 : m_S) => m_jp (fun (S29 : m_S) => m_jp (fun (S30 : m_S) => m_jp (fun (S31 : m_S) => (if (S31.1 a0 16) = 0 then some ((), S31) else m_bw (f_X9_fails Z S31 a0 (1 : Int32)) (fun _u S34 => some ((), S34)))) (fun j35 => m_fx (F_X9_reads_109 Z a0 j35) 100000 S30)) (fun j47 => m_fx (F_X9_reads_93 Z a0 j47) 100000 S29)) (fun j59 => m_fx (F_X9_reads_77 Z a0 j59) 100000 S28)) (fun j71 => m_fx (F_X9_reads_61 Z a0 j71) 100000 S27)) (fun j83 => m_fx (F_X9_reads_45 Z a0 j83) 100000 S26))))))))))))) (fun j5 => (if ¬ v4 = 0 then j5 S3 else m_bw (f_X9_fails Z S3 a0 (1 : Int32)) (fun _u S97 => j5 S97)))))
abbrev rm_X9_reads : Room := { frames := 7, cells := 0, slots := 0, locals := 186 }
theorem hd_X9_reads : yX9_reads.cls = RX9 ∧ yX9_reads.cls ≠ "java/lang/invoke/MethodHandle" ∧ yX9_reads.cls ≠ "java/lang/invoke/VarHandle" ∧ (parseMethodDescriptor yX9_reads.desc).map (fun d => d.parameters.length) = some 0 := by decide +kernel
set_option maxHeartbeats 4000000 in
set_option maxRecDepth 100000 in
theorem c_X9_reads {l : Launch} (hl : l.stackTraces = false) {Z : m_Z} {S : m_S} {a0 : Nat} {rZ9 : Unit} {SZ9 : m_S} (hf : f_X9_reads Z S a0 = some (rZ9, SZ9)) : m_Ct l yX9_reads (.code yX9_reads cX9_reads 1 none :: m_ws) rm_X9_reads (fun f => [.ref a0]) Z S (none) SZ9 := by
  unfold f_X9_reads at hf
  refine m_ent hl (by decide) (fun _ => Nat.le_of_ble_eq_true rfl) (fun x C F => ?_)
  have C : m_H x l RX9 cX9_reads 1 rm_X9_reads := C
  show m_G x Z S 1 0 0 0 [(0, .ref a0)] []
  refine r_aload_n (q := 1) C 0 dX9_reads_0 rfl rfl ?_
  refine r_ldcS (q := 3) (tx := "museum") (t := 0) C (by decide +kernel) dX9_reads_1 rfl ?_
  obtain ⟨g1, hf⟩ := m_gd_of hf
  obtain ⟨v4, S3, h2, hf⟩ := m_bw_of hf
  refine r_callV (mc := 0) (ms := 0) (q := 6) (st1 := [.int v4]) C (c_X9_takesWord hl h2) rfl w_1055 w_1056 w_1337 w_11 w_1057 hd_X9_takesWord rfl (by decide) g1 rfl rfl rfl ⟨(Nat.le_of_ble_eq_true rfl), (Nat.le_of_ble_eq_true rfl)⟩ (Nat.le_of_ble_eq_true rfl) ⟨(Nat.le_of_ble_eq_true rfl), (Nat.le_of_ble_eq_true rfl)⟩ dX9_reads_3 rfl rfl ?_
  obtain ⟨j5, ej5, hf⟩ := m_jp_of hf
  have J5 : ∀ (S6 : m_S), j5 S6 = some (rZ9, SZ9) → m_G x Z S6 1 0 0 14 [(0, .ref a0)] [] := by
    intro S6 hf
    rw [ej5] at hf
    refine r_aload_n (q := 15) C 0 dX9_reads_14 rfl rfl ?_
    obtain ⟨b7, e8, hf⟩ := m_b1_of hf
    refine gf_X9_13 (q := 18) C dX9_reads_15 g1 e8 rfl ?_
    refine r_iconst (q := 19) (v := (0 : Int32)) C dX9_reads_18 (by decide) rfl ?_
    refine r_aload_n (q := 20) C 0 dX9_reads_19 rfl rfl ?_
    refine r_iconst (q := 21) (v := (0 : Int32)) C dX9_reads_20 (by decide) rfl ?_
    refine r_sipush (q := 24) (v := (999 : Int32)) C dX9_reads_21 (by decide) rfl ?_
    obtain ⟨v11, S10, h9, hf⟩ := m_bw_of hf
    refine r_callV (mc := 0) (ms := 0) (q := 27) (st1 := [.int v11, .int (0 : Int32), .ref b7]) C (c_X9_figure hl h9) rfl w_1069 w_1070 w_1341 w_11 w_1071 hd_X9_figure rfl (by decide) g1 rfl rfl rfl ⟨(Nat.le_of_ble_eq_true rfl), (Nat.le_of_ble_eq_true rfl)⟩ (Nat.le_of_ble_eq_true rfl) ⟨(Nat.le_of_ble_eq_true rfl), (Nat.le_of_ble_eq_true rfl)⟩ dX9_reads_24 rfl rfl ?_
    obtain ⟨g12, hf⟩ := m_gd_of hf
    obtain ⟨g13, hf⟩ := m_gd_of hf
    obtain ⟨S14, e15, hf⟩ := m_lt_of hf
    refine r_iast (q := 28) C dX9_reads_27 ⟨g12, g13⟩ rfl ?_
    rw [← e15]
    refine r_aload_n (q := 29) C 0 dX9_reads_28 rfl rfl ?_
    obtain ⟨b16, e17, hf⟩ := m_b1_of hf
    refine gf_X9_13 (q := 32) C dX9_reads_29 g1 e17 rfl ?_
    refine r_iconst (q := 33) (v := (1 : Int32)) C dX9_reads_32 (by decide) rfl ?_
    refine r_aload_n (q := 34) C 0 dX9_reads_33 rfl rfl ?_
    refine r_iconst (q := 35) (v := (0 : Int32)) C dX9_reads_34 (by decide) rfl ?_
    refine r_bipush (q := 37) (v := (99 : Int32)) C dX9_reads_35 (by decide) rfl ?_
    obtain ⟨v20, S19, h18, hf⟩ := m_bw_of hf
    refine r_callV (mc := 0) (ms := 0) (q := 40) (st1 := [.int v20, .int (1 : Int32), .ref b16]) C (c_X9_figure hl h18) rfl w_1069 w_1070 w_1341 w_11 w_1071 hd_X9_figure rfl (by decide) g1 rfl rfl rfl ⟨(Nat.le_of_ble_eq_true rfl), (Nat.le_of_ble_eq_true rfl)⟩ (Nat.le_of_ble_eq_true rfl) ⟨(Nat.le_of_ble_eq_true rfl), (Nat.le_of_ble_eq_true rfl)⟩ dX9_reads_37 rfl rfl ?_
    obtain ⟨g21, hf⟩ := m_gd_of hf
    obtain ⟨g22, hf⟩ := m_gd_of hf
    obtain ⟨S23, e24, hf⟩ := m_lt_of hf
    refine r_iast (q := 41) C dX9_reads_40 ⟨g21, g22⟩ rfl ?_
    rw [← e24]
    refine r_aload_n (q := 42) C 0 dX9_reads_41 rfl rfl ?_
    obtain ⟨_u, S26, h25, hf⟩ := m_bw_of hf
    refine r_callV (mc := 0) (ms := 0) (q := 45) (st1 := []) C (c_X9_ends hl h25) rfl w_1072 w_1073 w_1342 w_11 w_1074 hd_X9_ends rfl (by decide) g1 rfl rfl rfl ⟨(Nat.le_of_ble_eq_true rfl), (Nat.le_of_ble_eq_true rfl)⟩ (Nat.le_of_ble_eq_true rfl) ⟨(Nat.le_of_ble_eq_true rfl), (Nat.le_of_ble_eq_true rfl)⟩ dX9_reads_42 rfl rfl ?_
    obtain ⟨j83, ej83, hf⟩ := m_jp_of hf
    have J83 : ∀ (S27 : m_S), j83 S27 = some (rZ9, SZ9) → m_G x Z S27 1 0 0 61 [(0, .ref a0)] [] := by
      intro S27 hf
      rw [ej83] at hf
      obtain ⟨j71, ej71, hf⟩ := m_jp_of hf
      have J71 : ∀ (S28 : m_S), j71 S28 = some (rZ9, SZ9) → m_G x Z S28 1 0 0 77 [(0, .ref a0)] [] := by
        intro S28 hf
        rw [ej71] at hf
        obtain ⟨j59, ej59, hf⟩ := m_jp_of hf
        have J59 : ∀ (S29 : m_S), j59 S29 = some (rZ9, SZ9) → m_G x Z S29 1 0 0 93 [(0, .ref a0)] [] := by
          intro S29 hf
          rw [ej59] at hf
          obtain ⟨j47, ej47, hf⟩ := m_jp_of hf
          have J47 : ∀ (S30 : m_S), j47 S30 = some (rZ9, SZ9) → m_G x Z S30 1 0 0 109 [(0, .ref a0)] [] := by
            intro S30 hf
            rw [ej47] at hf
            obtain ⟨j35, ej35, hf⟩ := m_jp_of hf
            have J35 : ∀ (S31 : m_S), j35 S31 = some (rZ9, SZ9) → m_G x Z S31 1 0 0 125 [(0, .ref a0)] [] := by
              intro S31 hf
              rw [ej35] at hf
              refine r_aload_n (q := 126) C 0 dX9_reads_125 rfl rfl ?_
              refine gf_X9_111 (q := 129) C dX9_reads_126 g1 rfl ?_
              refine r_if_eq (t := 137) (q := 132) C dX9_reads_129 (by decide) rfl (fun c32 => ?_) (fun c32 => ?_)
              · replace hf := m_if1 hf c32
                obtain ⟨rfl, rfl⟩ := m_so2 hf
                exact r_vret C F dX9_reads_137
              · replace hf := m_if0 hf c32
                refine r_aload_n (q := 133) C 0 dX9_reads_132 rfl rfl ?_
                refine r_iconst (q := 134) (v := (1 : Int32)) C dX9_reads_133 (by decide) rfl ?_
                obtain ⟨_u, S34, h33, hf⟩ := m_bw_of hf
                refine r_callV (mc := 0) (ms := 0) (q := 137) (st1 := []) C (c_X9_fails hl h33) rfl w_1066 w_1067 w_1340 w_11 w_1068 hd_X9_fails rfl (by decide) g1 rfl rfl rfl ⟨(Nat.le_of_ble_eq_true rfl), (Nat.le_of_ble_eq_true rfl)⟩ (Nat.le_of_ble_eq_true rfl) ⟨(Nat.le_of_ble_eq_true rfl), (Nat.le_of_ble_eq_true rfl)⟩ dX9_reads_134 rfl rfl ?_
                obtain ⟨rfl, rfl⟩ := m_so2 hf
                exact r_vret C F dX9_reads_137
            have LL40 : ∀ (fu39 : Nat) (S36 : m_S), m_fx (F_X9_reads_109 Z a0 j35) fu39 S36 = some (rZ9, SZ9) → m_G x Z S36 1 0 0 109 [(0, .ref a0)] [] := by
              intro fu39
              induction fu39 with
              | zero => intros; rename_i hf; cases hf
              | succ fu39 ih38 =>
                intro S36 hf
                replace hf : F_X9_reads_109 Z a0 j35 (m_fx (F_X9_reads_109 Z a0 j35) fu39) S36 = some (rZ9, SZ9) := hf
                unfold F_X9_reads_109 at hf
                refine r_aload_n (q := 110) C 0 dX9_reads_109 rfl rfl ?_
                refine r_ldcS (q := 112) (tx := "cassette") (t := 5) C (by decide +kernel) dX9_reads_110 rfl ?_
                obtain ⟨v42, h41, hf⟩ := m_b1_of hf
                refine r_callV (mc := 0) (ms := 0) (q := 115) (st1 := [.int v42]) C (c_X9_isWord hl h41) rfl w_1058 w_1059 w_1338 w_11 w_1060 hd_X9_isWord rfl (by decide) g1 rfl rfl rfl ⟨(Nat.le_of_ble_eq_true rfl), (Nat.le_of_ble_eq_true rfl)⟩ (Nat.le_of_ble_eq_true rfl) ⟨(Nat.le_of_ble_eq_true rfl), (Nat.le_of_ble_eq_true rfl)⟩ dX9_reads_112 rfl rfl ?_
                refine r_if_eq (t := 125) (q := 118) C dX9_reads_115 (by decide) rfl (fun c43 => ?_) (fun c43 => ?_)
                · replace hf := m_if1 hf c43
                  exact J35 S36 hf
                · replace hf := m_if0 hf c43
                  refine r_aload_n (q := 119) C 0 dX9_reads_118 rfl rfl ?_
                  obtain ⟨_u, S45, h44, hf⟩ := m_bw_of hf
                  refine r_callV (mc := 0) (ms := 0) (q := 122) (st1 := []) C (c_X9_oneCassette hl h44) rfl w_1099 w_1100 w_1351 w_11 w_1101 hd_X9_oneCassette rfl (by decide) g1 rfl rfl rfl ⟨(Nat.le_of_ble_eq_true rfl), (Nat.le_of_ble_eq_true rfl)⟩ (Nat.le_of_ble_eq_true rfl) ⟨(Nat.le_of_ble_eq_true rfl), (Nat.le_of_ble_eq_true rfl)⟩ dX9_reads_119 rfl rfl ?_
                  refine r_goto (t := 109) C dX9_reads_122 (by decide) ?_
                  exact ih38 S45 hf
            exact LL40 100000 S30 hf
          have LL52 : ∀ (fu51 : Nat) (S48 : m_S), m_fx (F_X9_reads_93 Z a0 j47) fu51 S48 = some (rZ9, SZ9) → m_G x Z S48 1 0 0 93 [(0, .ref a0)] [] := by
            intro fu51
            induction fu51 with
            | zero => intros; rename_i hf; cases hf
            | succ fu51 ih50 =>
              intro S48 hf
              replace hf : F_X9_reads_93 Z a0 j47 (m_fx (F_X9_reads_93 Z a0 j47) fu51) S48 = some (rZ9, SZ9) := hf
              unfold F_X9_reads_93 at hf
              refine r_aload_n (q := 94) C 0 dX9_reads_93 rfl rfl ?_
              refine r_ldcS (q := 96) (tx := "case") (t := 4) C (by decide +kernel) dX9_reads_94 rfl ?_
              obtain ⟨v54, h53, hf⟩ := m_b1_of hf
              refine r_callV (mc := 0) (ms := 0) (q := 99) (st1 := [.int v54]) C (c_X9_isWord hl h53) rfl w_1058 w_1059 w_1338 w_11 w_1060 hd_X9_isWord rfl (by decide) g1 rfl rfl rfl ⟨(Nat.le_of_ble_eq_true rfl), (Nat.le_of_ble_eq_true rfl)⟩ (Nat.le_of_ble_eq_true rfl) ⟨(Nat.le_of_ble_eq_true rfl), (Nat.le_of_ble_eq_true rfl)⟩ dX9_reads_96 rfl rfl ?_
              refine r_if_eq (t := 109) (q := 102) C dX9_reads_99 (by decide) rfl (fun c55 => ?_) (fun c55 => ?_)
              · replace hf := m_if1 hf c55
                exact J47 S48 hf
              · replace hf := m_if0 hf c55
                refine r_aload_n (q := 103) C 0 dX9_reads_102 rfl rfl ?_
                obtain ⟨_u, S57, h56, hf⟩ := m_bw_of hf
                refine r_callV (mc := 0) (ms := 0) (q := 106) (st1 := []) C (c_X9_oneCase hl h56) rfl w_1096 w_1097 w_1350 w_11 w_1098 hd_X9_oneCase rfl (by decide) g1 rfl rfl rfl ⟨(Nat.le_of_ble_eq_true rfl), (Nat.le_of_ble_eq_true rfl)⟩ (Nat.le_of_ble_eq_true rfl) ⟨(Nat.le_of_ble_eq_true rfl), (Nat.le_of_ble_eq_true rfl)⟩ dX9_reads_103 rfl rfl ?_
                refine r_goto (t := 93) C dX9_reads_106 (by decide) ?_
                exact ih50 S57 hf
          exact LL52 100000 S29 hf
        have LL64 : ∀ (fu63 : Nat) (S60 : m_S), m_fx (F_X9_reads_77 Z a0 j59) fu63 S60 = some (rZ9, SZ9) → m_G x Z S60 1 0 0 77 [(0, .ref a0)] [] := by
          intro fu63
          induction fu63 with
          | zero => intros; rename_i hf; cases hf
          | succ fu63 ih62 =>
            intro S60 hf
            replace hf : F_X9_reads_77 Z a0 j59 (m_fx (F_X9_reads_77 Z a0 j59) fu63) S60 = some (rZ9, SZ9) := hf
            unfold F_X9_reads_77 at hf
            refine r_aload_n (q := 78) C 0 dX9_reads_77 rfl rfl ?_
            refine r_ldcS (q := 80) (tx := "kind") (t := 3) C (by decide +kernel) dX9_reads_78 rfl ?_
            obtain ⟨v66, h65, hf⟩ := m_b1_of hf
            refine r_callV (mc := 0) (ms := 0) (q := 83) (st1 := [.int v66]) C (c_X9_isWord hl h65) rfl w_1058 w_1059 w_1338 w_11 w_1060 hd_X9_isWord rfl (by decide) g1 rfl rfl rfl ⟨(Nat.le_of_ble_eq_true rfl), (Nat.le_of_ble_eq_true rfl)⟩ (Nat.le_of_ble_eq_true rfl) ⟨(Nat.le_of_ble_eq_true rfl), (Nat.le_of_ble_eq_true rfl)⟩ dX9_reads_80 rfl rfl ?_
            refine r_if_eq (t := 93) (q := 86) C dX9_reads_83 (by decide) rfl (fun c67 => ?_) (fun c67 => ?_)
            · replace hf := m_if1 hf c67
              exact J59 S60 hf
            · replace hf := m_if0 hf c67
              refine r_aload_n (q := 87) C 0 dX9_reads_86 rfl rfl ?_
              obtain ⟨_u, S69, h68, hf⟩ := m_bw_of hf
              refine r_callV (mc := 0) (ms := 0) (q := 90) (st1 := []) C (c_X9_kind hl h68) rfl w_1084 w_1085 w_1346 w_11 w_1086 hd_X9_kind rfl (by decide) g1 rfl rfl rfl ⟨(Nat.le_of_ble_eq_true rfl), (Nat.le_of_ble_eq_true rfl)⟩ (Nat.le_of_ble_eq_true rfl) ⟨(Nat.le_of_ble_eq_true rfl), (Nat.le_of_ble_eq_true rfl)⟩ dX9_reads_87 rfl rfl ?_
              refine r_goto (t := 77) C dX9_reads_90 (by decide) ?_
              exact ih62 S69 hf
        exact LL64 100000 S28 hf
      have LL76 : ∀ (fu75 : Nat) (S72 : m_S), m_fx (F_X9_reads_61 Z a0 j71) fu75 S72 = some (rZ9, SZ9) → m_G x Z S72 1 0 0 61 [(0, .ref a0)] [] := by
        intro fu75
        induction fu75 with
        | zero => intros; rename_i hf; cases hf
        | succ fu75 ih74 =>
          intro S72 hf
          replace hf : F_X9_reads_61 Z a0 j71 (m_fx (F_X9_reads_61 Z a0 j71) fu75) S72 = some (rZ9, SZ9) := hf
          unfold F_X9_reads_61 at hf
          refine r_aload_n (q := 62) C 0 dX9_reads_61 rfl rfl ?_
          refine r_ldcS (q := 64) (tx := "visitors") (t := 2) C (by decide +kernel) dX9_reads_62 rfl ?_
          obtain ⟨v78, h77, hf⟩ := m_b1_of hf
          refine r_callV (mc := 0) (ms := 0) (q := 67) (st1 := [.int v78]) C (c_X9_isWord hl h77) rfl w_1058 w_1059 w_1338 w_11 w_1060 hd_X9_isWord rfl (by decide) g1 rfl rfl rfl ⟨(Nat.le_of_ble_eq_true rfl), (Nat.le_of_ble_eq_true rfl)⟩ (Nat.le_of_ble_eq_true rfl) ⟨(Nat.le_of_ble_eq_true rfl), (Nat.le_of_ble_eq_true rfl)⟩ dX9_reads_64 rfl rfl ?_
          refine r_if_eq (t := 77) (q := 70) C dX9_reads_67 (by decide) rfl (fun c79 => ?_) (fun c79 => ?_)
          · replace hf := m_if1 hf c79
            exact J71 S72 hf
          · replace hf := m_if0 hf c79
            refine r_aload_n (q := 71) C 0 dX9_reads_70 rfl rfl ?_
            obtain ⟨_u, S81, h80, hf⟩ := m_bw_of hf
            refine r_callV (mc := 0) (ms := 0) (q := 74) (st1 := []) C (c_X9_visitors hl h80) rfl w_1081 w_1082 w_1345 w_11 w_1083 hd_X9_visitors rfl (by decide) g1 rfl rfl rfl ⟨(Nat.le_of_ble_eq_true rfl), (Nat.le_of_ble_eq_true rfl)⟩ (Nat.le_of_ble_eq_true rfl) ⟨(Nat.le_of_ble_eq_true rfl), (Nat.le_of_ble_eq_true rfl)⟩ dX9_reads_71 rfl rfl ?_
            refine r_goto (t := 61) C dX9_reads_74 (by decide) ?_
            exact ih74 S81 hf
      exact LL76 100000 S27 hf
    have LL88 : ∀ (fu87 : Nat) (S84 : m_S), m_fx (F_X9_reads_45 Z a0 j83) fu87 S84 = some (rZ9, SZ9) → m_G x Z S84 1 0 0 45 [(0, .ref a0)] [] := by
      intro fu87
      induction fu87 with
      | zero => intros; rename_i hf; cases hf
      | succ fu87 ih86 =>
        intro S84 hf
        replace hf : F_X9_reads_45 Z a0 j83 (m_fx (F_X9_reads_45 Z a0 j83) fu87) S84 = some (rZ9, SZ9) := hf
        unfold F_X9_reads_45 at hf
        refine r_aload_n (q := 46) C 0 dX9_reads_45 rfl rfl ?_
        refine r_ldcS (q := 48) (tx := "season") (t := 1) C (by decide +kernel) dX9_reads_46 rfl ?_
        obtain ⟨v90, h89, hf⟩ := m_b1_of hf
        refine r_callV (mc := 0) (ms := 0) (q := 51) (st1 := [.int v90]) C (c_X9_isWord hl h89) rfl w_1058 w_1059 w_1338 w_11 w_1060 hd_X9_isWord rfl (by decide) g1 rfl rfl rfl ⟨(Nat.le_of_ble_eq_true rfl), (Nat.le_of_ble_eq_true rfl)⟩ (Nat.le_of_ble_eq_true rfl) ⟨(Nat.le_of_ble_eq_true rfl), (Nat.le_of_ble_eq_true rfl)⟩ dX9_reads_48 rfl rfl ?_
        refine r_if_eq (t := 61) (q := 54) C dX9_reads_51 (by decide) rfl (fun c91 => ?_) (fun c91 => ?_)
        · replace hf := m_if1 hf c91
          exact J83 S84 hf
        · replace hf := m_if0 hf c91
          refine r_aload_n (q := 55) C 0 dX9_reads_54 rfl rfl ?_
          obtain ⟨_u, S93, h92, hf⟩ := m_bw_of hf
          refine r_callV (mc := 0) (ms := 0) (q := 58) (st1 := []) C (c_X9_season hl h92) rfl w_1075 w_1076 w_1343 w_11 w_1077 hd_X9_season rfl (by decide) g1 rfl rfl rfl ⟨(Nat.le_of_ble_eq_true rfl), (Nat.le_of_ble_eq_true rfl)⟩ (Nat.le_of_ble_eq_true rfl) ⟨(Nat.le_of_ble_eq_true rfl), (Nat.le_of_ble_eq_true rfl)⟩ dX9_reads_55 rfl rfl ?_
          refine r_goto (t := 45) C dX9_reads_58 (by decide) ?_
          exact ih86 S93 hf
    exact LL88 100000 S26 hf
  refine r_if_ne (t := 14) (q := 9) C dX9_reads_6 (by decide) rfl (fun c95 => ?_) (fun c95 => ?_)
  · replace hf := m_if1 hf c95
    exact J5 S3 hf
  · replace hf := m_if0 hf (fun z => z c95)
    refine r_aload_n (q := 10) C 0 dX9_reads_9 rfl rfl ?_
    refine r_iconst (q := 11) (v := (1 : Int32)) C dX9_reads_10 (by decide) rfl ?_
    obtain ⟨_u, S97, h96, hf⟩ := m_bw_of hf
    refine r_callV (mc := 0) (ms := 0) (q := 14) (st1 := []) C (c_X9_fails hl h96) rfl w_1066 w_1067 w_1340 w_11 w_1068 hd_X9_fails rfl (by decide) g1 rfl rfl rfl ⟨(Nat.le_of_ble_eq_true rfl), (Nat.le_of_ble_eq_true rfl)⟩ (Nat.le_of_ble_eq_true rfl) ⟨(Nat.le_of_ble_eq_true rfl), (Nat.le_of_ble_eq_true rfl)⟩ dX9_reads_11 rfl rfl ?_
    exact J5 S97 hf
def F_X9_takes_88 (Z : m_Z) (a0 : Nat) (v19 : Int32) (j46 : (m_S → Option (Unit × m_S))) (lp49 : (Int32 × m_S) → Option (Unit × m_S)) (p68 : (Int32 × m_S)) : Option (Unit × m_S) := match p68 with
  | (v47, S48) => m_b1 (f_X9_of Z S48 a0 v19 (4 : Int32)) (fun v54 => (if v54 ≤ v47 then j46 S48 else m_b1 (f_X9_its Z S48 a0 v19 v47 (1 : Int32)) (fun v57 => m_b1 (f_X9_its Z S48 a0 v19 v47 (2 : Int32)) (fun v59 => m_b1 (f_X9_its Z S48 a0 v19 v47 (3 : Int32)) (fun v61 => m_b1 (f_X9_wouldHave Z S48 a0 v57 v59 v61) (fun v63 => m_bw (f_X9_cassettes Z S48 a0 v19 v47 (3 : Int32) v63) (fun _u S65 => m_lt (v47 + (1 : Int32)) (fun v66 => lp49 (v66, S65)))))))))
def F_X9_takes_76 (Z : m_Z) (a0 : Nat) (j18 : (m_S → Option (Unit × m_S))) (lp21 : (Int32 × m_S) → Option (Unit × m_S)) (p69 : (Int32 × m_S)) : Option (Unit × m_S) := match p69 with
  | (v19, S20) => m_gd (m_ok Z a0 9) (m_b1 (S20.2.2 a0 1) (fun b26 => m_gd (m_ok Z b26 11) (m_gd (m_in (5 : Int32) (Z.2.2 b26)) ((if (S20.1 b26 (5 : Int32).toNatClampNeg) ≤ v19 then j18 S20 else m_jp (fun (S31 : m_S) => m_bw (f_X9_lays Z S31 a0 v19 (6 : Int32) (-1 : Int32)) (fun _u S33 => m_bw (f_X9_lays Z S33 a0 v19 (7 : Int32) (-1 : Int32)) (fun _u S35 => m_b1 (S35.2.2 a0 7) (fun b36 => m_b1 (f_X9_moistureOf Z S35 a0 v19) (fun w39 => m_gd (m_ok Z b36 12) (m_gd (m_in (((5 : Int32) * v19) + (1 : Int32)) (Z.2.2 b36)) (m_lt (m_pJ S35 b36 (((5 : Int32) * v19) + (1 : Int32)).toNatClampNeg w39) (fun S42 => m_lt (v19 + (1 : Int32)) (fun v44 => lp21 (v44, S42)))))))))) (fun j46 => m_fx (F_X9_takes_88 Z a0 v19 j46) 100000 ((0 : Int32), S20)))))))
def F_X9_takes_55 (Z : m_Z) (a0 : Nat) (j70 : (m_S → Option (Unit × m_S))) (lp73 : (Int32 × m_S) → Option (Unit × m_S)) (p87 : (Int32 × m_S)) : Option (Unit × m_S) := match p87 with
  | (v71, S72) => (if (30 : Int32) ≤ v71 then j70 S72 else m_gd (m_ok Z a0 9) (m_b1 (S72.2.2 a0 7) (fun b79 => m_gd (m_ok Z b79 12) (m_gd (m_in v71 (Z.2.2 b79)) (m_lt (m_pJ S72 b79 v71.toNatClampNeg (0 : Int64)) (fun S83 => m_lt (v71 + (1 : Int32)) (fun v85 => lp73 (v85, S83))))))))
def F_X9_takes_28 (Z : m_Z) (a0 : Nat) (j88 : (m_S → Option (Unit × m_S))) (lp91 : (Int32 × m_S) → Option (Unit × m_S)) (p109 : (Int32 × m_S)) : Option (Unit × m_S) := match p109 with
  | (v89, S90) => (if (340 : Int32) ≤ v89 then j88 S90 else m_gd (m_ok Z a0 9) (m_b1 (S90.2.2 a0 3) (fun b97 => m_b1 (S90.2.2 a0 6) (fun b99 => m_gd (m_ok Z b99 11) (m_gd (m_in v89 (Z.2.2 b99)) (m_gd (m_ok Z b97 11) (m_gd (m_in v89 (Z.2.2 b97)) (m_lt (m_pI S90 b97 v89.toNatClampNeg (S90.1 b99 v89.toNatClampNeg)) (fun S105 => m_lt (v89 + (1 : Int32)) (fun v107 => lp91 (v107, S105)))))))))))
def F_X9_takes_2 (Z : m_Z) (a0 : Nat) (j110 : (m_S → Option (Unit × m_S))) (lp113 : (Int32 × m_S) → Option (Unit × m_S)) (p131 : (Int32 × m_S)) : Option (Unit × m_S) := match p131 with
  | (v111, S112) => (if (116 : Int32) ≤ v111 then j110 S112 else m_gd (m_ok Z a0 9) (m_b1 (S112.2.2 a0 1) (fun b119 => m_b1 (S112.2.2 a0 2) (fun b121 => m_gd (m_ok Z b121 11) (m_gd (m_in v111 (Z.2.2 b121)) (m_gd (m_ok Z b119 11) (m_gd (m_in v111 (Z.2.2 b119)) (m_lt (m_pI S112 b119 v111.toNatClampNeg (S112.1 b121 v111.toNatClampNeg)) (fun S127 => m_lt (v111 + (1 : Int32)) (fun v129 => lp113 (v129, S127)))))))))))
def f_X9_takes (Z : m_Z) (S : m_S) (a0 : Nat) : Option (Unit × m_S) := m_jp (fun (S1 : m_S) => m_jp (fun (S2 : m_S) => m_jp (fun (S3 : m_S) => m_jp (fun (S4 : m_S) => m_gd (m_ok Z a0 9) (m_b1 (S4.2.2 a0 10) (fun b6 => m_gd (m_ok Z b6 13) (m_gd (m_in (0 : Int32) (Z.2.2 b6)) (m_lt (m_pI S4 b6 (0 : Int32).toNatClampNeg (vp_nar .boolean (0 : Int32))) (fun S10 => m_b1 (S10.2.2 a0 10) (fun b12 => m_gd (m_ok Z b12 13) (m_gd (m_in (1 : Int32) (Z.2.2 b12)) (m_lt (m_pI S10 b12 (1 : Int32).toNatClampNeg (vp_nar .boolean (0 : Int32))) (fun S16 => some ((), S16))))))))))) (fun j18 => m_fx (F_X9_takes_76 Z a0 j18) 100000 ((0 : Int32), S3))) (fun j70 => m_fx (F_X9_takes_55 Z a0 j70) 100000 ((0 : Int32), S2))) (fun j88 => m_fx (F_X9_takes_28 Z a0 j88) 100000 ((0 : Int32), S1))) (fun j110 => m_fx (F_X9_takes_2 Z a0 j110) 100000 ((0 : Int32), S))
abbrev rm_X9_takes : Room := { frames := 3, cells := 0, slots := 0, locals := 71 }
theorem hd_X9_takes : yX9_takes.cls = RX9 ∧ yX9_takes.cls ≠ "java/lang/invoke/MethodHandle" ∧ yX9_takes.cls ≠ "java/lang/invoke/VarHandle" ∧ (parseMethodDescriptor yX9_takes.desc).map (fun d => d.parameters.length) = some 0 := by decide +kernel
set_option maxHeartbeats 4000000 in
set_option maxRecDepth 100000 in
theorem c_X9_takes {l : Launch} (hl : l.stackTraces = false) {Z : m_Z} {S : m_S} {a0 : Nat} {rZ9 : Unit} {SZ9 : m_S} (hf : f_X9_takes Z S a0 = some (rZ9, SZ9)) : m_Ct l yX9_takes (.code yX9_takes cX9_takes 3 none :: m_ws) rm_X9_takes (fun f => [.ref a0]) Z S (none) SZ9 := by
  unfold f_X9_takes at hf
  refine m_ent hl (by decide) (fun _ => Nat.le_of_ble_eq_true rfl) (fun x C F => ?_)
  have C : m_H x l RX9 cX9_takes 3 rm_X9_takes := C
  show m_G x Z S 3 0 0 0 [(0, .ref a0)] []
  refine r_iconst (q := 1) (v := (0 : Int32)) C dX9_takes_0 (by decide) rfl ?_
  refine r_istore_n (q := 2) (L' := [(1, .int (0 : Int32)), (0, .ref a0)]) C dX9_takes_1 rfl rfl (by decide) rfl ?_
  obtain ⟨j110, ej110, hf⟩ := m_jp_of hf
  have J110 : ∀ (S1 : m_S), j110 S1 = some (rZ9, SZ9) → m_G x Z S1 3 0 0 26 [(0, .ref a0)] [] := by
    intro S1 hf
    rw [ej110] at hf
    refine r_iconst (q := 27) (v := (0 : Int32)) C dX9_takes_26 (by decide) rfl ?_
    refine r_istore_n (q := 28) (L' := [(1, .int (0 : Int32)), (0, .ref a0)]) C dX9_takes_27 rfl rfl (by decide) rfl ?_
    obtain ⟨j88, ej88, hf⟩ := m_jp_of hf
    have J88 : ∀ (S2 : m_S), j88 S2 = some (rZ9, SZ9) → m_G x Z S2 3 0 0 53 [(0, .ref a0)] [] := by
      intro S2 hf
      rw [ej88] at hf
      refine r_iconst (q := 54) (v := (0 : Int32)) C dX9_takes_53 (by decide) rfl ?_
      refine r_istore_n (q := 55) (L' := [(1, .int (0 : Int32)), (0, .ref a0)]) C dX9_takes_54 rfl rfl (by decide) rfl ?_
      obtain ⟨j70, ej70, hf⟩ := m_jp_of hf
      have J70 : ∀ (S3 : m_S), j70 S3 = some (rZ9, SZ9) → m_G x Z S3 3 0 0 74 [(0, .ref a0)] [] := by
        intro S3 hf
        rw [ej70] at hf
        refine r_iconst (q := 75) (v := (0 : Int32)) C dX9_takes_74 (by decide) rfl ?_
        refine r_istore_n (q := 76) (L' := [(1, .int (0 : Int32)), (0, .ref a0)]) C dX9_takes_75 rfl rfl (by decide) rfl ?_
        obtain ⟨j18, ej18, hf⟩ := m_jp_of hf
        have J18 : ∀ (S4 : m_S), j18 S4 = some (rZ9, SZ9) → m_G x Z S4 3 0 0 173 [(0, .ref a0)] [] := by
          intro S4 hf
          rw [ej18] at hf
          refine r_aload_n (q := 174) C 0 dX9_takes_173 rfl rfl ?_
          obtain ⟨g5, hf⟩ := m_gd_of hf
          obtain ⟨b6, e7, hf⟩ := m_b1_of hf
          refine gf_X9_38 (q := 177) C dX9_takes_174 g5 e7 rfl ?_
          refine r_iconst (q := 178) (v := (0 : Int32)) C dX9_takes_177 (by decide) rfl ?_
          refine r_iconst (q := 179) (v := (0 : Int32)) C dX9_takes_178 (by decide) rfl ?_
          obtain ⟨g8, hf⟩ := m_gd_of hf
          obtain ⟨g9, hf⟩ := m_gd_of hf
          obtain ⟨S10, e11, hf⟩ := m_lt_of hf
          refine r_zast (q := 180) C dX9_takes_179 ⟨g8, g9⟩ rfl ?_
          rw [← e11]
          refine r_aload_n (q := 181) C 0 dX9_takes_180 rfl rfl ?_
          obtain ⟨b12, e13, hf⟩ := m_b1_of hf
          refine gf_X9_38 (q := 184) C dX9_takes_181 g5 e13 rfl ?_
          refine r_iconst (q := 185) (v := (1 : Int32)) C dX9_takes_184 (by decide) rfl ?_
          refine r_iconst (q := 186) (v := (0 : Int32)) C dX9_takes_185 (by decide) rfl ?_
          obtain ⟨g14, hf⟩ := m_gd_of hf
          obtain ⟨g15, hf⟩ := m_gd_of hf
          obtain ⟨S16, e17, hf⟩ := m_lt_of hf
          refine r_zast (q := 187) C dX9_takes_186 ⟨g14, g15⟩ rfl ?_
          rw [← e17]
          obtain ⟨rfl, rfl⟩ := m_so2 hf
          exact r_vret C F dX9_takes_187
        have LL24 : ∀ (fu23 : Nat) (v19 : Int32) (S20 : m_S), m_fx (F_X9_takes_76 Z a0 j18) fu23 (v19, S20) = some (rZ9, SZ9) → m_G x Z S20 3 0 0 76 [(0, .ref a0), (1, .int v19)] [] := by
          intro fu23
          induction fu23 with
          | zero => intros; rename_i hf; cases hf
          | succ fu23 ih22 =>
            intro v19 S20 hf
            replace hf : F_X9_takes_76 Z a0 j18 (m_fx (F_X9_takes_76 Z a0 j18) fu23) (v19, S20) = some (rZ9, SZ9) := hf
            unfold F_X9_takes_76 at hf
            dsimp only at hf
            refine r_iload_n (q := 77) C 1 dX9_takes_76 rfl rfl ?_
            refine r_aload_n (q := 78) C 0 dX9_takes_77 rfl rfl ?_
            obtain ⟨g25, hf⟩ := m_gd_of hf
            obtain ⟨b26, e27, hf⟩ := m_b1_of hf
            refine gf_X9_7 (q := 81) C dX9_takes_78 g25 e27 rfl ?_
            refine r_iconst (q := 82) (v := (5 : Int32)) C dX9_takes_81 (by decide) rfl ?_
            obtain ⟨g28, hf⟩ := m_gd_of hf
            obtain ⟨g29, hf⟩ := m_gd_of hf
            refine r_iald (q := 83) C dX9_takes_82 ⟨g28, g29⟩ rfl ?_
            refine r_icmp_ge (t := 173) (q := 86) C dX9_takes_83 (by decide) rfl (fun c30 => ?_) (fun c30 => ?_)
            · replace hf := m_if1 hf c30
              refine r_sub [0] rfl ?_
              exact J18 S20 hf
            · replace hf := m_if0 hf c30
              refine r_iconst (q := 87) (v := (0 : Int32)) C dX9_takes_86 (by decide) rfl ?_
              refine r_istore_n (q := 88) (L' := [(2, .int (0 : Int32)), (0, .ref a0), (1, .int v19)]) C dX9_takes_87 rfl rfl (by decide) rfl ?_
              obtain ⟨j46, ej46, hf⟩ := m_jp_of hf
              have J46 : ∀ (S31 : m_S), j46 S31 = some (rZ9, SZ9) → m_G x Z S31 3 0 0 136 [(0, .ref a0), (1, .int v19)] [] := by
                intro S31 hf
                rw [ej46] at hf
                refine r_aload_n (q := 137) C 0 dX9_takes_136 rfl rfl ?_
                refine r_iload_n (q := 138) C 1 dX9_takes_137 rfl rfl ?_
                refine r_bipush (q := 140) (v := (6 : Int32)) C dX9_takes_138 (by decide) rfl ?_
                refine r_iconst (q := 141) (v := (-1 : Int32)) C dX9_takes_140 (by decide) rfl ?_
                obtain ⟨_u, S33, h32, hf⟩ := m_bw_of hf
                refine r_callV (mc := 0) (ms := 0) (q := 144) (st1 := []) C (c_X9_lays hl h32) rfl w_955 w_956 w_1330 w_11 w_957 hd_X9_lays rfl (by decide) g25 rfl rfl rfl ⟨(Nat.le_of_ble_eq_true rfl), (Nat.le_of_ble_eq_true rfl)⟩ (Nat.le_of_ble_eq_true rfl) ⟨(Nat.le_of_ble_eq_true rfl), (Nat.le_of_ble_eq_true rfl)⟩ dX9_takes_141 rfl rfl ?_
                refine r_aload_n (q := 145) C 0 dX9_takes_144 rfl rfl ?_
                refine r_iload_n (q := 146) C 1 dX9_takes_145 rfl rfl ?_
                refine r_bipush (q := 148) (v := (7 : Int32)) C dX9_takes_146 (by decide) rfl ?_
                refine r_iconst (q := 149) (v := (-1 : Int32)) C dX9_takes_148 (by decide) rfl ?_
                obtain ⟨_u, S35, h34, hf⟩ := m_bw_of hf
                refine r_callV (mc := 0) (ms := 0) (q := 152) (st1 := []) C (c_X9_lays hl h34) rfl w_955 w_956 w_1330 w_11 w_957 hd_X9_lays rfl (by decide) g25 rfl rfl rfl ⟨(Nat.le_of_ble_eq_true rfl), (Nat.le_of_ble_eq_true rfl)⟩ (Nat.le_of_ble_eq_true rfl) ⟨(Nat.le_of_ble_eq_true rfl), (Nat.le_of_ble_eq_true rfl)⟩ dX9_takes_149 rfl rfl ?_
                refine r_aload_n (q := 153) C 0 dX9_takes_152 rfl rfl ?_
                obtain ⟨b36, e37, hf⟩ := m_b1_of hf
                refine gf_X9_28 (q := 156) C dX9_takes_153 g25 e37 rfl ?_
                refine r_iconst (q := 157) (v := (5 : Int32)) C dX9_takes_156 (by decide) rfl ?_
                refine r_iload_n (q := 158) C 1 dX9_takes_157 rfl rfl ?_
                refine r_imul (q := 159) C dX9_takes_158 rfl ?_
                refine r_iconst (q := 160) (v := (1 : Int32)) C dX9_takes_159 (by decide) rfl ?_
                refine r_iadd (q := 161) C dX9_takes_160 rfl ?_
                refine r_aload_n (q := 162) C 0 dX9_takes_161 rfl rfl ?_
                refine r_iload_n (q := 163) C 1 dX9_takes_162 rfl rfl ?_
                obtain ⟨w39, h38, hf⟩ := m_b1_of hf
                refine r_callV (mc := 0) (ms := 0) (q := 166) (st1 := [.long w39, .int (((5 : Int32) * v19) + (1 : Int32)), .ref b36]) C (c_X9_moistureOf hl h38) rfl w_958 w_959 w_1331 w_11 w_960 hd_X9_moistureOf rfl (by decide) g25 rfl rfl rfl ⟨(Nat.le_of_ble_eq_true rfl), (Nat.le_of_ble_eq_true rfl)⟩ (Nat.le_of_ble_eq_true rfl) ⟨(Nat.le_of_ble_eq_true rfl), (Nat.le_of_ble_eq_true rfl)⟩ dX9_takes_163 rfl rfl ?_
                obtain ⟨g40, hf⟩ := m_gd_of hf
                obtain ⟨g41, hf⟩ := m_gd_of hf
                obtain ⟨S42, e43, hf⟩ := m_lt_of hf
                refine r_last (q := 167) C dX9_takes_166 ⟨g40, g41⟩ rfl ?_
                rw [← e43]
                obtain ⟨v44, e45, hf⟩ := m_lt_of hf
                refine r_iinc (q := 170) (v := v44) (L' := [(1, .int v44), (0, .ref a0)]) C 1 dX9_takes_167 rfl (by rw [e45]; rfl) rfl (by decide) rfl ?_
                refine r_goto (t := 76) C dX9_takes_170 (by decide) ?_
                refine r_sub [1, 0] rfl ?_
                exact ih22 v44 S42 hf
              have LL52 : ∀ (fu51 : Nat) (v47 : Int32) (S48 : m_S), m_fx (F_X9_takes_88 Z a0 v19 j46) fu51 (v47, S48) = some (rZ9, SZ9) → m_G x Z S48 3 0 0 88 [(0, .ref a0), (1, .int v19), (2, .int v47)] [] := by
                intro fu51
                induction fu51 with
                | zero => intros; rename_i hf; cases hf
                | succ fu51 ih50 =>
                  intro v47 S48 hf
                  replace hf : F_X9_takes_88 Z a0 v19 j46 (m_fx (F_X9_takes_88 Z a0 v19 j46) fu51) (v47, S48) = some (rZ9, SZ9) := hf
                  unfold F_X9_takes_88 at hf
                  dsimp only at hf
                  refine r_iload_n (q := 89) C 2 dX9_takes_88 rfl rfl ?_
                  refine r_aload_n (q := 90) C 0 dX9_takes_89 rfl rfl ?_
                  refine r_iload_n (q := 91) C 1 dX9_takes_90 rfl rfl ?_
                  refine r_iconst (q := 92) (v := (4 : Int32)) C dX9_takes_91 (by decide) rfl ?_
                  obtain ⟨v54, h53, hf⟩ := m_b1_of hf
                  refine r_callV (mc := 0) (ms := 0) (q := 95) (st1 := [.int v54, .int v47]) C (c_X9_of hl h53) rfl w_937 w_938 w_1325 w_11 w_939 hd_X9_of rfl (by decide) g25 rfl rfl rfl ⟨(Nat.le_of_ble_eq_true rfl), (Nat.le_of_ble_eq_true rfl)⟩ (Nat.le_of_ble_eq_true rfl) ⟨(Nat.le_of_ble_eq_true rfl), (Nat.le_of_ble_eq_true rfl)⟩ dX9_takes_92 rfl rfl ?_
                  refine r_icmp_ge (t := 136) (q := 98) C dX9_takes_95 (by decide) rfl (fun c55 => ?_) (fun c55 => ?_)
                  · replace hf := m_if1 hf c55
                    refine r_sub [0, 1] rfl ?_
                    exact J46 S48 hf
                  · replace hf := m_if0 hf c55
                    refine r_aload_n (q := 99) C 0 dX9_takes_98 rfl rfl ?_
                    refine r_iload_n (q := 100) C 1 dX9_takes_99 rfl rfl ?_
                    refine r_iload_n (q := 101) C 2 dX9_takes_100 rfl rfl ?_
                    refine r_iconst (q := 102) (v := (3 : Int32)) C dX9_takes_101 (by decide) rfl ?_
                    refine r_aload_n (q := 103) C 0 dX9_takes_102 rfl rfl ?_
                    refine r_aload_n (q := 104) C 0 dX9_takes_103 rfl rfl ?_
                    refine r_iload_n (q := 105) C 1 dX9_takes_104 rfl rfl ?_
                    refine r_iload_n (q := 106) C 2 dX9_takes_105 rfl rfl ?_
                    refine r_iconst (q := 107) (v := (1 : Int32)) C dX9_takes_106 (by decide) rfl ?_
                    obtain ⟨v57, h56, hf⟩ := m_b1_of hf
                    refine r_callV (mc := 0) (ms := 0) (q := 110) (st1 := [.int v57, .ref a0, .int (3 : Int32), .int v47, .int v19, .ref a0]) C (c_X9_its hl h56) rfl w_940 w_941 w_1326 w_11 w_942 hd_X9_its rfl (by decide) g25 rfl rfl rfl ⟨(Nat.le_of_ble_eq_true rfl), (Nat.le_of_ble_eq_true rfl)⟩ (Nat.le_of_ble_eq_true rfl) ⟨(Nat.le_of_ble_eq_true rfl), (Nat.le_of_ble_eq_true rfl)⟩ dX9_takes_107 rfl rfl ?_
                    refine r_aload_n (q := 111) C 0 dX9_takes_110 rfl rfl ?_
                    refine r_iload_n (q := 112) C 1 dX9_takes_111 rfl rfl ?_
                    refine r_iload_n (q := 113) C 2 dX9_takes_112 rfl rfl ?_
                    refine r_iconst (q := 114) (v := (2 : Int32)) C dX9_takes_113 (by decide) rfl ?_
                    obtain ⟨v59, h58, hf⟩ := m_b1_of hf
                    refine r_callV (mc := 0) (ms := 0) (q := 117) (st1 := [.int v59, .int v57, .ref a0, .int (3 : Int32), .int v47, .int v19, .ref a0]) C (c_X9_its hl h58) rfl w_940 w_941 w_1326 w_11 w_942 hd_X9_its rfl (by decide) g25 rfl rfl rfl ⟨(Nat.le_of_ble_eq_true rfl), (Nat.le_of_ble_eq_true rfl)⟩ (Nat.le_of_ble_eq_true rfl) ⟨(Nat.le_of_ble_eq_true rfl), (Nat.le_of_ble_eq_true rfl)⟩ dX9_takes_114 rfl rfl ?_
                    refine r_aload_n (q := 118) C 0 dX9_takes_117 rfl rfl ?_
                    refine r_iload_n (q := 119) C 1 dX9_takes_118 rfl rfl ?_
                    refine r_iload_n (q := 120) C 2 dX9_takes_119 rfl rfl ?_
                    refine r_iconst (q := 121) (v := (3 : Int32)) C dX9_takes_120 (by decide) rfl ?_
                    obtain ⟨v61, h60, hf⟩ := m_b1_of hf
                    refine r_callV (mc := 0) (ms := 0) (q := 124) (st1 := [.int v61, .int v59, .int v57, .ref a0, .int (3 : Int32), .int v47, .int v19, .ref a0]) C (c_X9_its hl h60) rfl w_940 w_941 w_1326 w_11 w_942 hd_X9_its rfl (by decide) g25 rfl rfl rfl ⟨(Nat.le_of_ble_eq_true rfl), (Nat.le_of_ble_eq_true rfl)⟩ (Nat.le_of_ble_eq_true rfl) ⟨(Nat.le_of_ble_eq_true rfl), (Nat.le_of_ble_eq_true rfl)⟩ dX9_takes_121 rfl rfl ?_
                    obtain ⟨v63, h62, hf⟩ := m_b1_of hf
                    refine r_callV (mc := 0) (ms := 0) (q := 127) (st1 := [.int v63, .int (3 : Int32), .int v47, .int v19, .ref a0]) C (c_X9_wouldHave hl h62) rfl w_943 w_944 w_1327 w_11 w_945 hd_X9_wouldHave rfl (by decide) g25 rfl rfl rfl ⟨(Nat.le_of_ble_eq_true rfl), (Nat.le_of_ble_eq_true rfl)⟩ (Nat.le_of_ble_eq_true rfl) ⟨(Nat.le_of_ble_eq_true rfl), (Nat.le_of_ble_eq_true rfl)⟩ dX9_takes_124 rfl rfl ?_
                    obtain ⟨_u, S65, h64, hf⟩ := m_bw_of hf
                    refine r_callV (mc := 0) (ms := 0) (q := 130) (st1 := []) C (c_X9_cassettes hl h64) rfl w_952 w_953 w_1329 w_11 w_954 hd_X9_cassettes rfl (by decide) g25 rfl rfl rfl ⟨(Nat.le_of_ble_eq_true rfl), (Nat.le_of_ble_eq_true rfl)⟩ (Nat.le_of_ble_eq_true rfl) ⟨(Nat.le_of_ble_eq_true rfl), (Nat.le_of_ble_eq_true rfl)⟩ dX9_takes_127 rfl rfl ?_
                    obtain ⟨v66, e67, hf⟩ := m_lt_of hf
                    refine r_iinc (q := 133) (v := v66) (L' := [(2, .int v66), (0, .ref a0), (1, .int v19)]) C 2 dX9_takes_130 rfl (by rw [e67]; rfl) rfl (by decide) rfl ?_
                    refine r_goto (t := 88) C dX9_takes_133 (by decide) ?_
                    refine r_sub [1, 2, 0] rfl ?_
                    exact ih50 v66 S65 hf
              refine r_sub [1, 2, 0] rfl ?_
              exact LL52 100000 (0 : Int32) S20 hf
        refine r_sub [1, 0] rfl ?_
        exact LL24 100000 (0 : Int32) S3 hf
      have LL76 : ∀ (fu75 : Nat) (v71 : Int32) (S72 : m_S), m_fx (F_X9_takes_55 Z a0 j70) fu75 (v71, S72) = some (rZ9, SZ9) → m_G x Z S72 3 0 0 55 [(0, .ref a0), (1, .int v71)] [] := by
        intro fu75
        induction fu75 with
        | zero => intros; rename_i hf; cases hf
        | succ fu75 ih74 =>
          intro v71 S72 hf
          replace hf : F_X9_takes_55 Z a0 j70 (m_fx (F_X9_takes_55 Z a0 j70) fu75) (v71, S72) = some (rZ9, SZ9) := hf
          unfold F_X9_takes_55 at hf
          dsimp only at hf
          refine r_iload_n (q := 56) C 1 dX9_takes_55 rfl rfl ?_
          refine r_bipush (q := 58) (v := (30 : Int32)) C dX9_takes_56 (by decide) rfl ?_
          refine r_icmp_ge (t := 74) (q := 61) C dX9_takes_58 (by decide) rfl (fun c77 => ?_) (fun c77 => ?_)
          · replace hf := m_if1 hf c77
            refine r_sub [0] rfl ?_
            exact J70 S72 hf
          · replace hf := m_if0 hf c77
            refine r_aload_n (q := 62) C 0 dX9_takes_61 rfl rfl ?_
            obtain ⟨g78, hf⟩ := m_gd_of hf
            obtain ⟨b79, e80, hf⟩ := m_b1_of hf
            refine gf_X9_28 (q := 65) C dX9_takes_62 g78 e80 rfl ?_
            refine r_iload_n (q := 66) C 1 dX9_takes_65 rfl rfl ?_
            refine r_lconst (q := 67) (v := (0 : Int64)) C dX9_takes_66 (by decide) rfl ?_
            obtain ⟨g81, hf⟩ := m_gd_of hf
            obtain ⟨g82, hf⟩ := m_gd_of hf
            obtain ⟨S83, e84, hf⟩ := m_lt_of hf
            refine r_last (q := 68) C dX9_takes_67 ⟨g81, g82⟩ rfl ?_
            rw [← e84]
            obtain ⟨v85, e86, hf⟩ := m_lt_of hf
            refine r_iinc (q := 71) (v := v85) (L' := [(1, .int v85), (0, .ref a0)]) C 1 dX9_takes_68 rfl (by rw [e86]; rfl) rfl (by decide) rfl ?_
            refine r_goto (t := 55) C dX9_takes_71 (by decide) ?_
            refine r_sub [1, 0] rfl ?_
            exact ih74 v85 S83 hf
      refine r_sub [1, 0] rfl ?_
      exact LL76 100000 (0 : Int32) S2 hf
    have LL94 : ∀ (fu93 : Nat) (v89 : Int32) (S90 : m_S), m_fx (F_X9_takes_28 Z a0 j88) fu93 (v89, S90) = some (rZ9, SZ9) → m_G x Z S90 3 0 0 28 [(0, .ref a0), (1, .int v89)] [] := by
      intro fu93
      induction fu93 with
      | zero => intros; rename_i hf; cases hf
      | succ fu93 ih92 =>
        intro v89 S90 hf
        replace hf : F_X9_takes_28 Z a0 j88 (m_fx (F_X9_takes_28 Z a0 j88) fu93) (v89, S90) = some (rZ9, SZ9) := hf
        unfold F_X9_takes_28 at hf
        dsimp only at hf
        refine r_iload_n (q := 29) C 1 dX9_takes_28 rfl rfl ?_
        refine r_sipush (q := 32) (v := (340 : Int32)) C dX9_takes_29 (by decide) rfl ?_
        refine r_icmp_ge (t := 53) (q := 35) C dX9_takes_32 (by decide) rfl (fun c95 => ?_) (fun c95 => ?_)
        · replace hf := m_if1 hf c95
          refine r_sub [0] rfl ?_
          exact J88 S90 hf
        · replace hf := m_if0 hf c95
          refine r_aload_n (q := 36) C 0 dX9_takes_35 rfl rfl ?_
          obtain ⟨g96, hf⟩ := m_gd_of hf
          obtain ⟨b97, e98, hf⟩ := m_b1_of hf
          refine gf_X9_16 (q := 39) C dX9_takes_36 g96 e98 rfl ?_
          refine r_iload_n (q := 40) C 1 dX9_takes_39 rfl rfl ?_
          refine r_aload_n (q := 41) C 0 dX9_takes_40 rfl rfl ?_
          obtain ⟨b99, e100, hf⟩ := m_b1_of hf
          refine gf_X9_25 (q := 44) C dX9_takes_41 g96 e100 rfl ?_
          refine r_iload_n (q := 45) C 1 dX9_takes_44 rfl rfl ?_
          obtain ⟨g101, hf⟩ := m_gd_of hf
          obtain ⟨g102, hf⟩ := m_gd_of hf
          refine r_iald (q := 46) C dX9_takes_45 ⟨g101, g102⟩ rfl ?_
          obtain ⟨g103, hf⟩ := m_gd_of hf
          obtain ⟨g104, hf⟩ := m_gd_of hf
          obtain ⟨S105, e106, hf⟩ := m_lt_of hf
          refine r_iast (q := 47) C dX9_takes_46 ⟨g103, g104⟩ rfl ?_
          rw [← e106]
          obtain ⟨v107, e108, hf⟩ := m_lt_of hf
          refine r_iinc (q := 50) (v := v107) (L' := [(1, .int v107), (0, .ref a0)]) C 1 dX9_takes_47 rfl (by rw [e108]; rfl) rfl (by decide) rfl ?_
          refine r_goto (t := 28) C dX9_takes_50 (by decide) ?_
          refine r_sub [1, 0] rfl ?_
          exact ih92 v107 S105 hf
    refine r_sub [1, 0] rfl ?_
    exact LL94 100000 (0 : Int32) S1 hf
  have LL116 : ∀ (fu115 : Nat) (v111 : Int32) (S112 : m_S), m_fx (F_X9_takes_2 Z a0 j110) fu115 (v111, S112) = some (rZ9, SZ9) → m_G x Z S112 3 0 0 2 [(0, .ref a0), (1, .int v111)] [] := by
    intro fu115
    induction fu115 with
    | zero => intros; rename_i hf; cases hf
    | succ fu115 ih114 =>
      intro v111 S112 hf
      replace hf : F_X9_takes_2 Z a0 j110 (m_fx (F_X9_takes_2 Z a0 j110) fu115) (v111, S112) = some (rZ9, SZ9) := hf
      unfold F_X9_takes_2 at hf
      dsimp only at hf
      refine r_iload_n (q := 3) C 1 dX9_takes_2 rfl rfl ?_
      refine r_bipush (q := 5) (v := (116 : Int32)) C dX9_takes_3 (by decide) rfl ?_
      refine r_icmp_ge (t := 26) (q := 8) C dX9_takes_5 (by decide) rfl (fun c117 => ?_) (fun c117 => ?_)
      · replace hf := m_if1 hf c117
        refine r_sub [0] rfl ?_
        exact J110 S112 hf
      · replace hf := m_if0 hf c117
        refine r_aload_n (q := 9) C 0 dX9_takes_8 rfl rfl ?_
        obtain ⟨g118, hf⟩ := m_gd_of hf
        obtain ⟨b119, e120, hf⟩ := m_b1_of hf
        refine gf_X9_7 (q := 12) C dX9_takes_9 g118 e120 rfl ?_
        refine r_iload_n (q := 13) C 1 dX9_takes_12 rfl rfl ?_
        refine r_aload_n (q := 14) C 0 dX9_takes_13 rfl rfl ?_
        obtain ⟨b121, e122, hf⟩ := m_b1_of hf
        refine gf_X9_13 (q := 17) C dX9_takes_14 g118 e122 rfl ?_
        refine r_iload_n (q := 18) C 1 dX9_takes_17 rfl rfl ?_
        obtain ⟨g123, hf⟩ := m_gd_of hf
        obtain ⟨g124, hf⟩ := m_gd_of hf
        refine r_iald (q := 19) C dX9_takes_18 ⟨g123, g124⟩ rfl ?_
        obtain ⟨g125, hf⟩ := m_gd_of hf
        obtain ⟨g126, hf⟩ := m_gd_of hf
        obtain ⟨S127, e128, hf⟩ := m_lt_of hf
        refine r_iast (q := 20) C dX9_takes_19 ⟨g125, g126⟩ rfl ?_
        rw [← e128]
        obtain ⟨v129, e130, hf⟩ := m_lt_of hf
        refine r_iinc (q := 23) (v := v129) (L' := [(1, .int v129), (0, .ref a0)]) C 1 dX9_takes_20 rfl (by rw [e130]; rfl) rfl (by decide) rfl ?_
        refine r_goto (t := 2) C dX9_takes_23 (by decide) ?_
        refine r_sub [1, 0] rfl ?_
        exact ih114 v129 S127 hf
  refine r_sub [1, 0] rfl ?_
  exact LL116 100000 (0 : Int32) S hf
def f_X9_load (Z : m_Z) (S : m_S) (a0 : Nat) : Option (Int32 × m_S) := m_gd (m_ok Z a0 9) (m_lt (m_pI S a0 0 (0 : Int32)) (fun S2 => m_lt (m_pI S2 a0 13 (S2.1 a0 12)) (fun S4 => m_lt (m_pI S4 a0 12 (0 : Int32)) (fun S6 => m_lt (m_pI S6 a0 14 (0 : Int32)) (fun S8 => m_lt (m_pI S8 a0 18 (0 : Int32)) (fun S10 => m_lt (m_pI S10 a0 19 (-1 : Int32)) (fun S12 => m_bw (f_X9_plain Z S12 a0) (fun _u S15 => m_bw (f_X9_token Z S15 a0) (fun _u S17 => m_bw (f_X9_reads Z S17 a0) (fun _u S19 => m_b1 (f_X9_isWrong Z S19 a0) (fun v21 => m_jp (fun (v23 : Int32) => m_bw (f_X9_may Z S19 a0 v23 (1 : Int32)) (fun v26 S25 => (if ¬ v26 = 0 then m_bw (f_X9_takes Z S25 a0) (fun _u S29 => m_b1 (S29.2.2 a0 1) (fun b30 => m_gd (m_ok Z b30 11) (m_gd (m_in (5 : Int32) (Z.2.2 b30)) (some ((S29.1 b30 (5 : Int32).toNatClampNeg), S29))))) else some ((0 : Int32), S25)))) (fun j22 => (if ¬ v21 = 0 then j22 (0 : Int32) else j22 (1 : Int32))))))))))))))
abbrev rm_X9_load : Room := { frames := 8, cells := 0, slots := 0, locals := 206 }
theorem hd_X9_load : yX9_load.cls = RX9 ∧ yX9_load.cls ≠ "java/lang/invoke/MethodHandle" ∧ yX9_load.cls ≠ "java/lang/invoke/VarHandle" ∧ (parseMethodDescriptor yX9_load.desc).map (fun d => d.parameters.length) = some 0 := by decide +kernel
set_option maxHeartbeats 4000000 in
set_option maxRecDepth 100000 in
theorem c_X9_load {l : Launch} (hl : l.stackTraces = false) {Z : m_Z} {S : m_S} {a0 : Nat} {rZ9 : Int32} {SZ9 : m_S} (hf : f_X9_load Z S a0 = some (rZ9, SZ9)) : m_Ct l yX9_load (.code yX9_load cX9_load 1 (some .int) :: m_ws) rm_X9_load (fun f => [.ref a0]) Z S (some (.int rZ9)) SZ9 := by
  unfold f_X9_load at hf
  refine m_ent hl (by decide) (fun _ => Nat.le_of_ble_eq_true rfl) (fun x C F => ?_)
  have C : m_H x l RX9 cX9_load 1 rm_X9_load := C
  show m_G x Z S 1 0 0 0 [(0, .ref a0)] []
  refine r_aload_n (q := 1) C 0 dX9_load_0 rfl rfl ?_
  refine r_iconst (q := 2) (v := (0 : Int32)) C dX9_load_1 (by decide) rfl ?_
  obtain ⟨g1, hf⟩ := m_gd_of hf
  obtain ⟨S2, e3, hf⟩ := m_lt_of hf
  refine pf_X9_61 (q := 5) C dX9_load_2 g1 e3 rfl ?_
  refine r_aload_n (q := 6) C 0 dX9_load_5 rfl rfl ?_
  refine r_aload_n (q := 7) C 0 dX9_load_6 rfl rfl ?_
  refine gf_X9_87 (q := 10) C dX9_load_7 g1 rfl ?_
  obtain ⟨S4, e5, hf⟩ := m_lt_of hf
  refine pf_X9_98 (q := 13) C dX9_load_10 g1 e5 rfl ?_
  refine r_aload_n (q := 14) C 0 dX9_load_13 rfl rfl ?_
  refine r_iconst (q := 15) (v := (0 : Int32)) C dX9_load_14 (by decide) rfl ?_
  obtain ⟨S6, e7, hf⟩ := m_lt_of hf
  refine pf_X9_87 (q := 18) C dX9_load_15 g1 e7 rfl ?_
  refine r_aload_n (q := 19) C 0 dX9_load_18 rfl rfl ?_
  refine r_iconst (q := 20) (v := (0 : Int32)) C dX9_load_19 (by decide) rfl ?_
  obtain ⟨S8, e9, hf⟩ := m_lt_of hf
  refine pf_X9_101 (q := 23) C dX9_load_20 g1 e9 rfl ?_
  refine r_aload_n (q := 24) C 0 dX9_load_23 rfl rfl ?_
  refine r_iconst (q := 25) (v := (0 : Int32)) C dX9_load_24 (by decide) rfl ?_
  obtain ⟨S10, e11, hf⟩ := m_lt_of hf
  refine pf_X9_132 (q := 28) C dX9_load_25 g1 e11 rfl ?_
  refine r_aload_n (q := 29) C 0 dX9_load_28 rfl rfl ?_
  refine r_iconst (q := 30) (v := (-1 : Int32)) C dX9_load_29 (by decide) rfl ?_
  obtain ⟨S12, e13, hf⟩ := m_lt_of hf
  refine pf_X9_45 (q := 33) C dX9_load_30 g1 e13 rfl ?_
  refine r_aload_n (q := 34) C 0 dX9_load_33 rfl rfl ?_
  obtain ⟨_u, S15, h14, hf⟩ := m_bw_of hf
  refine r_callV (mc := 0) (ms := 0) (q := 37) (st1 := []) C (c_X9_plain hl h14) rfl w_931 w_932 w_1323 w_11 w_933 hd_X9_plain rfl (by decide) g1 rfl rfl rfl ⟨(Nat.le_of_ble_eq_true rfl), (Nat.le_of_ble_eq_true rfl)⟩ (Nat.le_of_ble_eq_true rfl) ⟨(Nat.le_of_ble_eq_true rfl), (Nat.le_of_ble_eq_true rfl)⟩ dX9_load_34 rfl rfl ?_
  refine r_aload_n (q := 38) C 0 dX9_load_37 rfl rfl ?_
  obtain ⟨_u, S17, h16, hf⟩ := m_bw_of hf
  refine r_callV (mc := 0) (ms := 0) (q := 41) (st1 := []) C (c_X9_token hl h16) rfl w_1038 w_1039 w_1334 w_11 w_1040 hd_X9_token rfl (by decide) g1 rfl rfl rfl ⟨(Nat.le_of_ble_eq_true rfl), (Nat.le_of_ble_eq_true rfl)⟩ (Nat.le_of_ble_eq_true rfl) ⟨(Nat.le_of_ble_eq_true rfl), (Nat.le_of_ble_eq_true rfl)⟩ dX9_load_38 rfl rfl ?_
  refine r_aload_n (q := 42) C 0 dX9_load_41 rfl rfl ?_
  obtain ⟨_u, S19, h18, hf⟩ := m_bw_of hf
  refine r_callV (mc := 0) (ms := 0) (q := 45) (st1 := []) C (c_X9_reads hl h18) rfl w_1052 w_1053 w_1336 w_11 w_1054 hd_X9_reads rfl (by decide) g1 rfl rfl rfl ⟨(Nat.le_of_ble_eq_true rfl), (Nat.le_of_ble_eq_true rfl)⟩ (Nat.le_of_ble_eq_true rfl) ⟨(Nat.le_of_ble_eq_true rfl), (Nat.le_of_ble_eq_true rfl)⟩ dX9_load_42 rfl rfl ?_
  refine r_aload_n (q := 46) C 0 dX9_load_45 rfl rfl ?_
  refine r_aload_n (q := 47) C 0 dX9_load_46 rfl rfl ?_
  obtain ⟨v21, h20, hf⟩ := m_b1_of hf
  refine r_callV (mc := 0) (ms := 0) (q := 50) (st1 := [.int v21, .ref a0]) C (c_X9_isWrong hl h20) rfl w_1061 w_1062 w_1339 w_11 w_1063 hd_X9_isWrong rfl (by decide) g1 rfl rfl rfl ⟨(Nat.le_of_ble_eq_true rfl), (Nat.le_of_ble_eq_true rfl)⟩ (Nat.le_of_ble_eq_true rfl) ⟨(Nat.le_of_ble_eq_true rfl), (Nat.le_of_ble_eq_true rfl)⟩ dX9_load_47 rfl rfl ?_
  obtain ⟨j22, ej22, hf⟩ := m_jp_of hf
  have J22 : ∀ (v23 : Int32), j22 v23 = some (rZ9, SZ9) → m_G x Z S19 1 0 0 58 [(0, .ref a0)] [.int v23, .ref a0] := by
    intro v23 hf
    rw [ej22] at hf
    refine r_iconst (q := 59) (v := (1 : Int32)) C dX9_load_58 (by decide) rfl ?_
    obtain ⟨v26, S25, h24, hf⟩ := m_bw_of hf
    refine r_callV (mc := 0) (ms := 0) (q := 62) (st1 := [.int v26]) C (c_X9_may hl h24) rfl w_1024 w_1025 w_1333 w_11 w_1026 hd_X9_may rfl (by decide) g1 rfl rfl rfl ⟨(Nat.le_of_ble_eq_true rfl), (Nat.le_of_ble_eq_true rfl)⟩ (Nat.le_of_ble_eq_true rfl) ⟨(Nat.le_of_ble_eq_true rfl), (Nat.le_of_ble_eq_true rfl)⟩ dX9_load_59 rfl rfl ?_
    refine r_if_ne (t := 67) (q := 65) C dX9_load_62 (by decide) rfl (fun c27 => ?_) (fun c27 => ?_)
    · replace hf := m_if1 hf c27
      refine r_aload_n (q := 68) C 0 dX9_load_67 rfl rfl ?_
      obtain ⟨_u, S29, h28, hf⟩ := m_bw_of hf
      refine r_callV (mc := 0) (ms := 0) (q := 71) (st1 := []) C (c_X9_takes hl h28) rfl w_934 w_935 w_1324 w_11 w_936 hd_X9_takes rfl (by decide) g1 rfl rfl rfl ⟨(Nat.le_of_ble_eq_true rfl), (Nat.le_of_ble_eq_true rfl)⟩ (Nat.le_of_ble_eq_true rfl) ⟨(Nat.le_of_ble_eq_true rfl), (Nat.le_of_ble_eq_true rfl)⟩ dX9_load_68 rfl rfl ?_
      refine r_aload_n (q := 72) C 0 dX9_load_71 rfl rfl ?_
      obtain ⟨b30, e31, hf⟩ := m_b1_of hf
      refine gf_X9_7 (q := 75) C dX9_load_72 g1 e31 rfl ?_
      refine r_iconst (q := 76) (v := (5 : Int32)) C dX9_load_75 (by decide) rfl ?_
      obtain ⟨g32, hf⟩ := m_gd_of hf
      obtain ⟨g33, hf⟩ := m_gd_of hf
      refine r_iald (q := 77) C dX9_load_76 ⟨g32, g33⟩ rfl ?_
      obtain ⟨rfl, rfl⟩ := m_so2 hf
      exact r_iret C F dX9_load_77
    · replace hf := m_if0 hf (fun z => z c27)
      refine r_iconst (q := 66) (v := (0 : Int32)) C dX9_load_65 (by decide) rfl ?_
      obtain ⟨rfl, rfl⟩ := m_so2 hf
      exact r_iret C F dX9_load_66
  refine r_if_ne (t := 57) (q := 53) C dX9_load_50 (by decide) rfl (fun c34 => ?_) (fun c34 => ?_)
  · replace hf := m_if1 hf c34
    refine r_iconst (q := 58) (v := (0 : Int32)) C dX9_load_57 (by decide) rfl ?_
    exact J22 (0 : Int32) hf
  · replace hf := m_if0 hf (fun z => z c34)
    refine r_iconst (q := 54) (v := (1 : Int32)) C dX9_load_53 (by decide) rfl ?_
    refine r_goto (t := 58) C dX9_load_54 (by decide) ?_
    exact J22 (1 : Int32) hf
def F_X9_massFor_81 (Z : m_Z) (a0 : Nat) (p1 : Int32) (p2 : Int32) (p3 : Int32) (p4 : Int32) (j33 : (Int32 → m_S → Option (Int32 × m_S))) (lp37 : (Int32 × Int32 × m_S) → Option (Int32 × m_S)) (p69 : (Int32 × Int32 × m_S)) : Option (Int32 × m_S) := match p69 with
  | (v34, v35, S36) => (if (999 : Int32) ≤ v34 then j33 v34 S36 else (if ¬ v35 = 0 then j33 v34 S36 else m_lt (v34 + (1 : Int32)) (fun v43 => m_b1 (S36.2.2 a0 3) (fun b45 => m_gd (m_ok Z b45 11) (m_gd (m_in (3 : Int32) (Z.2.2 b45)) (m_b1 (f_X9_wouldHave Z S36 a0 p2 v43 p3) (fun v50 => m_bw (f_X9_addsTo Z S36 a0 p1 (S36.1 b45 (3 : Int32).toNatClampNeg) p2 v43 v50) (fun _u S52 => m_bw (f_X9_hours Z S52 a0 p4 p1 p1) (fun v55 S54 => m_jp (fun (v57 : Int32) => m_bw (f_X9_bringsBack Z S54 a0) (fun _u S59 => (if ¬ v43 = (999 : Int32) then m_lt (v43 + (0 : Int32)) (fun v61 => lp37 (v61, v57, S59)) else (if ¬ v57 = 0 then m_lt (v43 + (0 : Int32)) (fun v64 => lp37 (v64, v57, S59)) else m_lt (v43 + (1 : Int32)) (fun v66 => lp37 (v66, v57, S59)))))) (fun j56 => (if ¬ v55 = 0 then j56 (0 : Int32) else j56 (1 : Int32))))))))))))
def f_X9_massFor (Z : m_Z) (S : m_S) (a0 : Nat) (p1 : Int32) (p2 : Int32) (p3 : Int32) (p4 : Int32) : Option (Int32 × m_S) := m_gd (m_ok Z a0 9) (m_lt (m_pI S a0 0 (0 : Int32)) (fun S2 => m_b1 (f_X9_isCase Z S2 a0 p1) (fun v5 => m_jp (fun (v7 : Int32) => m_bw (f_X9_may Z S2 a0 v7 (1 : Int32)) (fun v10 S9 => (if v10 = 0 then some ((0 : Int32), S9) else m_b1 (f_X9_isIn Z S9 p3 (0 : Int32) (1000 : Int32)) (fun v13 => m_jp (fun (v15 : Int32) => m_bw (f_X9_may Z S9 a0 v15 (2 : Int32)) (fun v18 S17 => (if ¬ v18 = 0 then m_bw (f_X9_setsAside Z S17 a0) (fun _u S21 => m_jp (fun (v22 : Int32) (S23 : m_S) => (if (999 : Int32) < v22 then m_bw (f_X9_may Z S23 a0 (0 : Int32) (3 : Int32)) (fun v27 S26 => (if v27 = 0 then some ((0 : Int32), S26) else some (v22, S26))) else m_bw (f_X9_may Z S23 a0 (1 : Int32) (3 : Int32)) (fun v31 S30 => (if v31 = 0 then some ((0 : Int32), S30) else some (v22, S30))))) (fun j33 => m_fx (F_X9_massFor_81 Z a0 p1 p2 p3 p4 j33) 100000 ((0 : Int32), (0 : Int32), S21))) else some ((0 : Int32), S17)))) (fun j14 => m_jp (fun (_ : Unit) => j14 (0 : Int32)) (fun j70 => (if v13 = 0 then j70 () else m_b1 (f_X9_isIn Z S9 p4 (1 : Int32) (72 : Int32)) (fun v73 => (if v73 = 0 then j70 () else j14 (1 : Int32)))))))))) (fun j6 => m_jp (fun (_ : Unit) => j6 (0 : Int32)) (fun j75 => (if v5 = 0 then j75 () else m_b1 (f_X9_isKind Z S2 a0 p2) (fun v78 => (if v78 = 0 then j75 () else j6 (1 : Int32)))))))))
abbrev rm_X9_massFor : Room := { frames := 6, cells := 0, slots := 0, locals := 147 }
theorem hd_X9_massFor : yX9_massFor.cls = RX9 ∧ yX9_massFor.cls ≠ "java/lang/invoke/MethodHandle" ∧ yX9_massFor.cls ≠ "java/lang/invoke/VarHandle" ∧ (parseMethodDescriptor yX9_massFor.desc).map (fun d => d.parameters.length) = some 4 := by decide +kernel
set_option maxHeartbeats 4000000 in
set_option maxRecDepth 100000 in
theorem c_X9_massFor {l : Launch} (hl : l.stackTraces = false) {Z : m_Z} {S : m_S} {a0 : Nat} {p1 : Int32} {p2 : Int32} {p3 : Int32} {p4 : Int32} {rZ9 : Int32} {SZ9 : m_S} (hf : f_X9_massFor Z S a0 p1 p2 p3 p4 = some (rZ9, SZ9)) : m_Ct l yX9_massFor (.code yX9_massFor cX9_massFor 7 (some .int) :: m_ws) rm_X9_massFor (fun f => [.ref a0, .int p1, .int p2, .int p3, .int p4]) Z S (some (.int rZ9)) SZ9 := by
  unfold f_X9_massFor at hf
  refine m_ent hl (by decide) (fun _ => Nat.le_of_ble_eq_true rfl) (fun x C F => ?_)
  have C : m_H x l RX9 cX9_massFor 7 rm_X9_massFor := C
  show m_G x Z S 7 0 0 0 [(0, .ref a0), (1, .int p1), (2, .int p2), (3, .int p3), (4, .int p4)] []
  refine r_aload_n (q := 1) C 0 dX9_massFor_0 rfl rfl ?_
  refine r_iconst (q := 2) (v := (0 : Int32)) C dX9_massFor_1 (by decide) rfl ?_
  obtain ⟨g1, hf⟩ := m_gd_of hf
  obtain ⟨S2, e3, hf⟩ := m_lt_of hf
  refine pf_X9_61 (q := 5) C dX9_massFor_2 g1 e3 rfl ?_
  refine r_aload_n (q := 6) C 0 dX9_massFor_5 rfl rfl ?_
  refine r_aload_n (q := 7) C 0 dX9_massFor_6 rfl rfl ?_
  refine r_iload_n (q := 8) C 1 dX9_massFor_7 rfl rfl ?_
  obtain ⟨v5, h4, hf⟩ := m_b1_of hf
  refine r_callV (mc := 0) (ms := 0) (q := 11) (st1 := [.int v5, .ref a0]) C (c_X9_isCase hl h4) rfl w_1146 w_1147 w_1356 w_11 w_1148 hd_X9_isCase rfl (by decide) g1 rfl rfl rfl ⟨(Nat.le_of_ble_eq_true rfl), (Nat.le_of_ble_eq_true rfl)⟩ (Nat.le_of_ble_eq_true rfl) ⟨(Nat.le_of_ble_eq_true rfl), (Nat.le_of_ble_eq_true rfl)⟩ dX9_massFor_8 rfl rfl ?_
  obtain ⟨j6, ej6, hf⟩ := m_jp_of hf
  have J6 : ∀ (v7 : Int32), j6 v7 = some (rZ9, SZ9) → m_G x Z S2 7 0 0 27 [(0, .ref a0), (1, .int p1), (2, .int p2), (3, .int p3), (4, .int p4)] [.int v7, .ref a0] := by
    intro v7 hf
    rw [ej6] at hf
    refine r_iconst (q := 28) (v := (1 : Int32)) C dX9_massFor_27 (by decide) rfl ?_
    obtain ⟨v10, S9, h8, hf⟩ := m_bw_of hf
    refine r_callV (mc := 0) (ms := 0) (q := 31) (st1 := [.int v10]) C (c_X9_may hl h8) rfl w_1024 w_1025 w_1333 w_11 w_1026 hd_X9_may rfl (by decide) g1 rfl rfl rfl ⟨(Nat.le_of_ble_eq_true rfl), (Nat.le_of_ble_eq_true rfl)⟩ (Nat.le_of_ble_eq_true rfl) ⟨(Nat.le_of_ble_eq_true rfl), (Nat.le_of_ble_eq_true rfl)⟩ dX9_massFor_28 rfl rfl ?_
    refine r_if_eq (t := 69) (q := 34) C dX9_massFor_31 (by decide) rfl (fun c11 => ?_) (fun c11 => ?_)
    · replace hf := m_if1 hf c11
      refine r_iconst (q := 70) (v := (0 : Int32)) C dX9_massFor_69 (by decide) rfl ?_
      obtain ⟨rfl, rfl⟩ := m_so2 hf
      exact r_iret C F dX9_massFor_70
    · replace hf := m_if0 hf c11
      refine r_aload_n (q := 35) C 0 dX9_massFor_34 rfl rfl ?_
      refine r_iload_n (q := 36) C 3 dX9_massFor_35 rfl rfl ?_
      refine r_iconst (q := 37) (v := (0 : Int32)) C dX9_massFor_36 (by decide) rfl ?_
      refine r_sipush (q := 40) (v := (1000 : Int32)) C dX9_massFor_37 (by decide) rfl ?_
      obtain ⟨v13, h12, hf⟩ := m_b1_of hf
      refine r_callS (mc := 0) (ms := 0) (q := 43) (st1 := [.int v13, .ref a0]) C (c_X9_isIn hl h12) rfl w_1031 w_1032 w_11 w_1033 hd_X9_isIn rfl rfl rfl ⟨(Nat.le_of_ble_eq_true rfl), (Nat.le_of_ble_eq_true rfl)⟩ (Nat.le_of_ble_eq_true rfl) ⟨(Nat.le_of_ble_eq_true rfl), (Nat.le_of_ble_eq_true rfl)⟩ dX9_massFor_40 rfl rfl ?_
      obtain ⟨j14, ej14, hf⟩ := m_jp_of hf
      have J14 : ∀ (v15 : Int32), j14 v15 = some (rZ9, SZ9) → m_G x Z S9 7 0 0 62 [(0, .ref a0), (1, .int p1), (2, .int p2), (3, .int p3), (4, .int p4)] [.int v15, .ref a0] := by
        intro v15 hf
        rw [ej14] at hf
        refine r_iconst (q := 63) (v := (2 : Int32)) C dX9_massFor_62 (by decide) rfl ?_
        obtain ⟨v18, S17, h16, hf⟩ := m_bw_of hf
        refine r_callV (mc := 0) (ms := 0) (q := 66) (st1 := [.int v18]) C (c_X9_may hl h16) rfl w_1024 w_1025 w_1333 w_11 w_1026 hd_X9_may rfl (by decide) g1 rfl rfl rfl ⟨(Nat.le_of_ble_eq_true rfl), (Nat.le_of_ble_eq_true rfl)⟩ (Nat.le_of_ble_eq_true rfl) ⟨(Nat.le_of_ble_eq_true rfl), (Nat.le_of_ble_eq_true rfl)⟩ dX9_massFor_63 rfl rfl ?_
        refine r_if_ne (t := 71) (q := 69) C dX9_massFor_66 (by decide) rfl (fun c19 => ?_) (fun c19 => ?_)
        · replace hf := m_if1 hf c19
          refine r_aload_n (q := 72) C 0 dX9_massFor_71 rfl rfl ?_
          obtain ⟨_u, S21, h20, hf⟩ := m_bw_of hf
          refine r_callV (mc := 0) (ms := 0) (q := 75) (st1 := []) C (c_X9_setsAside hl h20) rfl w_1258 w_1259 w_1371 w_11 w_1260 hd_X9_setsAside rfl (by decide) g1 rfl rfl rfl ⟨(Nat.le_of_ble_eq_true rfl), (Nat.le_of_ble_eq_true rfl)⟩ (Nat.le_of_ble_eq_true rfl) ⟨(Nat.le_of_ble_eq_true rfl), (Nat.le_of_ble_eq_true rfl)⟩ dX9_massFor_72 rfl rfl ?_
          refine r_iconst (q := 76) (v := (0 : Int32)) C dX9_massFor_75 (by decide) rfl ?_
          refine r_istore (q := 78) (L' := [(5, .int (0 : Int32)), (0, .ref a0), (1, .int p1), (2, .int p2), (3, .int p3), (4, .int p4)]) C dX9_massFor_76 rfl (by decide) rfl ?_
          refine r_iconst (q := 79) (v := (0 : Int32)) C dX9_massFor_78 (by decide) rfl ?_
          refine r_istore (q := 81) (L' := [(6, .int (0 : Int32)), (5, .int (0 : Int32)), (0, .ref a0), (1, .int p1), (2, .int p2), (3, .int p3), (4, .int p4)]) C dX9_massFor_79 rfl (by decide) rfl ?_
          obtain ⟨j33, ej33, hf⟩ := m_jp_of hf
          have J33 : ∀ (v22 : Int32) (S23 : m_S), j33 v22 S23 = some (rZ9, SZ9) → m_G x Z S23 7 0 0 167 [(0, .ref a0), (5, .int v22)] [] := by
            intro v22 S23 hf
            rw [ej33] at hf
            refine r_aload_n (q := 168) C 0 dX9_massFor_167 rfl rfl ?_
            refine r_iload (q := 170) C 1 dX9_massFor_168 rfl rfl ?_
            refine r_sipush (q := 173) (v := (999 : Int32)) C dX9_massFor_170 (by decide) rfl ?_
            refine r_icmp_gt (t := 180) (q := 176) C dX9_massFor_173 (by decide) rfl (fun c24 => ?_) (fun c24 => ?_)
            · replace hf := m_if1 hf c24
              refine r_iconst (q := 181) (v := (0 : Int32)) C dX9_massFor_180 (by decide) rfl ?_
              refine r_iconst (q := 182) (v := (3 : Int32)) C dX9_massFor_181 (by decide) rfl ?_
              obtain ⟨v27, S26, h25, hf⟩ := m_bw_of hf
              refine r_callV (mc := 0) (ms := 0) (q := 185) (st1 := [.int v27]) C (c_X9_may hl h25) rfl w_1024 w_1025 w_1333 w_11 w_1026 hd_X9_may rfl (by decide) g1 rfl rfl rfl ⟨(Nat.le_of_ble_eq_true rfl), (Nat.le_of_ble_eq_true rfl)⟩ (Nat.le_of_ble_eq_true rfl) ⟨(Nat.le_of_ble_eq_true rfl), (Nat.le_of_ble_eq_true rfl)⟩ dX9_massFor_182 rfl rfl ?_
              refine r_if_eq (t := 193) (q := 188) C dX9_massFor_185 (by decide) rfl (fun c28 => ?_) (fun c28 => ?_)
              · replace hf := m_if1 hf c28
                refine r_iconst (q := 194) (v := (0 : Int32)) C dX9_massFor_193 (by decide) rfl ?_
                obtain ⟨rfl, rfl⟩ := m_so2 hf
                exact r_iret C F dX9_massFor_194
              · replace hf := m_if0 hf c28
                refine r_iload (q := 190) C 1 dX9_massFor_188 rfl rfl ?_
                refine r_goto (t := 194) C dX9_massFor_190 (by decide) ?_
                obtain ⟨rfl, rfl⟩ := m_so2 hf
                exact r_iret C F dX9_massFor_194
            · replace hf := m_if0 hf c24
              refine r_iconst (q := 177) (v := (1 : Int32)) C dX9_massFor_176 (by decide) rfl ?_
              refine r_goto (t := 181) C dX9_massFor_177 (by decide) ?_
              refine r_iconst (q := 182) (v := (3 : Int32)) C dX9_massFor_181 (by decide) rfl ?_
              obtain ⟨v31, S30, h29, hf⟩ := m_bw_of hf
              refine r_callV (mc := 0) (ms := 0) (q := 185) (st1 := [.int v31]) C (c_X9_may hl h29) rfl w_1024 w_1025 w_1333 w_11 w_1026 hd_X9_may rfl (by decide) g1 rfl rfl rfl ⟨(Nat.le_of_ble_eq_true rfl), (Nat.le_of_ble_eq_true rfl)⟩ (Nat.le_of_ble_eq_true rfl) ⟨(Nat.le_of_ble_eq_true rfl), (Nat.le_of_ble_eq_true rfl)⟩ dX9_massFor_182 rfl rfl ?_
              refine r_if_eq (t := 193) (q := 188) C dX9_massFor_185 (by decide) rfl (fun c32 => ?_) (fun c32 => ?_)
              · replace hf := m_if1 hf c32
                refine r_iconst (q := 194) (v := (0 : Int32)) C dX9_massFor_193 (by decide) rfl ?_
                obtain ⟨rfl, rfl⟩ := m_so2 hf
                exact r_iret C F dX9_massFor_194
              · replace hf := m_if0 hf c32
                refine r_iload (q := 190) C 1 dX9_massFor_188 rfl rfl ?_
                refine r_goto (t := 194) C dX9_massFor_190 (by decide) ?_
                obtain ⟨rfl, rfl⟩ := m_so2 hf
                exact r_iret C F dX9_massFor_194
          have LL40 : ∀ (fu39 : Nat) (v34 : Int32) (v35 : Int32) (S36 : m_S), m_fx (F_X9_massFor_81 Z a0 p1 p2 p3 p4 j33) fu39 (v34, v35, S36) = some (rZ9, SZ9) → m_G x Z S36 7 0 0 81 [(0, .ref a0), (1, .int p1), (2, .int p2), (3, .int p3), (4, .int p4), (5, .int v34), (6, .int v35)] [] := by
            intro fu39
            induction fu39 with
            | zero => intros; rename_i hf; cases hf
            | succ fu39 ih38 =>
              intro v34 v35 S36 hf
              replace hf : F_X9_massFor_81 Z a0 p1 p2 p3 p4 j33 (m_fx (F_X9_massFor_81 Z a0 p1 p2 p3 p4 j33) fu39) (v34, v35, S36) = some (rZ9, SZ9) := hf
              unfold F_X9_massFor_81 at hf
              dsimp only at hf
              refine r_iload (q := 83) C 5 dX9_massFor_81 rfl rfl ?_
              refine r_sipush (q := 86) (v := (999 : Int32)) C dX9_massFor_83 (by decide) rfl ?_
              refine r_icmp_ge (t := 167) (q := 89) C dX9_massFor_86 (by decide) rfl (fun c41 => ?_) (fun c41 => ?_)
              · replace hf := m_if1 hf c41
                refine r_sub [0, 5] rfl ?_
                exact J33 v34 S36 hf
              · replace hf := m_if0 hf c41
                refine r_iload (q := 91) C 6 dX9_massFor_89 rfl rfl ?_
                refine r_if_ne (t := 167) (q := 94) C dX9_massFor_91 (by decide) rfl (fun c42 => ?_) (fun c42 => ?_)
                · replace hf := m_if1 hf c42
                  refine r_sub [0, 5] rfl ?_
                  exact J33 v34 S36 hf
                · replace hf := m_if0 hf (fun z => z c42)
                  obtain ⟨v43, e44, hf⟩ := m_lt_of hf
                  refine r_iinc (q := 97) (v := v43) (L' := [(5, .int v43), (0, .ref a0), (1, .int p1), (2, .int p2), (3, .int p3), (4, .int p4), (6, .int v35)]) C 5 dX9_massFor_94 rfl (by rw [e44]; rfl) rfl (by decide) rfl ?_
                  refine r_aload_n (q := 98) C 1 dX9_massFor_97 rfl rfl ?_
                  refine r_iload_n (q := 99) C 2 dX9_massFor_98 rfl rfl ?_
                  refine r_aload_n (q := 100) C 1 dX9_massFor_99 rfl rfl ?_
                  obtain ⟨b45, e46, hf⟩ := m_b1_of hf
                  refine gf_X9_16 (q := 103) C dX9_massFor_100 g1 e46 rfl ?_
                  refine r_iconst (q := 104) (v := (3 : Int32)) C dX9_massFor_103 (by decide) rfl ?_
                  obtain ⟨g47, hf⟩ := m_gd_of hf
                  obtain ⟨g48, hf⟩ := m_gd_of hf
                  refine r_iald (q := 105) C dX9_massFor_104 ⟨g47, g48⟩ rfl ?_
                  refine r_iload_n (q := 106) C 3 dX9_massFor_105 rfl rfl ?_
                  refine r_iload (q := 108) C 0 dX9_massFor_106 rfl rfl ?_
                  refine r_aload_n (q := 109) C 1 dX9_massFor_108 rfl rfl ?_
                  refine r_iload_n (q := 110) C 3 dX9_massFor_109 rfl rfl ?_
                  refine r_iload (q := 112) C 0 dX9_massFor_110 rfl rfl ?_
                  refine r_iload_n (q := 113) C 4 dX9_massFor_112 rfl rfl ?_
                  obtain ⟨v50, h49, hf⟩ := m_b1_of hf
                  refine r_callV (mc := 0) (ms := 0) (q := 116) (st1 := [.int v50, .int v43, .int p2, .int (S36.1 b45 (3 : Int32).toNatClampNeg), .int p1, .ref a0]) C (c_X9_wouldHave hl h49) rfl w_943 w_944 w_1327 w_11 w_945 hd_X9_wouldHave rfl (by decide) g1 rfl rfl rfl ⟨(Nat.le_of_ble_eq_true rfl), (Nat.le_of_ble_eq_true rfl)⟩ (Nat.le_of_ble_eq_true rfl) ⟨(Nat.le_of_ble_eq_true rfl), (Nat.le_of_ble_eq_true rfl)⟩ dX9_massFor_113 rfl rfl ?_
                  obtain ⟨_u, S52, h51, hf⟩ := m_bw_of hf
                  refine r_callV (mc := 0) (ms := 0) (q := 119) (st1 := []) C (c_X9_addsTo hl h51) rfl w_1212 w_1213 w_1363 w_11 w_1214 hd_X9_addsTo rfl (by decide) g1 rfl rfl rfl ⟨(Nat.le_of_ble_eq_true rfl), (Nat.le_of_ble_eq_true rfl)⟩ (Nat.le_of_ble_eq_true rfl) ⟨(Nat.le_of_ble_eq_true rfl), (Nat.le_of_ble_eq_true rfl)⟩ dX9_massFor_116 rfl rfl ?_
                  refine r_aload_n (q := 120) C 1 dX9_massFor_119 rfl rfl ?_
                  refine r_iload (q := 122) C 5 dX9_massFor_120 rfl rfl ?_
                  refine r_iload_n (q := 123) C 2 dX9_massFor_122 rfl rfl ?_
                  refine r_iload_n (q := 124) C 2 dX9_massFor_123 rfl rfl ?_
                  obtain ⟨v55, S54, h53, hf⟩ := m_bw_of hf
                  refine r_callV (mc := 0) (ms := 0) (q := 127) (st1 := [.int v55]) C (c_X9_hours hl h53) rfl w_1241 w_1242 w_1367 w_11 w_1243 hd_X9_hours rfl (by decide) g1 rfl rfl rfl ⟨(Nat.le_of_ble_eq_true rfl), (Nat.le_of_ble_eq_true rfl)⟩ (Nat.le_of_ble_eq_true rfl) ⟨(Nat.le_of_ble_eq_true rfl), (Nat.le_of_ble_eq_true rfl)⟩ dX9_massFor_124 rfl rfl ?_
                  obtain ⟨j56, ej56, hf⟩ := m_jp_of hf
                  have J56 : ∀ (v57 : Int32), j56 v57 = some (rZ9, SZ9) → m_G x Z S54 7 0 0 135 [(0, .ref a0), (1, .int p1), (2, .int p2), (3, .int p3), (4, .int p4), (5, .int v43)] [.int v57] := by
                    intro v57 hf
                    rw [ej56] at hf
                    refine r_istore (q := 137) (L' := [(6, .int v57), (0, .ref a0), (1, .int p1), (2, .int p2), (3, .int p3), (4, .int p4), (5, .int v43)]) C dX9_massFor_135 rfl (by decide) rfl ?_
                    refine r_aload_n (q := 138) C 1 dX9_massFor_137 rfl rfl ?_
                    obtain ⟨_u, S59, h58, hf⟩ := m_bw_of hf
                    refine r_callV (mc := 0) (ms := 0) (q := 141) (st1 := []) C (c_X9_bringsBack hl h58) rfl w_1261 w_1262 w_1372 w_11 w_1263 hd_X9_bringsBack rfl (by decide) g1 rfl rfl rfl ⟨(Nat.le_of_ble_eq_true rfl), (Nat.le_of_ble_eq_true rfl)⟩ (Nat.le_of_ble_eq_true rfl) ⟨(Nat.le_of_ble_eq_true rfl), (Nat.le_of_ble_eq_true rfl)⟩ dX9_massFor_138 rfl rfl ?_
                    refine r_iload (q := 143) C 6 dX9_massFor_141 rfl rfl ?_
                    refine r_iload (q := 145) C 6 dX9_massFor_143 rfl rfl ?_
                    refine r_sipush (q := 148) (v := (999 : Int32)) C dX9_massFor_145 (by decide) rfl ?_
                    refine r_icmp_ne (t := 160) (q := 151) C dX9_massFor_148 (by decide) rfl (fun c60 => ?_) (fun c60 => ?_)
                    · replace hf := m_if1 hf c60
                      refine r_iconst (q := 161) (v := (0 : Int32)) C dX9_massFor_160 (by decide) rfl ?_
                      refine r_iadd (q := 162) C dX9_massFor_161 rfl ?_
                      obtain ⟨v61, e62, hf⟩ := m_lt_of hf
                      refine r_nm e62 ?_
                      refine r_istore (q := 164) (L' := [(5, .int v61), (6, .int v57), (0, .ref a0), (1, .int p1), (2, .int p2), (3, .int p3), (4, .int p4)]) C dX9_massFor_162 rfl (by decide) rfl ?_
                      refine r_goto (t := 81) C dX9_massFor_164 (by decide) ?_
                      refine r_sub [2, 3, 4, 5, 6, 0, 1] rfl ?_
                      exact ih38 v61 v57 S59 hf
                    · replace hf := m_if0 hf (fun z => z c60)
                      refine r_iload (q := 153) C 0 dX9_massFor_151 rfl rfl ?_
                      refine r_if_ne (t := 160) (q := 156) C dX9_massFor_153 (by decide) rfl (fun c63 => ?_) (fun c63 => ?_)
                      · replace hf := m_if1 hf c63
                        refine r_iconst (q := 161) (v := (0 : Int32)) C dX9_massFor_160 (by decide) rfl ?_
                        refine r_iadd (q := 162) C dX9_massFor_161 rfl ?_
                        obtain ⟨v64, e65, hf⟩ := m_lt_of hf
                        refine r_nm e65 ?_
                        refine r_istore (q := 164) (L' := [(5, .int v64), (6, .int v57), (0, .ref a0), (1, .int p1), (2, .int p2), (3, .int p3), (4, .int p4)]) C dX9_massFor_162 rfl (by decide) rfl ?_
                        refine r_goto (t := 81) C dX9_massFor_164 (by decide) ?_
                        refine r_sub [2, 3, 4, 5, 6, 0, 1] rfl ?_
                        exact ih38 v64 v57 S59 hf
                      · replace hf := m_if0 hf (fun z => z c63)
                        refine r_iconst (q := 157) (v := (1 : Int32)) C dX9_massFor_156 (by decide) rfl ?_
                        refine r_goto (t := 161) C dX9_massFor_157 (by decide) ?_
                        refine r_iadd (q := 162) C dX9_massFor_161 rfl ?_
                        obtain ⟨v66, e67, hf⟩ := m_lt_of hf
                        refine r_nm e67 ?_
                        refine r_istore (q := 164) (L' := [(5, .int v66), (6, .int v57), (0, .ref a0), (1, .int p1), (2, .int p2), (3, .int p3), (4, .int p4)]) C dX9_massFor_162 rfl (by decide) rfl ?_
                        refine r_goto (t := 81) C dX9_massFor_164 (by decide) ?_
                        refine r_sub [2, 3, 4, 5, 6, 0, 1] rfl ?_
                        exact ih38 v66 v57 S59 hf
                  refine r_if_ne (t := 134) (q := 130) C dX9_massFor_127 (by decide) rfl (fun c68 => ?_) (fun c68 => ?_)
                  · replace hf := m_if1 hf c68
                    refine r_iconst (q := 135) (v := (0 : Int32)) C dX9_massFor_134 (by decide) rfl ?_
                    refine r_sub [1, 2, 3, 4, 5, 0] rfl ?_
                    exact J56 (0 : Int32) hf
                  · replace hf := m_if0 hf (fun z => z c68)
                    refine r_iconst (q := 131) (v := (1 : Int32)) C dX9_massFor_130 (by decide) rfl ?_
                    refine r_goto (t := 135) C dX9_massFor_131 (by decide) ?_
                    refine r_sub [1, 2, 3, 4, 5, 0] rfl ?_
                    exact J56 (1 : Int32) hf
          refine r_sub [2, 3, 4, 5, 6, 1, 0] rfl ?_
          exact LL40 100000 (0 : Int32) (0 : Int32) S21 hf
        · replace hf := m_if0 hf (fun z => z c19)
          refine r_iconst (q := 70) (v := (0 : Int32)) C dX9_massFor_69 (by decide) rfl ?_
          obtain ⟨rfl, rfl⟩ := m_so2 hf
          exact r_iret C F dX9_massFor_70
      obtain ⟨j70, ej70, hf⟩ := m_jp_of hf
      have J70 : ∀ (_ : Unit), j70 () = some (rZ9, SZ9) → m_G x Z S9 7 0 0 61 [(0, .ref a0), (1, .int p1), (2, .int p2), (3, .int p3), (4, .int p4)] [.ref a0] := by
        intro _ hf
        rw [ej70] at hf
        refine r_iconst (q := 62) (v := (0 : Int32)) C dX9_massFor_61 (by decide) rfl ?_
        exact J14 (0 : Int32) hf
      refine r_if_eq (t := 61) (q := 46) C dX9_massFor_43 (by decide) rfl (fun c71 => ?_) (fun c71 => ?_)
      · replace hf := m_if1 hf c71
        exact J70 ()  hf
      · replace hf := m_if0 hf c71
        refine r_iload (q := 48) C 4 dX9_massFor_46 rfl rfl ?_
        refine r_iconst (q := 49) (v := (1 : Int32)) C dX9_massFor_48 (by decide) rfl ?_
        refine r_bipush (q := 51) (v := (72 : Int32)) C dX9_massFor_49 (by decide) rfl ?_
        obtain ⟨v73, h72, hf⟩ := m_b1_of hf
        refine r_callS (mc := 0) (ms := 0) (q := 54) (st1 := [.int v73, .ref a0]) C (c_X9_isIn hl h72) rfl w_1031 w_1032 w_11 w_1033 hd_X9_isIn rfl rfl rfl ⟨(Nat.le_of_ble_eq_true rfl), (Nat.le_of_ble_eq_true rfl)⟩ (Nat.le_of_ble_eq_true rfl) ⟨(Nat.le_of_ble_eq_true rfl), (Nat.le_of_ble_eq_true rfl)⟩ dX9_massFor_51 rfl rfl ?_
        refine r_if_eq (t := 61) (q := 57) C dX9_massFor_54 (by decide) rfl (fun c74 => ?_) (fun c74 => ?_)
        · replace hf := m_if1 hf c74
          exact J70 ()  hf
        · replace hf := m_if0 hf c74
          refine r_iconst (q := 58) (v := (1 : Int32)) C dX9_massFor_57 (by decide) rfl ?_
          refine r_goto (t := 62) C dX9_massFor_58 (by decide) ?_
          exact J14 (1 : Int32) hf
  obtain ⟨j75, ej75, hf⟩ := m_jp_of hf
  have J75 : ∀ (_ : Unit), j75 () = some (rZ9, SZ9) → m_G x Z S2 7 0 0 26 [(0, .ref a0), (1, .int p1), (2, .int p2), (3, .int p3), (4, .int p4)] [.ref a0] := by
    intro _ hf
    rw [ej75] at hf
    refine r_iconst (q := 27) (v := (0 : Int32)) C dX9_massFor_26 (by decide) rfl ?_
    exact J6 (0 : Int32) hf
  refine r_if_eq (t := 26) (q := 14) C dX9_massFor_11 (by decide) rfl (fun c76 => ?_) (fun c76 => ?_)
  · replace hf := m_if1 hf c76
    exact J75 ()  hf
  · replace hf := m_if0 hf c76
    refine r_aload_n (q := 15) C 0 dX9_massFor_14 rfl rfl ?_
    refine r_iload_n (q := 16) C 2 dX9_massFor_15 rfl rfl ?_
    obtain ⟨v78, h77, hf⟩ := m_b1_of hf
    refine r_callV (mc := 0) (ms := 0) (q := 19) (st1 := [.int v78, .ref a0]) C (c_X9_isKind hl h77) rfl w_1135 w_1136 w_1355 w_11 w_1137 hd_X9_isKind rfl (by decide) g1 rfl rfl rfl ⟨(Nat.le_of_ble_eq_true rfl), (Nat.le_of_ble_eq_true rfl)⟩ (Nat.le_of_ble_eq_true rfl) ⟨(Nat.le_of_ble_eq_true rfl), (Nat.le_of_ble_eq_true rfl)⟩ dX9_massFor_16 rfl rfl ?_
    refine r_if_eq (t := 26) (q := 22) C dX9_massFor_19 (by decide) rfl (fun c79 => ?_) (fun c79 => ?_)
    · replace hf := m_if1 hf c79
      exact J75 ()  hf
    · replace hf := m_if0 hf c79
      refine r_iconst (q := 23) (v := (1 : Int32)) C dX9_massFor_22 (by decide) rfl ?_
      refine r_goto (t := 27) C dX9_massFor_23 (by decide) ?_
      exact J6 (1 : Int32) hf
def f_X9_mean (Z : m_Z) (S : m_S) (a0 : Nat) (p1 : Int32) : Option (UInt64 × m_S) := m_gd (m_ok Z a0 9) (m_lt (m_pI S a0 0 (0 : Int32)) (fun S2 => m_b1 (f_X9_isCase Z S2 a0 p1) (fun v5 => m_bw (f_X9_may Z S2 a0 v5 (1 : Int32)) (fun v8 S7 => (if v8 = 0 then some (FP.dconst0, S7) else m_b1 (S7.2.2 a0 3) (fun b10 => m_gd (m_ok Z b10 11) (m_gd (m_in (0 : Int32) (Z.2.2 b10)) (m_jp (fun (v15 : Int32) => m_bw (f_X9_may Z S7 a0 v15 (2 : Int32)) (fun v18 S17 => (if v18 = 0 then some (FP.dconst0, S17) else m_b1 (S17.2.2 a0 7) (fun b20 => m_gd (m_ok Z b20 12) (m_lt (((5 : Int32) * p1) + (0 : Int32)) (fun v23 => m_gd (m_in v23 (Z.2.2 b20)) (m_b1 (S17.2.2 a0 3) (fun b26 => m_gd (m_ok Z b26 11) (m_gd (m_in (0 : Int32) (Z.2.2 b26)) (m_gd (isNaN64 (FP.ddiv (FP.l2d (S17.2.1 b20 v23.toNatClampNeg)) (FP.i2d (S17.1 b26 (0 : Int32).toNatClampNeg))) = false) (some ((FP.ddiv (FP.l2d (S17.2.1 b20 v23.toNatClampNeg)) (FP.i2d (S17.1 b26 (0 : Int32).toNatClampNeg))), S17)))))))))))) (fun j14 => (if (S7.1 b10 (0 : Int32).toNatClampNeg) ≤ 0 then j14 (0 : Int32) else j14 (1 : Int32)))))))))))
abbrev rm_X9_mean : Room := { frames := 2, cells := 0, slots := 0, locals := 43 }
theorem hd_X9_mean : yX9_mean.cls = RX9 ∧ yX9_mean.cls ≠ "java/lang/invoke/MethodHandle" ∧ yX9_mean.cls ≠ "java/lang/invoke/VarHandle" ∧ (parseMethodDescriptor yX9_mean.desc).map (fun d => d.parameters.length) = some 1 := by decide +kernel
set_option maxHeartbeats 4000000 in
set_option maxRecDepth 100000 in
theorem c_X9_mean {l : Launch} (hl : l.stackTraces = false) {Z : m_Z} {S : m_S} {a0 : Nat} {p1 : Int32} {rZ9 : UInt64} {SZ9 : m_S} (hf : f_X9_mean Z S a0 p1 = some (rZ9, SZ9)) : m_Ct l yX9_mean (.code yX9_mean cX9_mean 2 (some .double) :: m_ws) rm_X9_mean (fun f => [.ref a0, .int p1]) Z S (some (.double rZ9)) SZ9 := by
  unfold f_X9_mean at hf
  refine m_ent hl (by decide) (fun _ => Nat.le_of_ble_eq_true rfl) (fun x C F => ?_)
  have C : m_H x l RX9 cX9_mean 2 rm_X9_mean := C
  show m_G x Z S 2 0 0 0 [(0, .ref a0), (1, .int p1)] []
  refine r_aload_n (q := 1) C 0 dX9_mean_0 rfl rfl ?_
  refine r_iconst (q := 2) (v := (0 : Int32)) C dX9_mean_1 (by decide) rfl ?_
  obtain ⟨g1, hf⟩ := m_gd_of hf
  obtain ⟨S2, e3, hf⟩ := m_lt_of hf
  refine pf_X9_61 (q := 5) C dX9_mean_2 g1 e3 rfl ?_
  refine r_aload_n (q := 6) C 0 dX9_mean_5 rfl rfl ?_
  refine r_aload_n (q := 7) C 0 dX9_mean_6 rfl rfl ?_
  refine r_iload_n (q := 8) C 1 dX9_mean_7 rfl rfl ?_
  obtain ⟨v5, h4, hf⟩ := m_b1_of hf
  refine r_callV (mc := 0) (ms := 0) (q := 11) (st1 := [.int v5, .ref a0]) C (c_X9_isCase hl h4) rfl w_1146 w_1147 w_1356 w_11 w_1148 hd_X9_isCase rfl (by decide) g1 rfl rfl rfl ⟨(Nat.le_of_ble_eq_true rfl), (Nat.le_of_ble_eq_true rfl)⟩ (Nat.le_of_ble_eq_true rfl) ⟨(Nat.le_of_ble_eq_true rfl), (Nat.le_of_ble_eq_true rfl)⟩ dX9_mean_8 rfl rfl ?_
  refine r_iconst (q := 12) (v := (1 : Int32)) C dX9_mean_11 (by decide) rfl ?_
  obtain ⟨v8, S7, h6, hf⟩ := m_bw_of hf
  refine r_callV (mc := 0) (ms := 0) (q := 15) (st1 := [.int v8]) C (c_X9_may hl h6) rfl w_1024 w_1025 w_1333 w_11 w_1026 hd_X9_may rfl (by decide) g1 rfl rfl rfl ⟨(Nat.le_of_ble_eq_true rfl), (Nat.le_of_ble_eq_true rfl)⟩ (Nat.le_of_ble_eq_true rfl) ⟨(Nat.le_of_ble_eq_true rfl), (Nat.le_of_ble_eq_true rfl)⟩ dX9_mean_12 rfl rfl ?_
  refine r_if_eq (t := 62) (q := 18) C dX9_mean_15 (by decide) rfl (fun c9 => ?_) (fun c9 => ?_)
  · replace hf := m_if1 hf c9
    refine r_dconst0 (q := 63) C dX9_mean_62 rfl ?_
    obtain ⟨rfl, rfl⟩ := m_so2 hf
    exact r_dret C F dX9_mean_63
  · replace hf := m_if0 hf c9
    refine r_aload_n (q := 19) C 0 dX9_mean_18 rfl rfl ?_
    refine r_aload_n (q := 20) C 0 dX9_mean_19 rfl rfl ?_
    obtain ⟨b10, e11, hf⟩ := m_b1_of hf
    refine gf_X9_16 (q := 23) C dX9_mean_20 g1 e11 rfl ?_
    refine r_iconst (q := 24) (v := (0 : Int32)) C dX9_mean_23 (by decide) rfl ?_
    obtain ⟨g12, hf⟩ := m_gd_of hf
    obtain ⟨g13, hf⟩ := m_gd_of hf
    refine r_iald (q := 25) C dX9_mean_24 ⟨g12, g13⟩ rfl ?_
    obtain ⟨j14, ej14, hf⟩ := m_jp_of hf
    have J14 : ∀ (v15 : Int32), j14 v15 = some (rZ9, SZ9) → m_G x Z S7 2 0 0 33 [(0, .ref a0), (1, .int p1)] [.int v15, .ref a0] := by
      intro v15 hf
      rw [ej14] at hf
      refine r_iconst (q := 34) (v := (2 : Int32)) C dX9_mean_33 (by decide) rfl ?_
      obtain ⟨v18, S17, h16, hf⟩ := m_bw_of hf
      refine r_callV (mc := 0) (ms := 0) (q := 37) (st1 := [.int v18]) C (c_X9_may hl h16) rfl w_1024 w_1025 w_1333 w_11 w_1026 hd_X9_may rfl (by decide) g1 rfl rfl rfl ⟨(Nat.le_of_ble_eq_true rfl), (Nat.le_of_ble_eq_true rfl)⟩ (Nat.le_of_ble_eq_true rfl) ⟨(Nat.le_of_ble_eq_true rfl), (Nat.le_of_ble_eq_true rfl)⟩ dX9_mean_34 rfl rfl ?_
      refine r_if_eq (t := 62) (q := 40) C dX9_mean_37 (by decide) rfl (fun c19 => ?_) (fun c19 => ?_)
      · replace hf := m_if1 hf c19
        refine r_dconst0 (q := 63) C dX9_mean_62 rfl ?_
        obtain ⟨rfl, rfl⟩ := m_so2 hf
        exact r_dret C F dX9_mean_63
      · replace hf := m_if0 hf c19
        refine r_aload_n (q := 41) C 0 dX9_mean_40 rfl rfl ?_
        obtain ⟨b20, e21, hf⟩ := m_b1_of hf
        refine gf_X9_28 (q := 44) C dX9_mean_41 g1 e21 rfl ?_
        refine r_iconst (q := 45) (v := (5 : Int32)) C dX9_mean_44 (by decide) rfl ?_
        refine r_iload_n (q := 46) C 1 dX9_mean_45 rfl rfl ?_
        refine r_imul (q := 47) C dX9_mean_46 rfl ?_
        refine r_iconst (q := 48) (v := (0 : Int32)) C dX9_mean_47 (by decide) rfl ?_
        refine r_iadd (q := 49) C dX9_mean_48 rfl ?_
        obtain ⟨g22, hf⟩ := m_gd_of hf
        obtain ⟨v23, e24, hf⟩ := m_lt_of hf
        refine r_nm e24 ?_
        obtain ⟨g25, hf⟩ := m_gd_of hf
        refine r_lald (q := 50) C dX9_mean_49 ⟨g22, g25⟩ rfl ?_
        refine r_l2d (q := 51) C dX9_mean_50 rfl ?_
        refine r_aload_n (q := 52) C 0 dX9_mean_51 rfl rfl ?_
        obtain ⟨b26, e27, hf⟩ := m_b1_of hf
        refine gf_X9_16 (q := 55) C dX9_mean_52 g1 e27 rfl ?_
        refine r_iconst (q := 56) (v := (0 : Int32)) C dX9_mean_55 (by decide) rfl ?_
        obtain ⟨g28, hf⟩ := m_gd_of hf
        obtain ⟨g29, hf⟩ := m_gd_of hf
        refine r_iald (q := 57) C dX9_mean_56 ⟨g28, g29⟩ rfl ?_
        refine r_i2d (q := 58) C dX9_mean_57 rfl ?_
        obtain ⟨g30, hf⟩ := m_gd_of hf
        refine r_ddiv (q := 59) C dX9_mean_58 (m_n64 g30) rfl ?_
        refine r_goto (t := 63) C dX9_mean_59 (by decide) ?_
        obtain ⟨rfl, rfl⟩ := m_so2 hf
        exact r_dret C F dX9_mean_63
    refine r_if_le (t := 32) (q := 28) C dX9_mean_25 (by decide) rfl (fun c31 => ?_) (fun c31 => ?_)
    · replace hf := m_if1 hf c31
      refine r_iconst (q := 33) (v := (0 : Int32)) C dX9_mean_32 (by decide) rfl ?_
      exact J14 (0 : Int32) hf
    · replace hf := m_if0 hf c31
      refine r_iconst (q := 29) (v := (1 : Int32)) C dX9_mean_28 (by decide) rfl ?_
      refine r_goto (t := 33) C dX9_mean_29 (by decide) ?_
      exact J14 (1 : Int32) hf
def f_X9_move (Z : m_Z) (S : m_S) (a0 : Nat) (p1 : Int32) (p2 : Int32) : Option (Int32 × m_S) := m_gd (m_ok Z a0 9) (m_lt (m_pI S a0 0 (0 : Int32)) (fun S2 => m_bw (f_X9_finds Z S2 a0 p1) (fun v6 S5 => m_bw (f_X9_may Z S5 a0 v6 (1 : Int32)) (fun v9 S8 => (if v9 = 0 then some ((0 : Int32), S8) else m_b1 (f_X9_isCase Z S8 a0 p2) (fun v12 => m_bw (f_X9_may Z S8 a0 v12 (2 : Int32)) (fun v15 S14 => (if v15 = 0 then some ((0 : Int32), S14) else m_jp (fun (v18 : Int32) => m_bw (f_X9_may Z S14 a0 v18 (3 : Int32)) (fun v21 S20 => (if ¬ v21 = 0 then m_b1 (f_X9_its Z S20 a0 (S20.1 a0 23) (S20.1 a0 24) (1 : Int32)) (fun v24 => m_b1 (f_X9_its Z S20 a0 (S20.1 a0 23) (S20.1 a0 24) (2 : Int32)) (fun v26 => m_bw (f_X9_goes Z S20 a0 (S20.1 a0 23) (S20.1 a0 24)) (fun v29 S28 => m_bw (f_X9_addsTo Z S28 a0 p2 p1 v24 v26 v29) (fun _u S31 => some ((S31.1 a0 23), S31))))) else some ((0 : Int32), S20)))) (fun j17 => m_jp (fun (_ : Unit) => j17 (0 : Int32)) (fun j32 => (if (S14.1 a0 23) = p2 then j32 () else m_b1 (f_X9_of Z S14 a0 p2 (4 : Int32)) (fun v35 => (if (5 : Int32) ≤ v35 then j32 () else j17 (1 : Int32))))))))))))))
abbrev rm_X9_move : Room := { frames := 3, cells := 0, slots := 0, locals := 76 }
theorem hd_X9_move : yX9_move.cls = RX9 ∧ yX9_move.cls ≠ "java/lang/invoke/MethodHandle" ∧ yX9_move.cls ≠ "java/lang/invoke/VarHandle" ∧ (parseMethodDescriptor yX9_move.desc).map (fun d => d.parameters.length) = some 2 := by decide +kernel
set_option maxHeartbeats 4000000 in
set_option maxRecDepth 100000 in
theorem c_X9_move {l : Launch} (hl : l.stackTraces = false) {Z : m_Z} {S : m_S} {a0 : Nat} {p1 : Int32} {p2 : Int32} {rZ9 : Int32} {SZ9 : m_S} (hf : f_X9_move Z S a0 p1 p2 = some (rZ9, SZ9)) : m_Ct l yX9_move (.code yX9_move cX9_move 6 (some .int) :: m_ws) rm_X9_move (fun f => [.ref a0, .int p1, .int p2]) Z S (some (.int rZ9)) SZ9 := by
  unfold f_X9_move at hf
  refine m_ent hl (by decide) (fun _ => Nat.le_of_ble_eq_true rfl) (fun x C F => ?_)
  have C : m_H x l RX9 cX9_move 6 rm_X9_move := C
  show m_G x Z S 6 0 0 0 [(0, .ref a0), (1, .int p1), (2, .int p2)] []
  refine r_aload_n (q := 1) C 0 dX9_move_0 rfl rfl ?_
  refine r_iconst (q := 2) (v := (0 : Int32)) C dX9_move_1 (by decide) rfl ?_
  obtain ⟨g1, hf⟩ := m_gd_of hf
  obtain ⟨S2, e3, hf⟩ := m_lt_of hf
  refine pf_X9_61 (q := 5) C dX9_move_2 g1 e3 rfl ?_
  refine r_aload_n (q := 6) C 0 dX9_move_5 rfl rfl ?_
  refine r_aload_n (q := 7) C 0 dX9_move_6 rfl rfl ?_
  refine r_iload_n (q := 8) C 1 dX9_move_7 rfl rfl ?_
  obtain ⟨v6, S5, h4, hf⟩ := m_bw_of hf
  refine r_callV (mc := 0) (ms := 0) (q := 11) (st1 := [.int v6, .ref a0]) C (c_X9_finds hl h4) rfl w_1202 w_1203 w_1361 w_11 w_1204 hd_X9_finds rfl (by decide) g1 rfl rfl rfl ⟨(Nat.le_of_ble_eq_true rfl), (Nat.le_of_ble_eq_true rfl)⟩ (Nat.le_of_ble_eq_true rfl) ⟨(Nat.le_of_ble_eq_true rfl), (Nat.le_of_ble_eq_true rfl)⟩ dX9_move_8 rfl rfl ?_
  refine r_iconst (q := 12) (v := (1 : Int32)) C dX9_move_11 (by decide) rfl ?_
  obtain ⟨v9, S8, h7, hf⟩ := m_bw_of hf
  refine r_callV (mc := 0) (ms := 0) (q := 15) (st1 := [.int v9]) C (c_X9_may hl h7) rfl w_1024 w_1025 w_1333 w_11 w_1026 hd_X9_may rfl (by decide) g1 rfl rfl rfl ⟨(Nat.le_of_ble_eq_true rfl), (Nat.le_of_ble_eq_true rfl)⟩ (Nat.le_of_ble_eq_true rfl) ⟨(Nat.le_of_ble_eq_true rfl), (Nat.le_of_ble_eq_true rfl)⟩ dX9_move_12 rfl rfl ?_
  refine r_if_eq (t := 62) (q := 18) C dX9_move_15 (by decide) rfl (fun c10 => ?_) (fun c10 => ?_)
  · replace hf := m_if1 hf c10
    refine r_iconst (q := 63) (v := (0 : Int32)) C dX9_move_62 (by decide) rfl ?_
    obtain ⟨rfl, rfl⟩ := m_so2 hf
    exact r_iret C F dX9_move_63
  · replace hf := m_if0 hf c10
    refine r_aload_n (q := 19) C 0 dX9_move_18 rfl rfl ?_
    refine r_aload_n (q := 20) C 0 dX9_move_19 rfl rfl ?_
    refine r_iload_n (q := 21) C 2 dX9_move_20 rfl rfl ?_
    obtain ⟨v12, h11, hf⟩ := m_b1_of hf
    refine r_callV (mc := 0) (ms := 0) (q := 24) (st1 := [.int v12, .ref a0]) C (c_X9_isCase hl h11) rfl w_1146 w_1147 w_1356 w_11 w_1148 hd_X9_isCase rfl (by decide) g1 rfl rfl rfl ⟨(Nat.le_of_ble_eq_true rfl), (Nat.le_of_ble_eq_true rfl)⟩ (Nat.le_of_ble_eq_true rfl) ⟨(Nat.le_of_ble_eq_true rfl), (Nat.le_of_ble_eq_true rfl)⟩ dX9_move_21 rfl rfl ?_
    refine r_iconst (q := 25) (v := (2 : Int32)) C dX9_move_24 (by decide) rfl ?_
    obtain ⟨v15, S14, h13, hf⟩ := m_bw_of hf
    refine r_callV (mc := 0) (ms := 0) (q := 28) (st1 := [.int v15]) C (c_X9_may hl h13) rfl w_1024 w_1025 w_1333 w_11 w_1026 hd_X9_may rfl (by decide) g1 rfl rfl rfl ⟨(Nat.le_of_ble_eq_true rfl), (Nat.le_of_ble_eq_true rfl)⟩ (Nat.le_of_ble_eq_true rfl) ⟨(Nat.le_of_ble_eq_true rfl), (Nat.le_of_ble_eq_true rfl)⟩ dX9_move_25 rfl rfl ?_
    refine r_if_eq (t := 62) (q := 31) C dX9_move_28 (by decide) rfl (fun c16 => ?_) (fun c16 => ?_)
    · replace hf := m_if1 hf c16
      refine r_iconst (q := 63) (v := (0 : Int32)) C dX9_move_62 (by decide) rfl ?_
      obtain ⟨rfl, rfl⟩ := m_so2 hf
      exact r_iret C F dX9_move_63
    · replace hf := m_if0 hf c16
      refine r_aload_n (q := 32) C 0 dX9_move_31 rfl rfl ?_
      refine r_aload_n (q := 33) C 0 dX9_move_32 rfl rfl ?_
      refine gf_X9_252 (q := 36) C dX9_move_33 g1 rfl ?_
      refine r_iload_n (q := 37) C 2 dX9_move_36 rfl rfl ?_
      obtain ⟨j17, ej17, hf⟩ := m_jp_of hf
      have J17 : ∀ (v18 : Int32), j17 v18 = some (rZ9, SZ9) → m_G x Z S14 6 0 0 55 [(0, .ref a0), (1, .int p1), (2, .int p2)] [.int v18, .ref a0] := by
        intro v18 hf
        rw [ej17] at hf
        refine r_iconst (q := 56) (v := (3 : Int32)) C dX9_move_55 (by decide) rfl ?_
        obtain ⟨v21, S20, h19, hf⟩ := m_bw_of hf
        refine r_callV (mc := 0) (ms := 0) (q := 59) (st1 := [.int v21]) C (c_X9_may hl h19) rfl w_1024 w_1025 w_1333 w_11 w_1026 hd_X9_may rfl (by decide) g1 rfl rfl rfl ⟨(Nat.le_of_ble_eq_true rfl), (Nat.le_of_ble_eq_true rfl)⟩ (Nat.le_of_ble_eq_true rfl) ⟨(Nat.le_of_ble_eq_true rfl), (Nat.le_of_ble_eq_true rfl)⟩ dX9_move_56 rfl rfl ?_
        refine r_if_ne (t := 64) (q := 62) C dX9_move_59 (by decide) rfl (fun c22 => ?_) (fun c22 => ?_)
        · replace hf := m_if1 hf c22
          refine r_aload_n (q := 65) C 0 dX9_move_64 rfl rfl ?_
          refine r_aload_n (q := 66) C 0 dX9_move_65 rfl rfl ?_
          refine gf_X9_252 (q := 69) C dX9_move_66 g1 rfl ?_
          refine r_aload_n (q := 70) C 0 dX9_move_69 rfl rfl ?_
          refine gf_X9_255 (q := 73) C dX9_move_70 g1 rfl ?_
          refine r_iconst (q := 74) (v := (1 : Int32)) C dX9_move_73 (by decide) rfl ?_
          obtain ⟨v24, h23, hf⟩ := m_b1_of hf
          refine r_callV (mc := 0) (ms := 0) (q := 77) (st1 := [.int v24]) C (c_X9_its hl h23) rfl w_940 w_941 w_1326 w_11 w_942 hd_X9_its rfl (by decide) g1 rfl rfl rfl ⟨(Nat.le_of_ble_eq_true rfl), (Nat.le_of_ble_eq_true rfl)⟩ (Nat.le_of_ble_eq_true rfl) ⟨(Nat.le_of_ble_eq_true rfl), (Nat.le_of_ble_eq_true rfl)⟩ dX9_move_74 rfl rfl ?_
          refine r_istore_n (q := 78) (L' := [(3, .int v24), (0, .ref a0), (1, .int p1), (2, .int p2)]) C dX9_move_77 rfl rfl (by decide) rfl ?_
          refine r_aload_n (q := 79) C 1 dX9_move_78 rfl rfl ?_
          refine r_aload_n (q := 80) C 1 dX9_move_79 rfl rfl ?_
          refine gf_X9_252 (q := 83) C dX9_move_80 g1 rfl ?_
          refine r_aload_n (q := 84) C 1 dX9_move_83 rfl rfl ?_
          refine gf_X9_255 (q := 87) C dX9_move_84 g1 rfl ?_
          refine r_iconst (q := 88) (v := (2 : Int32)) C dX9_move_87 (by decide) rfl ?_
          obtain ⟨v26, h25, hf⟩ := m_b1_of hf
          refine r_callV (mc := 0) (ms := 0) (q := 91) (st1 := [.int v26]) C (c_X9_its hl h25) rfl w_940 w_941 w_1326 w_11 w_942 hd_X9_its rfl (by decide) g1 rfl rfl rfl ⟨(Nat.le_of_ble_eq_true rfl), (Nat.le_of_ble_eq_true rfl)⟩ (Nat.le_of_ble_eq_true rfl) ⟨(Nat.le_of_ble_eq_true rfl), (Nat.le_of_ble_eq_true rfl)⟩ dX9_move_88 rfl rfl ?_
          refine r_istore (q := 93) (L' := [(4, .int v26), (3, .int v24), (0, .ref a0), (1, .int p1), (2, .int p2)]) C dX9_move_91 rfl (by decide) rfl ?_
          refine r_aload_n (q := 94) C 2 dX9_move_93 rfl rfl ?_
          refine r_aload_n (q := 95) C 2 dX9_move_94 rfl rfl ?_
          refine gf_X9_252 (q := 98) C dX9_move_95 g1 rfl ?_
          refine r_aload_n (q := 99) C 2 dX9_move_98 rfl rfl ?_
          refine gf_X9_255 (q := 102) C dX9_move_99 g1 rfl ?_
          obtain ⟨v29, S28, h27, hf⟩ := m_bw_of hf
          refine r_callV (mc := 0) (ms := 0) (q := 105) (st1 := [.int v29]) C (c_X9_goes hl h27) rfl w_1222 w_1223 w_1365 w_11 w_1224 hd_X9_goes rfl (by decide) g1 rfl rfl rfl ⟨(Nat.le_of_ble_eq_true rfl), (Nat.le_of_ble_eq_true rfl)⟩ (Nat.le_of_ble_eq_true rfl) ⟨(Nat.le_of_ble_eq_true rfl), (Nat.le_of_ble_eq_true rfl)⟩ dX9_move_102 rfl rfl ?_
          refine r_istore (q := 107) (L' := [(5, .int v29), (4, .int v26), (3, .int v24), (0, .ref a0), (1, .int p1), (2, .int p2)]) C dX9_move_105 rfl (by decide) rfl ?_
          refine r_aload_n (q := 108) C 3 dX9_move_107 rfl rfl ?_
          refine r_iload_n (q := 109) C 5 dX9_move_108 rfl rfl ?_
          refine r_iload_n (q := 110) C 4 dX9_move_109 rfl rfl ?_
          refine r_iload_n (q := 111) C 2 dX9_move_110 rfl rfl ?_
          refine r_iload (q := 113) C 1 dX9_move_111 rfl rfl ?_
          refine r_iload (q := 115) C 0 dX9_move_113 rfl rfl ?_
          obtain ⟨_u, S31, h30, hf⟩ := m_bw_of hf
          refine r_callV (mc := 0) (ms := 0) (q := 118) (st1 := []) C (c_X9_addsTo hl h30) rfl w_1212 w_1213 w_1363 w_11 w_1214 hd_X9_addsTo rfl (by decide) g1 rfl rfl rfl ⟨(Nat.le_of_ble_eq_true rfl), (Nat.le_of_ble_eq_true rfl)⟩ (Nat.le_of_ble_eq_true rfl) ⟨(Nat.le_of_ble_eq_true rfl), (Nat.le_of_ble_eq_true rfl)⟩ dX9_move_115 rfl rfl ?_
          refine r_aload_n (q := 119) C 3 dX9_move_118 rfl rfl ?_
          refine gf_X9_252 (q := 122) C dX9_move_119 g1 rfl ?_
          obtain ⟨rfl, rfl⟩ := m_so2 hf
          exact r_iret C F dX9_move_122
        · replace hf := m_if0 hf (fun z => z c22)
          refine r_iconst (q := 63) (v := (0 : Int32)) C dX9_move_62 (by decide) rfl ?_
          obtain ⟨rfl, rfl⟩ := m_so2 hf
          exact r_iret C F dX9_move_63
      obtain ⟨j32, ej32, hf⟩ := m_jp_of hf
      have J32 : ∀ (_ : Unit), j32 () = some (rZ9, SZ9) → m_G x Z S14 6 0 0 54 [(0, .ref a0), (1, .int p1), (2, .int p2)] [.ref a0] := by
        intro _ hf
        rw [ej32] at hf
        refine r_iconst (q := 55) (v := (0 : Int32)) C dX9_move_54 (by decide) rfl ?_
        exact J17 (0 : Int32) hf
      refine r_icmp_eq (t := 54) (q := 40) C dX9_move_37 (by decide) rfl (fun c33 => ?_) (fun c33 => ?_)
      · replace hf := m_if1 hf c33
        exact J32 ()  hf
      · replace hf := m_if0 hf c33
        refine r_aload_n (q := 41) C 0 dX9_move_40 rfl rfl ?_
        refine r_iload_n (q := 42) C 2 dX9_move_41 rfl rfl ?_
        refine r_iconst (q := 43) (v := (4 : Int32)) C dX9_move_42 (by decide) rfl ?_
        obtain ⟨v35, h34, hf⟩ := m_b1_of hf
        refine r_callV (mc := 0) (ms := 0) (q := 46) (st1 := [.int v35, .ref a0]) C (c_X9_of hl h34) rfl w_937 w_938 w_1325 w_11 w_939 hd_X9_of rfl (by decide) g1 rfl rfl rfl ⟨(Nat.le_of_ble_eq_true rfl), (Nat.le_of_ble_eq_true rfl)⟩ (Nat.le_of_ble_eq_true rfl) ⟨(Nat.le_of_ble_eq_true rfl), (Nat.le_of_ble_eq_true rfl)⟩ dX9_move_43 rfl rfl ?_
        refine r_iconst (q := 47) (v := (5 : Int32)) C dX9_move_46 (by decide) rfl ?_
        refine r_icmp_ge (t := 54) (q := 50) C dX9_move_47 (by decide) rfl (fun c36 => ?_) (fun c36 => ?_)
        · replace hf := m_if1 hf c36
          exact J32 ()  hf
        · replace hf := m_if0 hf c36
          refine r_iconst (q := 51) (v := (1 : Int32)) C dX9_move_50 (by decide) rfl ?_
          refine r_goto (t := 55) C dX9_move_51 (by decide) ?_
          exact J17 (1 : Int32) hf
def f_X9_open (Z : m_Z) (S : m_S) (a0 : Nat) (p1 : Int32) : Option (Int32 × m_S) := m_gd (m_ok Z a0 9) (m_lt (m_pI S a0 0 (0 : Int32)) (fun S2 => m_b1 (f_X9_isCase Z S2 a0 p1) (fun v5 => m_bw (f_X9_may Z S2 a0 v5 (1 : Int32)) (fun v8 S7 => (if ¬ v8 = 0 then m_b1 (S7.2.2 a0 1) (fun b10 => m_gd (m_ok Z b10 11) (m_lt ((110 : Int32) + p1) (fun v13 => m_gd (m_in v13 (Z.2.2 b10)) (m_b1 (f_X9_roomNow Z S7 a0) (fun v17 => m_b1 (f_X9_of Z S7 a0 p1 (3 : Int32)) (fun v19 => m_lt ((((S7.1 b10 v13.toNatClampNeg) * v17) / (1000 : Int32)) - v19) (fun v20 => m_b1 (f_X9_of Z S7 a0 p1 (3 : Int32)) (fun v23 => m_bw (f_X9_lays Z S7 a0 p1 (3 : Int32) (v23 + v20)) (fun _u S25 => m_bw (f_X9_counts Z S25 a0 p1 (2 : Int32) v20.toInt64) (fun _u S27 => some (v20, S27))))))))))) else some ((0 : Int32), S7))))))
abbrev rm_X9_open : Room := { frames := 3, cells := 0, slots := 0, locals := 71 }
theorem hd_X9_open : yX9_open.cls = RX9 ∧ yX9_open.cls ≠ "java/lang/invoke/MethodHandle" ∧ yX9_open.cls ≠ "java/lang/invoke/VarHandle" ∧ (parseMethodDescriptor yX9_open.desc).map (fun d => d.parameters.length) = some 1 := by decide +kernel
set_option maxHeartbeats 4000000 in
set_option maxRecDepth 100000 in
theorem c_X9_open {l : Launch} (hl : l.stackTraces = false) {Z : m_Z} {S : m_S} {a0 : Nat} {p1 : Int32} {rZ9 : Int32} {SZ9 : m_S} (hf : f_X9_open Z S a0 p1 = some (rZ9, SZ9)) : m_Ct l yX9_open (.code yX9_open cX9_open 3 (some .int) :: m_ws) rm_X9_open (fun f => [.ref a0, .int p1]) Z S (some (.int rZ9)) SZ9 := by
  unfold f_X9_open at hf
  refine m_ent hl (by decide) (fun _ => Nat.le_of_ble_eq_true rfl) (fun x C F => ?_)
  have C : m_H x l RX9 cX9_open 3 rm_X9_open := C
  show m_G x Z S 3 0 0 0 [(0, .ref a0), (1, .int p1)] []
  refine r_aload_n (q := 1) C 0 dX9_open_0 rfl rfl ?_
  refine r_iconst (q := 2) (v := (0 : Int32)) C dX9_open_1 (by decide) rfl ?_
  obtain ⟨g1, hf⟩ := m_gd_of hf
  obtain ⟨S2, e3, hf⟩ := m_lt_of hf
  refine pf_X9_61 (q := 5) C dX9_open_2 g1 e3 rfl ?_
  refine r_aload_n (q := 6) C 0 dX9_open_5 rfl rfl ?_
  refine r_aload_n (q := 7) C 0 dX9_open_6 rfl rfl ?_
  refine r_iload_n (q := 8) C 1 dX9_open_7 rfl rfl ?_
  obtain ⟨v5, h4, hf⟩ := m_b1_of hf
  refine r_callV (mc := 0) (ms := 0) (q := 11) (st1 := [.int v5, .ref a0]) C (c_X9_isCase hl h4) rfl w_1146 w_1147 w_1356 w_11 w_1148 hd_X9_isCase rfl (by decide) g1 rfl rfl rfl ⟨(Nat.le_of_ble_eq_true rfl), (Nat.le_of_ble_eq_true rfl)⟩ (Nat.le_of_ble_eq_true rfl) ⟨(Nat.le_of_ble_eq_true rfl), (Nat.le_of_ble_eq_true rfl)⟩ dX9_open_8 rfl rfl ?_
  refine r_iconst (q := 12) (v := (1 : Int32)) C dX9_open_11 (by decide) rfl ?_
  obtain ⟨v8, S7, h6, hf⟩ := m_bw_of hf
  refine r_callV (mc := 0) (ms := 0) (q := 15) (st1 := [.int v8]) C (c_X9_may hl h6) rfl w_1024 w_1025 w_1333 w_11 w_1026 hd_X9_may rfl (by decide) g1 rfl rfl rfl ⟨(Nat.le_of_ble_eq_true rfl), (Nat.le_of_ble_eq_true rfl)⟩ (Nat.le_of_ble_eq_true rfl) ⟨(Nat.le_of_ble_eq_true rfl), (Nat.le_of_ble_eq_true rfl)⟩ dX9_open_12 rfl rfl ?_
  refine r_if_ne (t := 20) (q := 18) C dX9_open_15 (by decide) rfl (fun c9 => ?_) (fun c9 => ?_)
  · replace hf := m_if1 hf c9
    refine r_aload_n (q := 21) C 0 dX9_open_20 rfl rfl ?_
    obtain ⟨b10, e11, hf⟩ := m_b1_of hf
    refine gf_X9_7 (q := 24) C dX9_open_21 g1 e11 rfl ?_
    refine r_bipush (q := 26) (v := (110 : Int32)) C dX9_open_24 (by decide) rfl ?_
    refine r_iload_n (q := 27) C 1 dX9_open_26 rfl rfl ?_
    refine r_iadd (q := 28) C dX9_open_27 rfl ?_
    obtain ⟨g12, hf⟩ := m_gd_of hf
    obtain ⟨v13, e14, hf⟩ := m_lt_of hf
    refine r_nm e14 ?_
    obtain ⟨g15, hf⟩ := m_gd_of hf
    refine r_iald (q := 29) C dX9_open_28 ⟨g12, g15⟩ rfl ?_
    refine r_aload_n (q := 30) C 0 dX9_open_29 rfl rfl ?_
    obtain ⟨v17, h16, hf⟩ := m_b1_of hf
    refine r_callV (mc := 0) (ms := 0) (q := 33) (st1 := [.int v17, .int (S7.1 b10 v13.toNatClampNeg)]) C (c_X9_roomNow hl h16) rfl w_1117 w_1118 w_1353 w_11 w_1119 hd_X9_roomNow rfl (by decide) g1 rfl rfl rfl ⟨(Nat.le_of_ble_eq_true rfl), (Nat.le_of_ble_eq_true rfl)⟩ (Nat.le_of_ble_eq_true rfl) ⟨(Nat.le_of_ble_eq_true rfl), (Nat.le_of_ble_eq_true rfl)⟩ dX9_open_30 rfl rfl ?_
    refine r_imul (q := 34) C dX9_open_33 rfl ?_
    refine r_sipush (q := 37) (v := (1000 : Int32)) C dX9_open_34 (by decide) rfl ?_
    refine r_idiv (q := 38) C dX9_open_37 (by decide) rfl ?_
    refine r_aload_n (q := 39) C 0 dX9_open_38 rfl rfl ?_
    refine r_iload_n (q := 40) C 1 dX9_open_39 rfl rfl ?_
    refine r_iconst (q := 41) (v := (3 : Int32)) C dX9_open_40 (by decide) rfl ?_
    obtain ⟨v19, h18, hf⟩ := m_b1_of hf
    refine r_callV (mc := 0) (ms := 0) (q := 44) (st1 := [.int v19, .int (((S7.1 b10 v13.toNatClampNeg) * v17) / (1000 : Int32))]) C (c_X9_of hl h18) rfl w_937 w_938 w_1325 w_11 w_939 hd_X9_of rfl (by decide) g1 rfl rfl rfl ⟨(Nat.le_of_ble_eq_true rfl), (Nat.le_of_ble_eq_true rfl)⟩ (Nat.le_of_ble_eq_true rfl) ⟨(Nat.le_of_ble_eq_true rfl), (Nat.le_of_ble_eq_true rfl)⟩ dX9_open_41 rfl rfl ?_
    refine r_isub (q := 45) C dX9_open_44 rfl ?_
    obtain ⟨v20, e21, hf⟩ := m_lt_of hf
    refine r_nm e21 ?_
    refine r_istore_n (q := 46) (L' := [(2, .int v20), (0, .ref a0), (1, .int p1)]) C dX9_open_45 rfl rfl (by decide) rfl ?_
    refine r_aload_n (q := 47) C 1 dX9_open_46 rfl rfl ?_
    refine r_iload_n (q := 48) C 2 dX9_open_47 rfl rfl ?_
    refine r_iconst (q := 49) (v := (3 : Int32)) C dX9_open_48 (by decide) rfl ?_
    refine r_aload_n (q := 50) C 1 dX9_open_49 rfl rfl ?_
    refine r_iload_n (q := 51) C 2 dX9_open_50 rfl rfl ?_
    refine r_iconst (q := 52) (v := (3 : Int32)) C dX9_open_51 (by decide) rfl ?_
    obtain ⟨v23, h22, hf⟩ := m_b1_of hf
    refine r_callV (mc := 0) (ms := 0) (q := 55) (st1 := [.int v23, .int (3 : Int32), .int p1, .ref a0]) C (c_X9_of hl h22) rfl w_937 w_938 w_1325 w_11 w_939 hd_X9_of rfl (by decide) g1 rfl rfl rfl ⟨(Nat.le_of_ble_eq_true rfl), (Nat.le_of_ble_eq_true rfl)⟩ (Nat.le_of_ble_eq_true rfl) ⟨(Nat.le_of_ble_eq_true rfl), (Nat.le_of_ble_eq_true rfl)⟩ dX9_open_52 rfl rfl ?_
    refine r_iload_n (q := 56) C 0 dX9_open_55 rfl rfl ?_
    refine r_iadd (q := 57) C dX9_open_56 rfl ?_
    obtain ⟨_u, S25, h24, hf⟩ := m_bw_of hf
    refine r_callV (mc := 0) (ms := 0) (q := 60) (st1 := []) C (c_X9_lays hl h24) rfl w_955 w_956 w_1330 w_11 w_957 hd_X9_lays rfl (by decide) g1 rfl rfl rfl ⟨(Nat.le_of_ble_eq_true rfl), (Nat.le_of_ble_eq_true rfl)⟩ (Nat.le_of_ble_eq_true rfl) ⟨(Nat.le_of_ble_eq_true rfl), (Nat.le_of_ble_eq_true rfl)⟩ dX9_open_57 rfl rfl ?_
    refine r_aload_n (q := 61) C 1 dX9_open_60 rfl rfl ?_
    refine r_iload_n (q := 62) C 2 dX9_open_61 rfl rfl ?_
    refine r_iconst (q := 63) (v := (2 : Int32)) C dX9_open_62 (by decide) rfl ?_
    refine r_iload_n (q := 64) C 0 dX9_open_63 rfl rfl ?_
    refine r_i2l (q := 65) C dX9_open_64 rfl ?_
    obtain ⟨_u, S27, h26, hf⟩ := m_bw_of hf
    refine r_callV (mc := 0) (ms := 0) (q := 68) (st1 := []) C (c_X9_counts hl h26) rfl w_1188 w_1189 w_1359 w_11 w_1190 hd_X9_counts rfl (by decide) g1 rfl rfl rfl ⟨(Nat.le_of_ble_eq_true rfl), (Nat.le_of_ble_eq_true rfl)⟩ (Nat.le_of_ble_eq_true rfl) ⟨(Nat.le_of_ble_eq_true rfl), (Nat.le_of_ble_eq_true rfl)⟩ dX9_open_65 rfl rfl ?_
    refine r_iload_n (q := 69) C 0 dX9_open_68 rfl rfl ?_
    obtain ⟨rfl, rfl⟩ := m_so2 hf
    exact r_iret C F dX9_open_69
  · replace hf := m_if0 hf (fun z => z c9)
    refine r_iconst (q := 19) (v := (0 : Int32)) C dX9_open_18 (by decide) rfl ?_
    obtain ⟨rfl, rfl⟩ := m_so2 hf
    exact r_iret C F dX9_open_19
def f_X9_recordOf (Z : m_Z) (S : m_S) (a0 : Nat) (p1 : Int32) (p2 : Int32) : Option (Int32) := m_gd (m_ok Z a0 9) (m_b1 (S.2.2 a0 3) (fun b2 => m_gd (m_ok Z b2 11) (m_gd (m_in (0 : Int32) (Z.2.2 b2)) (m_b1 (f_X9_of Z S a0 p1 ((32 : Int32) + ((((S.1 b2 (0 : Int32).toNatClampNeg) - (1 : Int32)) - p2) - (((S.1 b2 (0 : Int32).toNatClampNeg) - (1 : Int32)) - p2) / (24 : Int32) * (24 : Int32)))) (fun v7 => some v7)))))
abbrev rm_X9_recordOf : Room := { frames := 1, cells := 0, slots := 0, locals := 22 }
theorem hd_X9_recordOf : yX9_recordOf.cls = RX9 ∧ yX9_recordOf.cls ≠ "java/lang/invoke/MethodHandle" ∧ yX9_recordOf.cls ≠ "java/lang/invoke/VarHandle" ∧ (parseMethodDescriptor yX9_recordOf.desc).map (fun d => d.parameters.length) = some 2 := by decide +kernel
set_option maxHeartbeats 4000000 in
set_option maxRecDepth 100000 in
theorem c_X9_recordOf {l : Launch} (hl : l.stackTraces = false) {Z : m_Z} {S : m_S} {a0 : Nat} {p1 : Int32} {p2 : Int32} {rZ9 : Int32} (hf : f_X9_recordOf Z S a0 p1 p2 = some rZ9) : m_Ct l yX9_recordOf (.code yX9_recordOf cX9_recordOf 3 (some .int) :: m_ws) rm_X9_recordOf (fun f => [.ref a0, .int p1, .int p2]) Z S (some (.int rZ9)) S := by
  unfold f_X9_recordOf at hf
  refine m_ent hl (by decide) (fun _ => Nat.le_of_ble_eq_true rfl) (fun x C F => ?_)
  have C : m_H x l RX9 cX9_recordOf 3 rm_X9_recordOf := C
  show m_G x Z S 3 0 0 0 [(0, .ref a0), (1, .int p1), (2, .int p2)] []
  refine r_aload_n (q := 1) C 0 dX9_recordOf_0 rfl rfl ?_
  refine r_iload_n (q := 2) C 1 dX9_recordOf_1 rfl rfl ?_
  refine r_bipush (q := 4) (v := (32 : Int32)) C dX9_recordOf_2 (by decide) rfl ?_
  refine r_aload_n (q := 5) C 0 dX9_recordOf_4 rfl rfl ?_
  obtain ⟨g1, hf⟩ := m_gd_of hf
  obtain ⟨b2, e3, hf⟩ := m_b1_of hf
  refine gf_X9_16 (q := 8) C dX9_recordOf_5 g1 e3 rfl ?_
  refine r_iconst (q := 9) (v := (0 : Int32)) C dX9_recordOf_8 (by decide) rfl ?_
  obtain ⟨g4, hf⟩ := m_gd_of hf
  obtain ⟨g5, hf⟩ := m_gd_of hf
  refine r_iald (q := 10) C dX9_recordOf_9 ⟨g4, g5⟩ rfl ?_
  refine r_iconst (q := 11) (v := (1 : Int32)) C dX9_recordOf_10 (by decide) rfl ?_
  refine r_isub (q := 12) C dX9_recordOf_11 rfl ?_
  refine r_iload_n (q := 13) C 2 dX9_recordOf_12 rfl rfl ?_
  refine r_isub (q := 14) C dX9_recordOf_13 rfl ?_
  refine r_bipush (q := 16) (v := (24 : Int32)) C dX9_recordOf_14 (by decide) rfl ?_
  refine r_irem (q := 17) C dX9_recordOf_16 (by decide) rfl ?_
  refine r_iadd (q := 18) C dX9_recordOf_17 rfl ?_
  obtain ⟨v7, h6, hf⟩ := m_b1_of hf
  refine r_callV (mc := 0) (ms := 0) (q := 21) (st1 := [.int v7]) C (c_X9_of hl h6) rfl w_937 w_938 w_1325 w_11 w_939 hd_X9_of rfl (by decide) g1 rfl rfl rfl ⟨(Nat.le_of_ble_eq_true rfl), (Nat.le_of_ble_eq_true rfl)⟩ (Nat.le_of_ble_eq_true rfl) ⟨(Nat.le_of_ble_eq_true rfl), (Nat.le_of_ble_eq_true rfl)⟩ dX9_recordOf_18 rfl rfl ?_
  obtain rfl := m_so1 hf
  exact r_iret C F dX9_recordOf_21
def f_X9_recorded (Z : m_Z) (S : m_S) (a0 : Nat) (p1 : Int32) (p2 : Int32) : Option (Int32 × m_S) := m_gd (m_ok Z a0 9) (m_lt (m_pI S a0 0 (0 : Int32)) (fun S2 => m_b1 (f_X9_isCase Z S2 a0 p1) (fun v5 => m_bw (f_X9_may Z S2 a0 v5 (1 : Int32)) (fun v8 S7 => (if v8 = 0 then some ((0 : Int32), S7) else m_b1 (f_X9_isIn Z S7 p2 (0 : Int32) (23 : Int32)) (fun v11 => m_bw (f_X9_may Z S7 a0 v11 (2 : Int32)) (fun v14 S13 => (if v14 = 0 then some ((0 : Int32), S13) else m_b1 (S13.2.2 a0 3) (fun b16 => m_gd (m_ok Z b16 11) (m_gd (m_in (0 : Int32) (Z.2.2 b16)) (m_jp (fun (v21 : Int32) => m_bw (f_X9_may Z S13 a0 v21 (3 : Int32)) (fun v24 S23 => (if ¬ v24 = 0 then m_b1 (f_X9_recordOf Z S23 a0 p1 p2) (fun v27 => some (v27, S23)) else some ((0 : Int32), S23)))) (fun j20 => (if (S13.1 b16 (0 : Int32).toNatClampNeg) ≤ p2 then j20 (0 : Int32) else j20 (1 : Int32))))))))))))))
abbrev rm_X9_recorded : Room := { frames := 2, cells := 0, slots := 0, locals := 44 }
theorem hd_X9_recorded : yX9_recorded.cls = RX9 ∧ yX9_recorded.cls ≠ "java/lang/invoke/MethodHandle" ∧ yX9_recorded.cls ≠ "java/lang/invoke/VarHandle" ∧ (parseMethodDescriptor yX9_recorded.desc).map (fun d => d.parameters.length) = some 2 := by decide +kernel
set_option maxHeartbeats 4000000 in
set_option maxRecDepth 100000 in
theorem c_X9_recorded {l : Launch} (hl : l.stackTraces = false) {Z : m_Z} {S : m_S} {a0 : Nat} {p1 : Int32} {p2 : Int32} {rZ9 : Int32} {SZ9 : m_S} (hf : f_X9_recorded Z S a0 p1 p2 = some (rZ9, SZ9)) : m_Ct l yX9_recorded (.code yX9_recorded cX9_recorded 3 (some .int) :: m_ws) rm_X9_recorded (fun f => [.ref a0, .int p1, .int p2]) Z S (some (.int rZ9)) SZ9 := by
  unfold f_X9_recorded at hf
  refine m_ent hl (by decide) (fun _ => Nat.le_of_ble_eq_true rfl) (fun x C F => ?_)
  have C : m_H x l RX9 cX9_recorded 3 rm_X9_recorded := C
  show m_G x Z S 3 0 0 0 [(0, .ref a0), (1, .int p1), (2, .int p2)] []
  refine r_aload_n (q := 1) C 0 dX9_recorded_0 rfl rfl ?_
  refine r_iconst (q := 2) (v := (0 : Int32)) C dX9_recorded_1 (by decide) rfl ?_
  obtain ⟨g1, hf⟩ := m_gd_of hf
  obtain ⟨S2, e3, hf⟩ := m_lt_of hf
  refine pf_X9_61 (q := 5) C dX9_recorded_2 g1 e3 rfl ?_
  refine r_aload_n (q := 6) C 0 dX9_recorded_5 rfl rfl ?_
  refine r_aload_n (q := 7) C 0 dX9_recorded_6 rfl rfl ?_
  refine r_iload_n (q := 8) C 1 dX9_recorded_7 rfl rfl ?_
  obtain ⟨v5, h4, hf⟩ := m_b1_of hf
  refine r_callV (mc := 0) (ms := 0) (q := 11) (st1 := [.int v5, .ref a0]) C (c_X9_isCase hl h4) rfl w_1146 w_1147 w_1356 w_11 w_1148 hd_X9_isCase rfl (by decide) g1 rfl rfl rfl ⟨(Nat.le_of_ble_eq_true rfl), (Nat.le_of_ble_eq_true rfl)⟩ (Nat.le_of_ble_eq_true rfl) ⟨(Nat.le_of_ble_eq_true rfl), (Nat.le_of_ble_eq_true rfl)⟩ dX9_recorded_8 rfl rfl ?_
  refine r_iconst (q := 12) (v := (1 : Int32)) C dX9_recorded_11 (by decide) rfl ?_
  obtain ⟨v8, S7, h6, hf⟩ := m_bw_of hf
  refine r_callV (mc := 0) (ms := 0) (q := 15) (st1 := [.int v8]) C (c_X9_may hl h6) rfl w_1024 w_1025 w_1333 w_11 w_1026 hd_X9_may rfl (by decide) g1 rfl rfl rfl ⟨(Nat.le_of_ble_eq_true rfl), (Nat.le_of_ble_eq_true rfl)⟩ (Nat.le_of_ble_eq_true rfl) ⟨(Nat.le_of_ble_eq_true rfl), (Nat.le_of_ble_eq_true rfl)⟩ dX9_recorded_12 rfl rfl ?_
  refine r_if_eq (t := 56) (q := 18) C dX9_recorded_15 (by decide) rfl (fun c9 => ?_) (fun c9 => ?_)
  · replace hf := m_if1 hf c9
    refine r_iconst (q := 57) (v := (0 : Int32)) C dX9_recorded_56 (by decide) rfl ?_
    obtain ⟨rfl, rfl⟩ := m_so2 hf
    exact r_iret C F dX9_recorded_57
  · replace hf := m_if0 hf c9
    refine r_aload_n (q := 19) C 0 dX9_recorded_18 rfl rfl ?_
    refine r_iload_n (q := 20) C 2 dX9_recorded_19 rfl rfl ?_
    refine r_iconst (q := 21) (v := (0 : Int32)) C dX9_recorded_20 (by decide) rfl ?_
    refine r_bipush (q := 23) (v := (23 : Int32)) C dX9_recorded_21 (by decide) rfl ?_
    obtain ⟨v11, h10, hf⟩ := m_b1_of hf
    refine r_callS (mc := 0) (ms := 0) (q := 26) (st1 := [.int v11, .ref a0]) C (c_X9_isIn hl h10) rfl w_1031 w_1032 w_11 w_1033 hd_X9_isIn rfl rfl rfl ⟨(Nat.le_of_ble_eq_true rfl), (Nat.le_of_ble_eq_true rfl)⟩ (Nat.le_of_ble_eq_true rfl) ⟨(Nat.le_of_ble_eq_true rfl), (Nat.le_of_ble_eq_true rfl)⟩ dX9_recorded_23 rfl rfl ?_
    refine r_iconst (q := 27) (v := (2 : Int32)) C dX9_recorded_26 (by decide) rfl ?_
    obtain ⟨v14, S13, h12, hf⟩ := m_bw_of hf
    refine r_callV (mc := 0) (ms := 0) (q := 30) (st1 := [.int v14]) C (c_X9_may hl h12) rfl w_1024 w_1025 w_1333 w_11 w_1026 hd_X9_may rfl (by decide) g1 rfl rfl rfl ⟨(Nat.le_of_ble_eq_true rfl), (Nat.le_of_ble_eq_true rfl)⟩ (Nat.le_of_ble_eq_true rfl) ⟨(Nat.le_of_ble_eq_true rfl), (Nat.le_of_ble_eq_true rfl)⟩ dX9_recorded_27 rfl rfl ?_
    refine r_if_eq (t := 56) (q := 33) C dX9_recorded_30 (by decide) rfl (fun c15 => ?_) (fun c15 => ?_)
    · replace hf := m_if1 hf c15
      refine r_iconst (q := 57) (v := (0 : Int32)) C dX9_recorded_56 (by decide) rfl ?_
      obtain ⟨rfl, rfl⟩ := m_so2 hf
      exact r_iret C F dX9_recorded_57
    · replace hf := m_if0 hf c15
      refine r_aload_n (q := 34) C 0 dX9_recorded_33 rfl rfl ?_
      refine r_iload_n (q := 35) C 2 dX9_recorded_34 rfl rfl ?_
      refine r_aload_n (q := 36) C 0 dX9_recorded_35 rfl rfl ?_
      obtain ⟨b16, e17, hf⟩ := m_b1_of hf
      refine gf_X9_16 (q := 39) C dX9_recorded_36 g1 e17 rfl ?_
      refine r_iconst (q := 40) (v := (0 : Int32)) C dX9_recorded_39 (by decide) rfl ?_
      obtain ⟨g18, hf⟩ := m_gd_of hf
      obtain ⟨g19, hf⟩ := m_gd_of hf
      refine r_iald (q := 41) C dX9_recorded_40 ⟨g18, g19⟩ rfl ?_
      obtain ⟨j20, ej20, hf⟩ := m_jp_of hf
      have J20 : ∀ (v21 : Int32), j20 v21 = some (rZ9, SZ9) → m_G x Z S13 3 0 0 49 [(0, .ref a0), (1, .int p1), (2, .int p2)] [.int v21, .ref a0] := by
        intro v21 hf
        rw [ej20] at hf
        refine r_iconst (q := 50) (v := (3 : Int32)) C dX9_recorded_49 (by decide) rfl ?_
        obtain ⟨v24, S23, h22, hf⟩ := m_bw_of hf
        refine r_callV (mc := 0) (ms := 0) (q := 53) (st1 := [.int v24]) C (c_X9_may hl h22) rfl w_1024 w_1025 w_1333 w_11 w_1026 hd_X9_may rfl (by decide) g1 rfl rfl rfl ⟨(Nat.le_of_ble_eq_true rfl), (Nat.le_of_ble_eq_true rfl)⟩ (Nat.le_of_ble_eq_true rfl) ⟨(Nat.le_of_ble_eq_true rfl), (Nat.le_of_ble_eq_true rfl)⟩ dX9_recorded_50 rfl rfl ?_
        refine r_if_ne (t := 58) (q := 56) C dX9_recorded_53 (by decide) rfl (fun c25 => ?_) (fun c25 => ?_)
        · replace hf := m_if1 hf c25
          refine r_aload_n (q := 59) C 0 dX9_recorded_58 rfl rfl ?_
          refine r_iload_n (q := 60) C 1 dX9_recorded_59 rfl rfl ?_
          refine r_iload_n (q := 61) C 2 dX9_recorded_60 rfl rfl ?_
          obtain ⟨v27, h26, hf⟩ := m_b1_of hf
          refine r_callV (mc := 0) (ms := 0) (q := 64) (st1 := [.int v27]) C (c_X9_recordOf hl h26) rfl w_1161 w_1162 w_1358 w_11 w_1163 hd_X9_recordOf rfl (by decide) g1 rfl rfl rfl ⟨(Nat.le_of_ble_eq_true rfl), (Nat.le_of_ble_eq_true rfl)⟩ (Nat.le_of_ble_eq_true rfl) ⟨(Nat.le_of_ble_eq_true rfl), (Nat.le_of_ble_eq_true rfl)⟩ dX9_recorded_61 rfl rfl ?_
          obtain ⟨rfl, rfl⟩ := m_so2 hf
          exact r_iret C F dX9_recorded_64
        · replace hf := m_if0 hf (fun z => z c25)
          refine r_iconst (q := 57) (v := (0 : Int32)) C dX9_recorded_56 (by decide) rfl ?_
          obtain ⟨rfl, rfl⟩ := m_so2 hf
          exact r_iret C F dX9_recorded_57
      refine r_icmp_ge (t := 48) (q := 44) C dX9_recorded_41 (by decide) rfl (fun c28 => ?_) (fun c28 => ?_)
      · replace hf := m_if1 hf c28
        refine r_iconst (q := 49) (v := (0 : Int32)) C dX9_recorded_48 (by decide) rfl ?_
        exact J20 (0 : Int32) hf
      · replace hf := m_if0 hf c28
        refine r_iconst (q := 45) (v := (1 : Int32)) C dX9_recorded_44 (by decide) rfl ?_
        refine r_goto (t := 49) C dX9_recorded_45 (by decide) ?_
        exact J20 (1 : Int32) hf
def f_X9_remove (Z : m_Z) (S : m_S) (a0 : Nat) (p1 : Int32) : Option (Int32 × m_S) := m_gd (m_ok Z a0 9) (m_lt (m_pI S a0 0 (0 : Int32)) (fun S2 => m_bw (f_X9_finds Z S2 a0 p1) (fun v6 S5 => m_bw (f_X9_may Z S5 a0 v6 (1 : Int32)) (fun v9 S8 => (if v9 = 0 then some ((0 : Int32), S8) else m_bw (f_X9_goes Z S8 a0 (S8.1 a0 23) (S8.1 a0 24)) (fun v13 S12 => some (v13, S12)))))))
abbrev rm_X9_remove : Room := { frames := 2, cells := 0, slots := 0, locals := 48 }
theorem hd_X9_remove : yX9_remove.cls = RX9 ∧ yX9_remove.cls ≠ "java/lang/invoke/MethodHandle" ∧ yX9_remove.cls ≠ "java/lang/invoke/VarHandle" ∧ (parseMethodDescriptor yX9_remove.desc).map (fun d => d.parameters.length) = some 1 := by decide +kernel
set_option maxHeartbeats 4000000 in
set_option maxRecDepth 100000 in
theorem c_X9_remove {l : Launch} (hl : l.stackTraces = false) {Z : m_Z} {S : m_S} {a0 : Nat} {p1 : Int32} {rZ9 : Int32} {SZ9 : m_S} (hf : f_X9_remove Z S a0 p1 = some (rZ9, SZ9)) : m_Ct l yX9_remove (.code yX9_remove cX9_remove 2 (some .int) :: m_ws) rm_X9_remove (fun f => [.ref a0, .int p1]) Z S (some (.int rZ9)) SZ9 := by
  unfold f_X9_remove at hf
  refine m_ent hl (by decide) (fun _ => Nat.le_of_ble_eq_true rfl) (fun x C F => ?_)
  have C : m_H x l RX9 cX9_remove 2 rm_X9_remove := C
  show m_G x Z S 2 0 0 0 [(0, .ref a0), (1, .int p1)] []
  refine r_aload_n (q := 1) C 0 dX9_remove_0 rfl rfl ?_
  refine r_iconst (q := 2) (v := (0 : Int32)) C dX9_remove_1 (by decide) rfl ?_
  obtain ⟨g1, hf⟩ := m_gd_of hf
  obtain ⟨S2, e3, hf⟩ := m_lt_of hf
  refine pf_X9_61 (q := 5) C dX9_remove_2 g1 e3 rfl ?_
  refine r_aload_n (q := 6) C 0 dX9_remove_5 rfl rfl ?_
  refine r_aload_n (q := 7) C 0 dX9_remove_6 rfl rfl ?_
  refine r_iload_n (q := 8) C 1 dX9_remove_7 rfl rfl ?_
  obtain ⟨v6, S5, h4, hf⟩ := m_bw_of hf
  refine r_callV (mc := 0) (ms := 0) (q := 11) (st1 := [.int v6, .ref a0]) C (c_X9_finds hl h4) rfl w_1202 w_1203 w_1361 w_11 w_1204 hd_X9_finds rfl (by decide) g1 rfl rfl rfl ⟨(Nat.le_of_ble_eq_true rfl), (Nat.le_of_ble_eq_true rfl)⟩ (Nat.le_of_ble_eq_true rfl) ⟨(Nat.le_of_ble_eq_true rfl), (Nat.le_of_ble_eq_true rfl)⟩ dX9_remove_8 rfl rfl ?_
  refine r_iconst (q := 12) (v := (1 : Int32)) C dX9_remove_11 (by decide) rfl ?_
  obtain ⟨v9, S8, h7, hf⟩ := m_bw_of hf
  refine r_callV (mc := 0) (ms := 0) (q := 15) (st1 := [.int v9]) C (c_X9_may hl h7) rfl w_1024 w_1025 w_1333 w_11 w_1026 hd_X9_may rfl (by decide) g1 rfl rfl rfl ⟨(Nat.le_of_ble_eq_true rfl), (Nat.le_of_ble_eq_true rfl)⟩ (Nat.le_of_ble_eq_true rfl) ⟨(Nat.le_of_ble_eq_true rfl), (Nat.le_of_ble_eq_true rfl)⟩ dX9_remove_12 rfl rfl ?_
  refine r_if_eq (t := 33) (q := 18) C dX9_remove_15 (by decide) rfl (fun c10 => ?_) (fun c10 => ?_)
  · replace hf := m_if1 hf c10
    refine r_iconst (q := 34) (v := (0 : Int32)) C dX9_remove_33 (by decide) rfl ?_
    obtain ⟨rfl, rfl⟩ := m_so2 hf
    exact r_iret C F dX9_remove_34
  · replace hf := m_if0 hf c10
    refine r_aload_n (q := 19) C 0 dX9_remove_18 rfl rfl ?_
    refine r_aload_n (q := 20) C 0 dX9_remove_19 rfl rfl ?_
    refine gf_X9_252 (q := 23) C dX9_remove_20 g1 rfl ?_
    refine r_aload_n (q := 24) C 0 dX9_remove_23 rfl rfl ?_
    refine gf_X9_255 (q := 27) C dX9_remove_24 g1 rfl ?_
    obtain ⟨v13, S12, h11, hf⟩ := m_bw_of hf
    refine r_callV (mc := 0) (ms := 0) (q := 30) (st1 := [.int v13]) C (c_X9_goes hl h11) rfl w_1222 w_1223 w_1365 w_11 w_1224 hd_X9_goes rfl (by decide) g1 rfl rfl rfl ⟨(Nat.le_of_ble_eq_true rfl), (Nat.le_of_ble_eq_true rfl)⟩ (Nat.le_of_ble_eq_true rfl) ⟨(Nat.le_of_ble_eq_true rfl), (Nat.le_of_ble_eq_true rfl)⟩ dX9_remove_27 rfl rfl ?_
    refine r_goto (t := 34) C dX9_remove_30 (by decide) ?_
    obtain ⟨rfl, rfl⟩ := m_so2 hf
    exact r_iret C F dX9_remove_34
def f_X9_report (Z : m_Z) (S : m_S) (a0 : Nat) (p1 : Int32) : Option (Int32 × m_S) := m_gd (m_ok Z a0 9) (m_lt (m_pI S a0 0 (0 : Int32)) (fun S2 => m_b1 (f_X9_isIn Z S2 p1 (0 : Int32) (9 : Int32)) (fun v5 => m_bw (f_X9_may Z S2 a0 v5 (1 : Int32)) (fun v8 S7 => (if ¬ v8 = 0 then (if p1 = Int32.ofNat 0 then m_b1 (S7.2.2 a0 3) (fun b11 => m_gd (m_ok Z b11 11) (m_gd (m_in (0 : Int32) (Z.2.2 b11)) (some ((S7.1 b11 (0 : Int32).toNatClampNeg), S7)))) else (if p1 = Int32.ofNat 1 then m_b1 (S7.2.2 a0 3) (fun b16 => m_gd (m_ok Z b16 11) (m_gd (m_in (0 : Int32) (Z.2.2 b16)) (some ((((S7.1 b16 (0 : Int32).toNatClampNeg) / (24 : Int32)) - ((S7.1 b16 (0 : Int32).toNatClampNeg) / (24 : Int32)) / (365 : Int32) * (365 : Int32)), S7)))) else (if p1 = Int32.ofNat 2 then m_b1 (S7.2.2 a0 3) (fun b21 => m_gd (m_ok Z b21 11) (m_gd (m_in (0 : Int32) (Z.2.2 b21)) (some (((S7.1 b21 (0 : Int32).toNatClampNeg) - (S7.1 b21 (0 : Int32).toNatClampNeg) / (24 : Int32) * (24 : Int32)), S7)))) else (if p1 = Int32.ofNat 3 then m_b1 (S7.2.2 a0 1) (fun b26 => m_gd (m_ok Z b26 11) (m_gd (m_in (5 : Int32) (Z.2.2 b26)) (some ((S7.1 b26 (5 : Int32).toNatClampNeg), S7)))) else (if p1 = Int32.ofNat 4 then m_b1 (S7.2.2 a0 1) (fun b31 => m_gd (m_ok Z b31 11) (m_gd (m_in (4 : Int32) (Z.2.2 b31)) (some ((S7.1 b31 (4 : Int32).toNatClampNeg), S7)))) else (if p1 = Int32.ofNat 5 then m_b1 (f_X9_cassettesInAll Z S7 a0) (fun v37 => some (v37, S7)) else (if p1 = Int32.ofNat 6 then m_b1 (S7.2.2 a0 3) (fun b39 => m_gd (m_ok Z b39 11) (m_gd (m_in (3 : Int32) (Z.2.2 b39)) (some ((S7.1 b39 (3 : Int32).toNatClampNeg), S7)))) else (if p1 = Int32.ofNat 7 then m_b1 (S7.2.2 a0 3) (fun b44 => m_gd (m_ok Z b44 11) (m_gd (m_in (1 : Int32) (Z.2.2 b44)) (some ((S7.1 b44 (1 : Int32).toNatClampNeg), S7)))) else (if p1 = Int32.ofNat 8 then m_b1 (f_X9_roomNow Z S7 a0) (fun v50 => some (v50, S7)) else m_b1 (S7.2.2 a0 3) (fun b51 => m_gd (m_ok Z b51 11) (m_gd (m_in (2 : Int32) (Z.2.2 b51)) (some ((S7.1 b51 (2 : Int32).toNatClampNeg), S7))))))))))))) else some ((0 : Int32), S7))))))
abbrev rm_X9_report : Room := { frames := 3, cells := 0, slots := 0, locals := 71 }
theorem hd_X9_report : yX9_report.cls = RX9 ∧ yX9_report.cls ≠ "java/lang/invoke/MethodHandle" ∧ yX9_report.cls ≠ "java/lang/invoke/VarHandle" ∧ (parseMethodDescriptor yX9_report.desc).map (fun d => d.parameters.length) = some 1 := by decide +kernel
set_option maxHeartbeats 4000000 in
set_option maxRecDepth 100000 in
theorem c_X9_report {l : Launch} (hl : l.stackTraces = false) {Z : m_Z} {S : m_S} {a0 : Nat} {p1 : Int32} {rZ9 : Int32} {SZ9 : m_S} (hf : f_X9_report Z S a0 p1 = some (rZ9, SZ9)) : m_Ct l yX9_report (.code yX9_report cX9_report 2 (some .int) :: m_ws) rm_X9_report (fun f => [.ref a0, .int p1]) Z S (some (.int rZ9)) SZ9 := by
  unfold f_X9_report at hf
  refine m_ent hl (by decide) (fun _ => Nat.le_of_ble_eq_true rfl) (fun x C F => ?_)
  have C : m_H x l RX9 cX9_report 2 rm_X9_report := C
  show m_G x Z S 2 0 0 0 [(0, .ref a0), (1, .int p1)] []
  refine r_aload_n (q := 1) C 0 dX9_report_0 rfl rfl ?_
  refine r_iconst (q := 2) (v := (0 : Int32)) C dX9_report_1 (by decide) rfl ?_
  obtain ⟨g1, hf⟩ := m_gd_of hf
  obtain ⟨S2, e3, hf⟩ := m_lt_of hf
  refine pf_X9_61 (q := 5) C dX9_report_2 g1 e3 rfl ?_
  refine r_aload_n (q := 6) C 0 dX9_report_5 rfl rfl ?_
  refine r_iload_n (q := 7) C 1 dX9_report_6 rfl rfl ?_
  refine r_iconst (q := 8) (v := (0 : Int32)) C dX9_report_7 (by decide) rfl ?_
  refine r_bipush (q := 10) (v := (9 : Int32)) C dX9_report_8 (by decide) rfl ?_
  obtain ⟨v5, h4, hf⟩ := m_b1_of hf
  refine r_callS (mc := 0) (ms := 0) (q := 13) (st1 := [.int v5, .ref a0]) C (c_X9_isIn hl h4) rfl w_1031 w_1032 w_11 w_1033 hd_X9_isIn rfl rfl rfl ⟨(Nat.le_of_ble_eq_true rfl), (Nat.le_of_ble_eq_true rfl)⟩ (Nat.le_of_ble_eq_true rfl) ⟨(Nat.le_of_ble_eq_true rfl), (Nat.le_of_ble_eq_true rfl)⟩ dX9_report_10 rfl rfl ?_
  refine r_iconst (q := 14) (v := (1 : Int32)) C dX9_report_13 (by decide) rfl ?_
  obtain ⟨v8, S7, h6, hf⟩ := m_bw_of hf
  refine r_callV (mc := 0) (ms := 0) (q := 17) (st1 := [.int v8]) C (c_X9_may hl h6) rfl w_1024 w_1025 w_1333 w_11 w_1026 hd_X9_may rfl (by decide) g1 rfl rfl rfl ⟨(Nat.le_of_ble_eq_true rfl), (Nat.le_of_ble_eq_true rfl)⟩ (Nat.le_of_ble_eq_true rfl) ⟨(Nat.le_of_ble_eq_true rfl), (Nat.le_of_ble_eq_true rfl)⟩ dX9_report_14 rfl rfl ?_
  refine r_if_ne (t := 22) (q := 20) C dX9_report_17 (by decide) rfl (fun c9 => ?_) (fun c9 => ?_)
  · replace hf := m_if1 hf c9
    refine r_iload_n (q := 23) C 1 dX9_report_22 rfl rfl ?_
    by_cases c10 : p1 = Int32.ofNat 0
    · replace hf := m_if1 hf c10
      refine r_tsw (N := 0) (t := 72) (v := 0) C dX9_report_23 c10 (by decide) (by decide) rfl (by decide) ?_
      refine r_aload_n (q := 73) C 0 dX9_report_72 rfl rfl ?_
      obtain ⟨b11, e12, hf⟩ := m_b1_of hf
      refine gf_X9_16 (q := 76) C dX9_report_73 g1 e12 rfl ?_
      refine r_iconst (q := 77) (v := (0 : Int32)) C dX9_report_76 (by decide) rfl ?_
      obtain ⟨g13, hf⟩ := m_gd_of hf
      obtain ⟨g14, hf⟩ := m_gd_of hf
      refine r_iald (q := 78) C dX9_report_77 ⟨g13, g14⟩ rfl ?_
      obtain ⟨rfl, rfl⟩ := m_so2 hf
      exact r_iret C F dX9_report_78
    · replace hf := m_if0 hf c10
      by_cases c15 : p1 = Int32.ofNat 1
      · replace hf := m_if1 hf c15
        refine r_tsw (N := 0) (t := 79) (v := 1) C dX9_report_23 c15 (by decide) (by decide) rfl (by decide) ?_
        refine r_aload_n (q := 80) C 0 dX9_report_79 rfl rfl ?_
        obtain ⟨b16, e17, hf⟩ := m_b1_of hf
        refine gf_X9_16 (q := 83) C dX9_report_80 g1 e17 rfl ?_
        refine r_iconst (q := 84) (v := (0 : Int32)) C dX9_report_83 (by decide) rfl ?_
        obtain ⟨g18, hf⟩ := m_gd_of hf
        obtain ⟨g19, hf⟩ := m_gd_of hf
        refine r_iald (q := 85) C dX9_report_84 ⟨g18, g19⟩ rfl ?_
        refine r_bipush (q := 87) (v := (24 : Int32)) C dX9_report_85 (by decide) rfl ?_
        refine r_idiv (q := 88) C dX9_report_87 (by decide) rfl ?_
        refine r_sipush (q := 91) (v := (365 : Int32)) C dX9_report_88 (by decide) rfl ?_
        refine r_irem (q := 92) C dX9_report_91 (by decide) rfl ?_
        obtain ⟨rfl, rfl⟩ := m_so2 hf
        exact r_iret C F dX9_report_92
      · replace hf := m_if0 hf c15
        by_cases c20 : p1 = Int32.ofNat 2
        · replace hf := m_if1 hf c20
          refine r_tsw (N := 0) (t := 93) (v := 2) C dX9_report_23 c20 (by decide) (by decide) rfl (by decide) ?_
          refine r_aload_n (q := 94) C 0 dX9_report_93 rfl rfl ?_
          obtain ⟨b21, e22, hf⟩ := m_b1_of hf
          refine gf_X9_16 (q := 97) C dX9_report_94 g1 e22 rfl ?_
          refine r_iconst (q := 98) (v := (0 : Int32)) C dX9_report_97 (by decide) rfl ?_
          obtain ⟨g23, hf⟩ := m_gd_of hf
          obtain ⟨g24, hf⟩ := m_gd_of hf
          refine r_iald (q := 99) C dX9_report_98 ⟨g23, g24⟩ rfl ?_
          refine r_bipush (q := 101) (v := (24 : Int32)) C dX9_report_99 (by decide) rfl ?_
          refine r_irem (q := 102) C dX9_report_101 (by decide) rfl ?_
          obtain ⟨rfl, rfl⟩ := m_so2 hf
          exact r_iret C F dX9_report_102
        · replace hf := m_if0 hf c20
          by_cases c25 : p1 = Int32.ofNat 3
          · replace hf := m_if1 hf c25
            refine r_tsw (N := 0) (t := 103) (v := 3) C dX9_report_23 c25 (by decide) (by decide) rfl (by decide) ?_
            refine r_aload_n (q := 104) C 0 dX9_report_103 rfl rfl ?_
            obtain ⟨b26, e27, hf⟩ := m_b1_of hf
            refine gf_X9_7 (q := 107) C dX9_report_104 g1 e27 rfl ?_
            refine r_iconst (q := 108) (v := (5 : Int32)) C dX9_report_107 (by decide) rfl ?_
            obtain ⟨g28, hf⟩ := m_gd_of hf
            obtain ⟨g29, hf⟩ := m_gd_of hf
            refine r_iald (q := 109) C dX9_report_108 ⟨g28, g29⟩ rfl ?_
            obtain ⟨rfl, rfl⟩ := m_so2 hf
            exact r_iret C F dX9_report_109
          · replace hf := m_if0 hf c25
            by_cases c30 : p1 = Int32.ofNat 4
            · replace hf := m_if1 hf c30
              refine r_tsw (N := 0) (t := 110) (v := 4) C dX9_report_23 c30 (by decide) (by decide) rfl (by decide) ?_
              refine r_aload_n (q := 111) C 0 dX9_report_110 rfl rfl ?_
              obtain ⟨b31, e32, hf⟩ := m_b1_of hf
              refine gf_X9_7 (q := 114) C dX9_report_111 g1 e32 rfl ?_
              refine r_iconst (q := 115) (v := (4 : Int32)) C dX9_report_114 (by decide) rfl ?_
              obtain ⟨g33, hf⟩ := m_gd_of hf
              obtain ⟨g34, hf⟩ := m_gd_of hf
              refine r_iald (q := 116) C dX9_report_115 ⟨g33, g34⟩ rfl ?_
              obtain ⟨rfl, rfl⟩ := m_so2 hf
              exact r_iret C F dX9_report_116
            · replace hf := m_if0 hf c30
              by_cases c35 : p1 = Int32.ofNat 5
              · replace hf := m_if1 hf c35
                refine r_tsw (N := 0) (t := 117) (v := 5) C dX9_report_23 c35 (by decide) (by decide) rfl (by decide) ?_
                refine r_aload_n (q := 118) C 0 dX9_report_117 rfl rfl ?_
                obtain ⟨v37, h36, hf⟩ := m_b1_of hf
                refine r_callV (mc := 0) (ms := 0) (q := 121) (st1 := [.int v37]) C (c_X9_cassettesInAll hl h36) rfl w_1114 w_1115 w_1352 w_11 w_1116 hd_X9_cassettesInAll rfl (by decide) g1 rfl rfl rfl ⟨(Nat.le_of_ble_eq_true rfl), (Nat.le_of_ble_eq_true rfl)⟩ (Nat.le_of_ble_eq_true rfl) ⟨(Nat.le_of_ble_eq_true rfl), (Nat.le_of_ble_eq_true rfl)⟩ dX9_report_118 rfl rfl ?_
                obtain ⟨rfl, rfl⟩ := m_so2 hf
                exact r_iret C F dX9_report_121
              · replace hf := m_if0 hf c35
                by_cases c38 : p1 = Int32.ofNat 6
                · replace hf := m_if1 hf c38
                  refine r_tsw (N := 0) (t := 122) (v := 6) C dX9_report_23 c38 (by decide) (by decide) rfl (by decide) ?_
                  refine r_aload_n (q := 123) C 0 dX9_report_122 rfl rfl ?_
                  obtain ⟨b39, e40, hf⟩ := m_b1_of hf
                  refine gf_X9_16 (q := 126) C dX9_report_123 g1 e40 rfl ?_
                  refine r_iconst (q := 127) (v := (3 : Int32)) C dX9_report_126 (by decide) rfl ?_
                  obtain ⟨g41, hf⟩ := m_gd_of hf
                  obtain ⟨g42, hf⟩ := m_gd_of hf
                  refine r_iald (q := 128) C dX9_report_127 ⟨g41, g42⟩ rfl ?_
                  obtain ⟨rfl, rfl⟩ := m_so2 hf
                  exact r_iret C F dX9_report_128
                · replace hf := m_if0 hf c38
                  by_cases c43 : p1 = Int32.ofNat 7
                  · replace hf := m_if1 hf c43
                    refine r_tsw (N := 0) (t := 129) (v := 7) C dX9_report_23 c43 (by decide) (by decide) rfl (by decide) ?_
                    refine r_aload_n (q := 130) C 0 dX9_report_129 rfl rfl ?_
                    obtain ⟨b44, e45, hf⟩ := m_b1_of hf
                    refine gf_X9_16 (q := 133) C dX9_report_130 g1 e45 rfl ?_
                    refine r_iconst (q := 134) (v := (1 : Int32)) C dX9_report_133 (by decide) rfl ?_
                    obtain ⟨g46, hf⟩ := m_gd_of hf
                    obtain ⟨g47, hf⟩ := m_gd_of hf
                    refine r_iald (q := 135) C dX9_report_134 ⟨g46, g47⟩ rfl ?_
                    obtain ⟨rfl, rfl⟩ := m_so2 hf
                    exact r_iret C F dX9_report_135
                  · replace hf := m_if0 hf c43
                    by_cases c48 : p1 = Int32.ofNat 8
                    · replace hf := m_if1 hf c48
                      refine r_tsw (N := 0) (t := 136) (v := 8) C dX9_report_23 c48 (by decide) (by decide) rfl (by decide) ?_
                      refine r_aload_n (q := 137) C 0 dX9_report_136 rfl rfl ?_
                      obtain ⟨v50, h49, hf⟩ := m_b1_of hf
                      refine r_callV (mc := 0) (ms := 0) (q := 140) (st1 := [.int v50]) C (c_X9_roomNow hl h49) rfl w_1117 w_1118 w_1353 w_11 w_1119 hd_X9_roomNow rfl (by decide) g1 rfl rfl rfl ⟨(Nat.le_of_ble_eq_true rfl), (Nat.le_of_ble_eq_true rfl)⟩ (Nat.le_of_ble_eq_true rfl) ⟨(Nat.le_of_ble_eq_true rfl), (Nat.le_of_ble_eq_true rfl)⟩ dX9_report_137 rfl rfl ?_
                      obtain ⟨rfl, rfl⟩ := m_so2 hf
                      exact r_iret C F dX9_report_140
                    · replace hf := m_if0 hf c48
                      refine r_tswO (t := 141) (N := 8) C dX9_report_23 rfl (m_tS (m_tS (m_tS (m_tS (m_tS (m_tS (m_tS (m_tS (m_tS m_t0 c10) c15) c20) c25) c30) c35) c38) c43) c48) (by decide) ?_
                      refine r_aload_n (q := 142) C 0 dX9_report_141 rfl rfl ?_
                      obtain ⟨b51, e52, hf⟩ := m_b1_of hf
                      refine gf_X9_16 (q := 145) C dX9_report_142 g1 e52 rfl ?_
                      refine r_iconst (q := 146) (v := (2 : Int32)) C dX9_report_145 (by decide) rfl ?_
                      obtain ⟨g53, hf⟩ := m_gd_of hf
                      obtain ⟨g54, hf⟩ := m_gd_of hf
                      refine r_iald (q := 147) C dX9_report_146 ⟨g53, g54⟩ rfl ?_
                      obtain ⟨rfl, rfl⟩ := m_so2 hf
                      exact r_iret C F dX9_report_147
  · replace hf := m_if0 hf (fun z => z c9)
    refine r_iconst (q := 21) (v := (0 : Int32)) C dX9_report_20 (by decide) rfl ?_
    obtain ⟨rfl, rfl⟩ := m_so2 hf
    exact r_iret C F dX9_report_21
def F_X9_restOf_56 (Z : m_Z) (a0 : Nat) (p1 : Int32) (S7 : m_S) (v21 : Int32) (j48 : (Int64 → Option (Int32 × m_S))) (lp51 : (Int64 × Int32) → Option (Int32 × m_S)) (p68 : (Int64 × Int32)) : Option (Int32 × m_S) := match p68 with
  | (w49, v50) => m_b1 (f_X9_of Z S7 a0 p1 (4 : Int32)) (fun v56 => (if v56 ≤ v50 then j48 w49 else m_b1 (f_X9_its Z S7 a0 p1 v50 (1 : Int32)) (fun v59 => m_b1 (f_X9_its Z S7 a0 p1 v50 (2 : Int32)) (fun v61 => m_b1 (f_X9_wouldHave Z S7 a0 v59 v61 v21) (fun v63 => m_lt (w49 + v63.toInt64) (fun w64 => m_lt (v50 + (1 : Int32)) (fun v66 => lp51 (w64, v66))))))))
def F_X9_restOf_24 (Z : m_Z) (a0 : Nat) (p1 : Int32) (S7 : m_S) (j20 : (Int32 → Option (Int32 × m_S))) (lp23 : (Int32 × Int32) → Option (Int32 × m_S)) (p69 : (Int32 × Int32)) : Option (Int32 × m_S) := match p69 with
  | (v21, v22) => (if (1000 : Int32) < v21 then j20 v21 else (if ¬ v22 = 0 then j20 v21 else m_b1 (S7.2.2 a0 1) (fun b29 => m_gd (m_ok Z b29 11) (m_lt ((110 : Int32) + p1) (fun v32 => m_gd (m_in v32 (Z.2.2 b29)) (m_lt ((((S7.1 b29 v32.toNatClampNeg) * v21) / (1000 : Int32)).toInt64) (fun w35 => m_jp (fun (w37 : Int64) => m_b1 (f_X9_moistureOf Z S7 a0 p1) (fun w39 => m_jp (fun (v41 : Int32) => (if v41 = 0 then m_lt (v21 + (1 : Int32)) (fun v43 => lp23 (v43, v41)) else m_lt (v21 + (0 : Int32)) (fun v45 => lp23 (v45, v41)))) (fun j40 => (if (lg_cmp w37 w39) < 0 then j40 (0 : Int32) else j40 (1 : Int32))))) (fun j48 => m_fx (F_X9_restOf_56 Z a0 p1 S7 v21 j48) 100000 (w35, (0 : Int32))))))))))
def f_X9_restOf (Z : m_Z) (S : m_S) (a0 : Nat) (p1 : Int32) : Option (Int32 × m_S) := m_gd (m_ok Z a0 9) (m_lt (m_pI S a0 0 (0 : Int32)) (fun S2 => m_b1 (f_X9_isCase Z S2 a0 p1) (fun v5 => m_bw (f_X9_may Z S2 a0 v5 (1 : Int32)) (fun v8 S7 => (if ¬ v8 = 0 then m_jp (fun (v10 : Int32) => (if (1000 : Int32) < v10 then m_bw (f_X9_may Z S7 a0 (0 : Int32) (2 : Int32)) (fun v14 S13 => (if v14 = 0 then some ((0 : Int32), S13) else some (v10, S13))) else m_bw (f_X9_may Z S7 a0 (1 : Int32) (2 : Int32)) (fun v18 S17 => (if v18 = 0 then some ((0 : Int32), S17) else some (v10, S17))))) (fun j20 => m_fx (F_X9_restOf_24 Z a0 p1 S7 j20) 100000 ((0 : Int32), (0 : Int32))) else some ((0 : Int32), S7))))))
abbrev rm_X9_restOf : Room := { frames := 3, cells := 0, slots := 0, locals := 71 }
theorem hd_X9_restOf : yX9_restOf.cls = RX9 ∧ yX9_restOf.cls ≠ "java/lang/invoke/MethodHandle" ∧ yX9_restOf.cls ≠ "java/lang/invoke/VarHandle" ∧ (parseMethodDescriptor yX9_restOf.desc).map (fun d => d.parameters.length) = some 1 := by decide +kernel
set_option maxHeartbeats 4000000 in
set_option maxRecDepth 100000 in
theorem c_X9_restOf {l : Launch} (hl : l.stackTraces = false) {Z : m_Z} {S : m_S} {a0 : Nat} {p1 : Int32} {rZ9 : Int32} {SZ9 : m_S} (hf : f_X9_restOf Z S a0 p1 = some (rZ9, SZ9)) : m_Ct l yX9_restOf (.code yX9_restOf cX9_restOf 7 (some .int) :: m_ws) rm_X9_restOf (fun f => [.ref a0, .int p1]) Z S (some (.int rZ9)) SZ9 := by
  unfold f_X9_restOf at hf
  refine m_ent hl (by decide) (fun _ => Nat.le_of_ble_eq_true rfl) (fun x C F => ?_)
  have C : m_H x l RX9 cX9_restOf 7 rm_X9_restOf := C
  show m_G x Z S 7 0 0 0 [(0, .ref a0), (1, .int p1)] []
  refine r_aload_n (q := 1) C 0 dX9_restOf_0 rfl rfl ?_
  refine r_iconst (q := 2) (v := (0 : Int32)) C dX9_restOf_1 (by decide) rfl ?_
  obtain ⟨g1, hf⟩ := m_gd_of hf
  obtain ⟨S2, e3, hf⟩ := m_lt_of hf
  refine pf_X9_61 (q := 5) C dX9_restOf_2 g1 e3 rfl ?_
  refine r_aload_n (q := 6) C 0 dX9_restOf_5 rfl rfl ?_
  refine r_aload_n (q := 7) C 0 dX9_restOf_6 rfl rfl ?_
  refine r_iload_n (q := 8) C 1 dX9_restOf_7 rfl rfl ?_
  obtain ⟨v5, h4, hf⟩ := m_b1_of hf
  refine r_callV (mc := 0) (ms := 0) (q := 11) (st1 := [.int v5, .ref a0]) C (c_X9_isCase hl h4) rfl w_1146 w_1147 w_1356 w_11 w_1148 hd_X9_isCase rfl (by decide) g1 rfl rfl rfl ⟨(Nat.le_of_ble_eq_true rfl), (Nat.le_of_ble_eq_true rfl)⟩ (Nat.le_of_ble_eq_true rfl) ⟨(Nat.le_of_ble_eq_true rfl), (Nat.le_of_ble_eq_true rfl)⟩ dX9_restOf_8 rfl rfl ?_
  refine r_iconst (q := 12) (v := (1 : Int32)) C dX9_restOf_11 (by decide) rfl ?_
  obtain ⟨v8, S7, h6, hf⟩ := m_bw_of hf
  refine r_callV (mc := 0) (ms := 0) (q := 15) (st1 := [.int v8]) C (c_X9_may hl h6) rfl w_1024 w_1025 w_1333 w_11 w_1026 hd_X9_may rfl (by decide) g1 rfl rfl rfl ⟨(Nat.le_of_ble_eq_true rfl), (Nat.le_of_ble_eq_true rfl)⟩ (Nat.le_of_ble_eq_true rfl) ⟨(Nat.le_of_ble_eq_true rfl), (Nat.le_of_ble_eq_true rfl)⟩ dX9_restOf_12 rfl rfl ?_
  refine r_if_ne (t := 20) (q := 18) C dX9_restOf_15 (by decide) rfl (fun c9 => ?_) (fun c9 => ?_)
  · replace hf := m_if1 hf c9
    refine r_iconst (q := 21) (v := (0 : Int32)) C dX9_restOf_20 (by decide) rfl ?_
    refine r_istore_n (q := 22) (L' := [(2, .int (0 : Int32)), (0, .ref a0), (1, .int p1)]) C dX9_restOf_21 rfl rfl (by decide) rfl ?_
    refine r_iconst (q := 23) (v := (0 : Int32)) C dX9_restOf_22 (by decide) rfl ?_
    refine r_istore_n (q := 24) (L' := [(3, .int (0 : Int32)), (2, .int (0 : Int32)), (0, .ref a0), (1, .int p1)]) C dX9_restOf_23 rfl rfl (by decide) rfl ?_
    obtain ⟨j20, ej20, hf⟩ := m_jp_of hf
    have J20 : ∀ (v10 : Int32), j20 v10 = some (rZ9, SZ9) → m_G x Z S7 7 0 0 132 [(0, .ref a0), (2, .int v10)] [] := by
      intro v10 hf
      rw [ej20] at hf
      refine r_aload_n (q := 133) C 0 dX9_restOf_132 rfl rfl ?_
      refine r_iload_n (q := 134) C 1 dX9_restOf_133 rfl rfl ?_
      refine r_sipush (q := 137) (v := (1000 : Int32)) C dX9_restOf_134 (by decide) rfl ?_
      refine r_icmp_gt (t := 144) (q := 140) C dX9_restOf_137 (by decide) rfl (fun c11 => ?_) (fun c11 => ?_)
      · replace hf := m_if1 hf c11
        refine r_iconst (q := 145) (v := (0 : Int32)) C dX9_restOf_144 (by decide) rfl ?_
        refine r_iconst (q := 146) (v := (2 : Int32)) C dX9_restOf_145 (by decide) rfl ?_
        obtain ⟨v14, S13, h12, hf⟩ := m_bw_of hf
        refine r_callV (mc := 0) (ms := 0) (q := 149) (st1 := [.int v14]) C (c_X9_may hl h12) rfl w_1024 w_1025 w_1333 w_11 w_1026 hd_X9_may rfl (by decide) g1 rfl rfl rfl ⟨(Nat.le_of_ble_eq_true rfl), (Nat.le_of_ble_eq_true rfl)⟩ (Nat.le_of_ble_eq_true rfl) ⟨(Nat.le_of_ble_eq_true rfl), (Nat.le_of_ble_eq_true rfl)⟩ dX9_restOf_146 rfl rfl ?_
        refine r_if_eq (t := 156) (q := 152) C dX9_restOf_149 (by decide) rfl (fun c15 => ?_) (fun c15 => ?_)
        · replace hf := m_if1 hf c15
          refine r_iconst (q := 157) (v := (0 : Int32)) C dX9_restOf_156 (by decide) rfl ?_
          obtain ⟨rfl, rfl⟩ := m_so2 hf
          exact r_iret C F dX9_restOf_157
        · replace hf := m_if0 hf c15
          refine r_iload_n (q := 153) C 1 dX9_restOf_152 rfl rfl ?_
          refine r_goto (t := 157) C dX9_restOf_153 (by decide) ?_
          obtain ⟨rfl, rfl⟩ := m_so2 hf
          exact r_iret C F dX9_restOf_157
      · replace hf := m_if0 hf c11
        refine r_iconst (q := 141) (v := (1 : Int32)) C dX9_restOf_140 (by decide) rfl ?_
        refine r_goto (t := 145) C dX9_restOf_141 (by decide) ?_
        refine r_iconst (q := 146) (v := (2 : Int32)) C dX9_restOf_145 (by decide) rfl ?_
        obtain ⟨v18, S17, h16, hf⟩ := m_bw_of hf
        refine r_callV (mc := 0) (ms := 0) (q := 149) (st1 := [.int v18]) C (c_X9_may hl h16) rfl w_1024 w_1025 w_1333 w_11 w_1026 hd_X9_may rfl (by decide) g1 rfl rfl rfl ⟨(Nat.le_of_ble_eq_true rfl), (Nat.le_of_ble_eq_true rfl)⟩ (Nat.le_of_ble_eq_true rfl) ⟨(Nat.le_of_ble_eq_true rfl), (Nat.le_of_ble_eq_true rfl)⟩ dX9_restOf_146 rfl rfl ?_
        refine r_if_eq (t := 156) (q := 152) C dX9_restOf_149 (by decide) rfl (fun c19 => ?_) (fun c19 => ?_)
        · replace hf := m_if1 hf c19
          refine r_iconst (q := 157) (v := (0 : Int32)) C dX9_restOf_156 (by decide) rfl ?_
          obtain ⟨rfl, rfl⟩ := m_so2 hf
          exact r_iret C F dX9_restOf_157
        · replace hf := m_if0 hf c19
          refine r_iload_n (q := 153) C 1 dX9_restOf_152 rfl rfl ?_
          refine r_goto (t := 157) C dX9_restOf_153 (by decide) ?_
          obtain ⟨rfl, rfl⟩ := m_so2 hf
          exact r_iret C F dX9_restOf_157
    have LL26 : ∀ (fu25 : Nat) (v21 : Int32) (v22 : Int32), m_fx (F_X9_restOf_24 Z a0 p1 S7 j20) fu25 (v21, v22) = some (rZ9, SZ9) → m_G x Z S7 7 0 0 24 [(0, .ref a0), (1, .int p1), (2, .int v21), (3, .int v22)] [] := by
      intro fu25
      induction fu25 with
      | zero => intros; rename_i hf; cases hf
      | succ fu25 ih24 =>
        intro v21 v22 hf
        replace hf : F_X9_restOf_24 Z a0 p1 S7 j20 (m_fx (F_X9_restOf_24 Z a0 p1 S7 j20) fu25) (v21, v22) = some (rZ9, SZ9) := hf
        unfold F_X9_restOf_24 at hf
        dsimp only at hf
        refine r_iload_n (q := 25) C 2 dX9_restOf_24 rfl rfl ?_
        refine r_sipush (q := 28) (v := (1000 : Int32)) C dX9_restOf_25 (by decide) rfl ?_
        refine r_icmp_gt (t := 132) (q := 31) C dX9_restOf_28 (by decide) rfl (fun c27 => ?_) (fun c27 => ?_)
        · replace hf := m_if1 hf c27
          refine r_sub [0, 2] rfl ?_
          exact J20 v21 hf
        · replace hf := m_if0 hf c27
          refine r_iload_n (q := 32) C 3 dX9_restOf_31 rfl rfl ?_
          refine r_if_ne (t := 132) (q := 35) C dX9_restOf_32 (by decide) rfl (fun c28 => ?_) (fun c28 => ?_)
          · replace hf := m_if1 hf c28
            refine r_sub [0, 2] rfl ?_
            exact J20 v21 hf
          · replace hf := m_if0 hf (fun z => z c28)
            refine r_aload_n (q := 36) C 0 dX9_restOf_35 rfl rfl ?_
            obtain ⟨b29, e30, hf⟩ := m_b1_of hf
            refine gf_X9_7 (q := 39) C dX9_restOf_36 g1 e30 rfl ?_
            refine r_bipush (q := 41) (v := (110 : Int32)) C dX9_restOf_39 (by decide) rfl ?_
            refine r_iload_n (q := 42) C 1 dX9_restOf_41 rfl rfl ?_
            refine r_iadd (q := 43) C dX9_restOf_42 rfl ?_
            obtain ⟨g31, hf⟩ := m_gd_of hf
            obtain ⟨v32, e33, hf⟩ := m_lt_of hf
            refine r_nm e33 ?_
            obtain ⟨g34, hf⟩ := m_gd_of hf
            refine r_iald (q := 44) C dX9_restOf_43 ⟨g31, g34⟩ rfl ?_
            refine r_iload_n (q := 45) C 2 dX9_restOf_44 rfl rfl ?_
            refine r_imul (q := 46) C dX9_restOf_45 rfl ?_
            refine r_sipush (q := 49) (v := (1000 : Int32)) C dX9_restOf_46 (by decide) rfl ?_
            refine r_idiv (q := 50) C dX9_restOf_49 (by decide) rfl ?_
            refine r_i2l (q := 51) C dX9_restOf_50 rfl ?_
            obtain ⟨w35, e36, hf⟩ := m_lt_of hf
            refine r_nmJ e36 ?_
            refine r_lstore (q := 53) (L' := [(4, .long w35), (0, .ref a0), (1, .int p1), (2, .int v21), (3, .int v22)]) C dX9_restOf_51 rfl (by decide) rfl ?_
            refine r_iconst (q := 54) (v := (0 : Int32)) C dX9_restOf_53 (by decide) rfl ?_
            refine r_istore (q := 56) (L' := [(6, .int (0 : Int32)), (4, .long w35), (0, .ref a0), (1, .int p1), (2, .int v21), (3, .int v22)]) C dX9_restOf_54 rfl (by decide) rfl ?_
            obtain ⟨j48, ej48, hf⟩ := m_jp_of hf
            have J48 : ∀ (w37 : Int64), j48 w37 = some (rZ9, SZ9) → m_G x Z S7 7 0 0 100 [(0, .ref a0), (1, .int p1), (2, .int v21), (4, .long w37)] [] := by
              intro w37 hf
              rw [ej48] at hf
              refine r_lload (q := 102) C 3 dX9_restOf_100 rfl rfl ?_
              refine r_aload_n (q := 103) C 0 dX9_restOf_102 rfl rfl ?_
              refine r_iload_n (q := 104) C 1 dX9_restOf_103 rfl rfl ?_
              obtain ⟨w39, h38, hf⟩ := m_b1_of hf
              refine r_callV (mc := 0) (ms := 0) (q := 107) (st1 := [.long w39, .long w37]) C (c_X9_moistureOf hl h38) rfl w_958 w_959 w_1331 w_11 w_960 hd_X9_moistureOf rfl (by decide) g1 rfl rfl rfl ⟨(Nat.le_of_ble_eq_true rfl), (Nat.le_of_ble_eq_true rfl)⟩ (Nat.le_of_ble_eq_true rfl) ⟨(Nat.le_of_ble_eq_true rfl), (Nat.le_of_ble_eq_true rfl)⟩ dX9_restOf_104 rfl rfl ?_
              refine r_lcmp (q := 108) C dX9_restOf_107 rfl ?_
              obtain ⟨j40, ej40, hf⟩ := m_jp_of hf
              have J40 : ∀ (v41 : Int32), j40 v41 = some (rZ9, SZ9) → m_G x Z S7 7 0 0 116 [(0, .ref a0), (1, .int p1), (2, .int v21)] [.int v41] := by
                intro v41 hf
                rw [ej40] at hf
                refine r_istore_n (q := 117) (L' := [(3, .int v41), (0, .ref a0), (1, .int p1), (2, .int v21)]) C dX9_restOf_116 rfl rfl (by decide) rfl ?_
                refine r_iload_n (q := 118) C 3 dX9_restOf_117 rfl rfl ?_
                refine r_iload_n (q := 119) C 0 dX9_restOf_118 rfl rfl ?_
                refine r_if_eq (t := 126) (q := 122) C dX9_restOf_119 (by decide) rfl (fun c42 => ?_) (fun c42 => ?_)
                · replace hf := m_if1 hf c42
                  refine r_iconst (q := 127) (v := (1 : Int32)) C dX9_restOf_126 (by decide) rfl ?_
                  refine r_iadd (q := 128) C dX9_restOf_127 rfl ?_
                  obtain ⟨v43, e44, hf⟩ := m_lt_of hf
                  refine r_nm e44 ?_
                  refine r_istore_n (q := 129) (L' := [(2, .int v43), (3, .int v41), (0, .ref a0), (1, .int p1)]) C dX9_restOf_128 rfl rfl (by decide) rfl ?_
                  refine r_goto (t := 24) C dX9_restOf_129 (by decide) ?_
                  refine r_sub [2, 3, 0, 1] rfl ?_
                  exact ih24 v43 v41 hf
                · replace hf := m_if0 hf c42
                  refine r_iconst (q := 123) (v := (0 : Int32)) C dX9_restOf_122 (by decide) rfl ?_
                  refine r_goto (t := 127) C dX9_restOf_123 (by decide) ?_
                  refine r_iadd (q := 128) C dX9_restOf_127 rfl ?_
                  obtain ⟨v45, e46, hf⟩ := m_lt_of hf
                  refine r_nm e46 ?_
                  refine r_istore_n (q := 129) (L' := [(2, .int v45), (3, .int v41), (0, .ref a0), (1, .int p1)]) C dX9_restOf_128 rfl rfl (by decide) rfl ?_
                  refine r_goto (t := 24) C dX9_restOf_129 (by decide) ?_
                  refine r_sub [2, 3, 0, 1] rfl ?_
                  exact ih24 v45 v41 hf
              refine r_if_lt (t := 115) (q := 111) C dX9_restOf_108 (by decide) rfl (fun c47 => ?_) (fun c47 => ?_)
              · replace hf := m_if1 hf c47
                refine r_iconst (q := 116) (v := (0 : Int32)) C dX9_restOf_115 (by decide) rfl ?_
                refine r_sub [0, 1, 2] rfl ?_
                exact J40 (0 : Int32) hf
              · replace hf := m_if0 hf c47
                refine r_iconst (q := 112) (v := (1 : Int32)) C dX9_restOf_111 (by decide) rfl ?_
                refine r_goto (t := 116) C dX9_restOf_112 (by decide) ?_
                refine r_sub [0, 1, 2] rfl ?_
                exact J40 (1 : Int32) hf
            have LL54 : ∀ (fu53 : Nat) (w49 : Int64) (v50 : Int32), m_fx (F_X9_restOf_56 Z a0 p1 S7 v21 j48) fu53 (w49, v50) = some (rZ9, SZ9) → m_G x Z S7 7 0 0 56 [(0, .ref a0), (1, .int p1), (2, .int v21), (4, .long w49), (6, .int v50)] [] := by
              intro fu53
              induction fu53 with
              | zero => intros; rename_i hf; cases hf
              | succ fu53 ih52 =>
                intro w49 v50 hf
                replace hf : F_X9_restOf_56 Z a0 p1 S7 v21 j48 (m_fx (F_X9_restOf_56 Z a0 p1 S7 v21 j48) fu53) (w49, v50) = some (rZ9, SZ9) := hf
                unfold F_X9_restOf_56 at hf
                dsimp only at hf
                refine r_iload (q := 58) C 4 dX9_restOf_56 rfl rfl ?_
                refine r_aload_n (q := 59) C 0 dX9_restOf_58 rfl rfl ?_
                refine r_iload_n (q := 60) C 1 dX9_restOf_59 rfl rfl ?_
                refine r_iconst (q := 61) (v := (4 : Int32)) C dX9_restOf_60 (by decide) rfl ?_
                obtain ⟨v56, h55, hf⟩ := m_b1_of hf
                refine r_callV (mc := 0) (ms := 0) (q := 64) (st1 := [.int v56, .int v50]) C (c_X9_of hl h55) rfl w_937 w_938 w_1325 w_11 w_939 hd_X9_of rfl (by decide) g1 rfl rfl rfl ⟨(Nat.le_of_ble_eq_true rfl), (Nat.le_of_ble_eq_true rfl)⟩ (Nat.le_of_ble_eq_true rfl) ⟨(Nat.le_of_ble_eq_true rfl), (Nat.le_of_ble_eq_true rfl)⟩ dX9_restOf_61 rfl rfl ?_
                refine r_icmp_ge (t := 100) (q := 67) C dX9_restOf_64 (by decide) rfl (fun c57 => ?_) (fun c57 => ?_)
                · replace hf := m_if1 hf c57
                  refine r_sub [0, 1, 2, 3] rfl ?_
                  exact J48 w49 hf
                · replace hf := m_if0 hf c57
                  refine r_lload (q := 69) C 3 dX9_restOf_67 rfl rfl ?_
                  refine r_aload_n (q := 70) C 0 dX9_restOf_69 rfl rfl ?_
                  refine r_aload_n (q := 71) C 0 dX9_restOf_70 rfl rfl ?_
                  refine r_iload_n (q := 72) C 1 dX9_restOf_71 rfl rfl ?_
                  refine r_iload (q := 74) C 4 dX9_restOf_72 rfl rfl ?_
                  refine r_iconst (q := 75) (v := (1 : Int32)) C dX9_restOf_74 (by decide) rfl ?_
                  obtain ⟨v59, h58, hf⟩ := m_b1_of hf
                  refine r_callV (mc := 0) (ms := 0) (q := 78) (st1 := [.int v59, .ref a0, .long w49]) C (c_X9_its hl h58) rfl w_940 w_941 w_1326 w_11 w_942 hd_X9_its rfl (by decide) g1 rfl rfl rfl ⟨(Nat.le_of_ble_eq_true rfl), (Nat.le_of_ble_eq_true rfl)⟩ (Nat.le_of_ble_eq_true rfl) ⟨(Nat.le_of_ble_eq_true rfl), (Nat.le_of_ble_eq_true rfl)⟩ dX9_restOf_75 rfl rfl ?_
                  refine r_aload_n (q := 79) C 0 dX9_restOf_78 rfl rfl ?_
                  refine r_iload_n (q := 80) C 1 dX9_restOf_79 rfl rfl ?_
                  refine r_iload (q := 82) C 4 dX9_restOf_80 rfl rfl ?_
                  refine r_iconst (q := 83) (v := (2 : Int32)) C dX9_restOf_82 (by decide) rfl ?_
                  obtain ⟨v61, h60, hf⟩ := m_b1_of hf
                  refine r_callV (mc := 0) (ms := 0) (q := 86) (st1 := [.int v61, .int v59, .ref a0, .long w49]) C (c_X9_its hl h60) rfl w_940 w_941 w_1326 w_11 w_942 hd_X9_its rfl (by decide) g1 rfl rfl rfl ⟨(Nat.le_of_ble_eq_true rfl), (Nat.le_of_ble_eq_true rfl)⟩ (Nat.le_of_ble_eq_true rfl) ⟨(Nat.le_of_ble_eq_true rfl), (Nat.le_of_ble_eq_true rfl)⟩ dX9_restOf_83 rfl rfl ?_
                  refine r_iload_n (q := 87) C 2 dX9_restOf_86 rfl rfl ?_
                  obtain ⟨v63, h62, hf⟩ := m_b1_of hf
                  refine r_callV (mc := 0) (ms := 0) (q := 90) (st1 := [.int v63, .long w49]) C (c_X9_wouldHave hl h62) rfl w_943 w_944 w_1327 w_11 w_945 hd_X9_wouldHave rfl (by decide) g1 rfl rfl rfl ⟨(Nat.le_of_ble_eq_true rfl), (Nat.le_of_ble_eq_true rfl)⟩ (Nat.le_of_ble_eq_true rfl) ⟨(Nat.le_of_ble_eq_true rfl), (Nat.le_of_ble_eq_true rfl)⟩ dX9_restOf_87 rfl rfl ?_
                  refine r_i2l (q := 91) C dX9_restOf_90 rfl ?_
                  refine r_ladd (q := 92) C dX9_restOf_91 rfl ?_
                  obtain ⟨w64, e65, hf⟩ := m_lt_of hf
                  refine r_nmJ e65 ?_
                  refine r_lstore (q := 94) (L' := [(4, .long w64), (0, .ref a0), (1, .int p1), (2, .int v21), (6, .int v50)]) C dX9_restOf_92 rfl (by decide) rfl ?_
                  obtain ⟨v66, e67, hf⟩ := m_lt_of hf
                  refine r_iinc (q := 97) (v := v66) (L' := [(6, .int v66), (4, .long w64), (0, .ref a0), (1, .int p1), (2, .int v21)]) C 4 dX9_restOf_94 rfl (by rw [e67]; rfl) rfl (by decide) rfl ?_
                  refine r_goto (t := 56) C dX9_restOf_97 (by decide) ?_
                  refine r_sub [2, 3, 4, 1, 0] rfl ?_
                  exact ih52 w64 v66 hf
            refine r_sub [2, 3, 4, 1, 0] rfl ?_
            exact LL54 100000 w35 (0 : Int32) hf
    refine r_sub [2, 3, 1, 0] rfl ?_
    exact LL26 100000 (0 : Int32) (0 : Int32) hf
  · replace hf := m_if0 hf (fun z => z c9)
    refine r_iconst (q := 19) (v := (0 : Int32)) C dX9_restOf_18 (by decide) rfl ?_
    obtain ⟨rfl, rfl⟩ := m_so2 hf
    exact r_iret C F dX9_restOf_19
def F_X9_restore_69 (Z : m_Z) (a0 : Nat) (p1 : Int32) (j20 : (m_S → Option (Unit × m_S))) (lp23 : (Int32 × m_S) → Option (Unit × m_S)) (p42 : (Int32 × m_S)) : Option (Unit × m_S) := match p42 with
  | (v21, S22) => (if (30 : Int32) ≤ v21 then j20 S22 else m_b1 (S22.2.2 a0 7) (fun b28 => m_b1 (S22.2.2 a0 9) (fun b30 => m_gd (m_ok Z b30 12) (m_lt (((30 : Int32) * p1) + v21) (fun v33 => m_gd (m_in v33 (Z.2.2 b30)) (m_gd (m_ok Z b28 12) (m_gd (m_in v21 (Z.2.2 b28)) (m_lt (m_pJ S22 b28 v21.toNatClampNeg (S22.2.1 b30 v33.toNatClampNeg)) (fun S38 => m_lt (v21 + (1 : Int32)) (fun v40 => lp23 (v40, S38)))))))))))
def F_X9_restore_36 (Z : m_Z) (a0 : Nat) (p1 : Int32) (j43 : (m_S → Option (Unit × m_S))) (lp46 : (Int32 × m_S) → Option (Unit × m_S)) (p65 : (Int32 × m_S)) : Option (Unit × m_S) := match p65 with
  | (v44, S45) => (if (340 : Int32) ≤ v44 then j43 S45 else m_b1 (S45.2.2 a0 3) (fun b51 => m_b1 (S45.2.2 a0 5) (fun b53 => m_gd (m_ok Z b53 11) (m_lt (((340 : Int32) * p1) + v44) (fun v56 => m_gd (m_in v56 (Z.2.2 b53)) (m_gd (m_ok Z b51 11) (m_gd (m_in v44 (Z.2.2 b51)) (m_lt (m_pI S45 b51 v44.toNatClampNeg (S45.1 b53 v56.toNatClampNeg)) (fun S61 => m_lt (v44 + (1 : Int32)) (fun v63 => lp46 (v63, S61)))))))))))
def f_X9_restore (Z : m_Z) (S : m_S) (a0 : Nat) (p1 : Int32) : Option (Unit × m_S) := m_gd (m_ok Z a0 9) (m_lt (m_pI S a0 0 (0 : Int32)) (fun S2 => m_b1 (f_X9_isIn Z S2 p1 (0 : Int32) (1 : Int32)) (fun v5 => m_bw (f_X9_may Z S2 a0 v5 (1 : Int32)) (fun v8 S7 => (if v8 = 0 then some ((), S7) else m_b1 (S7.2.2 a0 10) (fun b10 => m_gd (m_ok Z b10 13) (m_gd (m_in p1 (Z.2.2 b10)) (m_bw (f_X9_may Z S7 a0 (S7.1 b10 p1.toNatClampNeg) (2 : Int32)) (fun v16 S15 => (if ¬ v16 = 0 then m_jp (fun (S18 : m_S) => m_jp (fun (S19 : m_S) => some ((), S19)) (fun j20 => m_fx (F_X9_restore_69 Z a0 p1 j20) 100000 ((0 : Int32), S18))) (fun j43 => m_fx (F_X9_restore_36 Z a0 p1 j43) 100000 ((0 : Int32), S15)) else some ((), S15)))))))))))
abbrev rm_X9_restore : Room := { frames := 1, cells := 0, slots := 0, locals := 22 }
theorem hd_X9_restore : yX9_restore.cls = RX9 ∧ yX9_restore.cls ≠ "java/lang/invoke/MethodHandle" ∧ yX9_restore.cls ≠ "java/lang/invoke/VarHandle" ∧ (parseMethodDescriptor yX9_restore.desc).map (fun d => d.parameters.length) = some 1 := by decide +kernel
set_option maxHeartbeats 4000000 in
set_option maxRecDepth 100000 in
theorem c_X9_restore {l : Launch} (hl : l.stackTraces = false) {Z : m_Z} {S : m_S} {a0 : Nat} {p1 : Int32} {rZ9 : Unit} {SZ9 : m_S} (hf : f_X9_restore Z S a0 p1 = some (rZ9, SZ9)) : m_Ct l yX9_restore (.code yX9_restore cX9_restore 3 none :: m_ws) rm_X9_restore (fun f => [.ref a0, .int p1]) Z S (none) SZ9 := by
  unfold f_X9_restore at hf
  refine m_ent hl (by decide) (fun _ => Nat.le_of_ble_eq_true rfl) (fun x C F => ?_)
  have C : m_H x l RX9 cX9_restore 3 rm_X9_restore := C
  show m_G x Z S 3 0 0 0 [(0, .ref a0), (1, .int p1)] []
  refine r_aload_n (q := 1) C 0 dX9_restore_0 rfl rfl ?_
  refine r_iconst (q := 2) (v := (0 : Int32)) C dX9_restore_1 (by decide) rfl ?_
  obtain ⟨g1, hf⟩ := m_gd_of hf
  obtain ⟨S2, e3, hf⟩ := m_lt_of hf
  refine pf_X9_61 (q := 5) C dX9_restore_2 g1 e3 rfl ?_
  refine r_aload_n (q := 6) C 0 dX9_restore_5 rfl rfl ?_
  refine r_iload_n (q := 7) C 1 dX9_restore_6 rfl rfl ?_
  refine r_iconst (q := 8) (v := (0 : Int32)) C dX9_restore_7 (by decide) rfl ?_
  refine r_iconst (q := 9) (v := (1 : Int32)) C dX9_restore_8 (by decide) rfl ?_
  obtain ⟨v5, h4, hf⟩ := m_b1_of hf
  refine r_callS (mc := 0) (ms := 0) (q := 12) (st1 := [.int v5, .ref a0]) C (c_X9_isIn hl h4) rfl w_1031 w_1032 w_11 w_1033 hd_X9_isIn rfl rfl rfl ⟨(Nat.le_of_ble_eq_true rfl), (Nat.le_of_ble_eq_true rfl)⟩ (Nat.le_of_ble_eq_true rfl) ⟨(Nat.le_of_ble_eq_true rfl), (Nat.le_of_ble_eq_true rfl)⟩ dX9_restore_9 rfl rfl ?_
  refine r_iconst (q := 13) (v := (1 : Int32)) C dX9_restore_12 (by decide) rfl ?_
  obtain ⟨v8, S7, h6, hf⟩ := m_bw_of hf
  refine r_callV (mc := 0) (ms := 0) (q := 16) (st1 := [.int v8]) C (c_X9_may hl h6) rfl w_1024 w_1025 w_1333 w_11 w_1026 hd_X9_may rfl (by decide) g1 rfl rfl rfl ⟨(Nat.le_of_ble_eq_true rfl), (Nat.le_of_ble_eq_true rfl)⟩ (Nat.le_of_ble_eq_true rfl) ⟨(Nat.le_of_ble_eq_true rfl), (Nat.le_of_ble_eq_true rfl)⟩ dX9_restore_13 rfl rfl ?_
  refine r_if_eq (t := 33) (q := 19) C dX9_restore_16 (by decide) rfl (fun c9 => ?_) (fun c9 => ?_)
  · replace hf := m_if1 hf c9
    obtain ⟨rfl, rfl⟩ := m_so2 hf
    exact r_vret C F dX9_restore_33
  · replace hf := m_if0 hf c9
    refine r_aload_n (q := 20) C 0 dX9_restore_19 rfl rfl ?_
    refine r_aload_n (q := 21) C 0 dX9_restore_20 rfl rfl ?_
    obtain ⟨b10, e11, hf⟩ := m_b1_of hf
    refine gf_X9_38 (q := 24) C dX9_restore_21 g1 e11 rfl ?_
    refine r_iload_n (q := 25) C 1 dX9_restore_24 rfl rfl ?_
    obtain ⟨g12, hf⟩ := m_gd_of hf
    obtain ⟨g13, hf⟩ := m_gd_of hf
    refine r_zald (q := 26) C dX9_restore_25 ⟨g12, g13⟩ rfl ?_
    refine r_iconst (q := 27) (v := (2 : Int32)) C dX9_restore_26 (by decide) rfl ?_
    obtain ⟨v16, S15, h14, hf⟩ := m_bw_of hf
    refine r_callV (mc := 0) (ms := 0) (q := 30) (st1 := [.int v16]) C (c_X9_may hl h14) rfl w_1024 w_1025 w_1333 w_11 w_1026 hd_X9_may rfl (by decide) g1 rfl rfl rfl ⟨(Nat.le_of_ble_eq_true rfl), (Nat.le_of_ble_eq_true rfl)⟩ (Nat.le_of_ble_eq_true rfl) ⟨(Nat.le_of_ble_eq_true rfl), (Nat.le_of_ble_eq_true rfl)⟩ dX9_restore_27 rfl rfl ?_
    refine r_if_ne (t := 34) (q := 33) C dX9_restore_30 (by decide) rfl (fun c17 => ?_) (fun c17 => ?_)
    · replace hf := m_if1 hf c17
      refine r_iconst (q := 35) (v := (0 : Int32)) C dX9_restore_34 (by decide) rfl ?_
      refine r_istore_n (q := 36) (L' := [(2, .int (0 : Int32)), (0, .ref a0), (1, .int p1)]) C dX9_restore_35 rfl rfl (by decide) rfl ?_
      obtain ⟨j43, ej43, hf⟩ := m_jp_of hf
      have J43 : ∀ (S18 : m_S), j43 S18 = some (rZ9, SZ9) → m_G x Z S18 3 0 0 67 [(0, .ref a0), (1, .int p1)] [] := by
        intro S18 hf
        rw [ej43] at hf
        refine r_iconst (q := 68) (v := (0 : Int32)) C dX9_restore_67 (by decide) rfl ?_
        refine r_istore_n (q := 69) (L' := [(2, .int (0 : Int32)), (0, .ref a0), (1, .int p1)]) C dX9_restore_68 rfl rfl (by decide) rfl ?_
        obtain ⟨j20, ej20, hf⟩ := m_jp_of hf
        have J20 : ∀ (S19 : m_S), j20 S19 = some (rZ9, SZ9) → m_G x Z S19 3 0 0 98 [] [] := by
          intro S19 hf
          rw [ej20] at hf
          obtain ⟨rfl, rfl⟩ := m_so2 hf
          exact r_vret C F dX9_restore_98
        have LL26 : ∀ (fu25 : Nat) (v21 : Int32) (S22 : m_S), m_fx (F_X9_restore_69 Z a0 p1 j20) fu25 (v21, S22) = some (rZ9, SZ9) → m_G x Z S22 3 0 0 69 [(0, .ref a0), (1, .int p1), (2, .int v21)] [] := by
          intro fu25
          induction fu25 with
          | zero => intros; rename_i hf; cases hf
          | succ fu25 ih24 =>
            intro v21 S22 hf
            replace hf : F_X9_restore_69 Z a0 p1 j20 (m_fx (F_X9_restore_69 Z a0 p1 j20) fu25) (v21, S22) = some (rZ9, SZ9) := hf
            unfold F_X9_restore_69 at hf
            dsimp only at hf
            refine r_iload_n (q := 70) C 2 dX9_restore_69 rfl rfl ?_
            refine r_bipush (q := 72) (v := (30 : Int32)) C dX9_restore_70 (by decide) rfl ?_
            refine r_icmp_ge (t := 98) (q := 75) C dX9_restore_72 (by decide) rfl (fun c27 => ?_) (fun c27 => ?_)
            · replace hf := m_if1 hf c27
              refine r_sub [] rfl ?_
              exact J20 S22 hf
            · replace hf := m_if0 hf c27
              refine r_aload_n (q := 76) C 0 dX9_restore_75 rfl rfl ?_
              obtain ⟨b28, e29, hf⟩ := m_b1_of hf
              refine gf_X9_28 (q := 79) C dX9_restore_76 g1 e29 rfl ?_
              refine r_iload_n (q := 80) C 2 dX9_restore_79 rfl rfl ?_
              refine r_aload_n (q := 81) C 0 dX9_restore_80 rfl rfl ?_
              obtain ⟨b30, e31, hf⟩ := m_b1_of hf
              refine gf_X9_35 (q := 84) C dX9_restore_81 g1 e31 rfl ?_
              refine r_bipush (q := 86) (v := (30 : Int32)) C dX9_restore_84 (by decide) rfl ?_
              refine r_iload_n (q := 87) C 1 dX9_restore_86 rfl rfl ?_
              refine r_imul (q := 88) C dX9_restore_87 rfl ?_
              refine r_iload_n (q := 89) C 2 dX9_restore_88 rfl rfl ?_
              refine r_iadd (q := 90) C dX9_restore_89 rfl ?_
              obtain ⟨g32, hf⟩ := m_gd_of hf
              obtain ⟨v33, e34, hf⟩ := m_lt_of hf
              refine r_nm e34 ?_
              obtain ⟨g35, hf⟩ := m_gd_of hf
              refine r_lald (q := 91) C dX9_restore_90 ⟨g32, g35⟩ rfl ?_
              obtain ⟨g36, hf⟩ := m_gd_of hf
              obtain ⟨g37, hf⟩ := m_gd_of hf
              obtain ⟨S38, e39, hf⟩ := m_lt_of hf
              refine r_last (q := 92) C dX9_restore_91 ⟨g36, g37⟩ rfl ?_
              rw [← e39]
              obtain ⟨v40, e41, hf⟩ := m_lt_of hf
              refine r_iinc (q := 95) (v := v40) (L' := [(2, .int v40), (0, .ref a0), (1, .int p1)]) C 2 dX9_restore_92 rfl (by rw [e41]; rfl) rfl (by decide) rfl ?_
              refine r_goto (t := 69) C dX9_restore_95 (by decide) ?_
              refine r_sub [1, 2, 0] rfl ?_
              exact ih24 v40 S38 hf
        refine r_sub [1, 2, 0] rfl ?_
        exact LL26 100000 (0 : Int32) S18 hf
      have LL49 : ∀ (fu48 : Nat) (v44 : Int32) (S45 : m_S), m_fx (F_X9_restore_36 Z a0 p1 j43) fu48 (v44, S45) = some (rZ9, SZ9) → m_G x Z S45 3 0 0 36 [(0, .ref a0), (1, .int p1), (2, .int v44)] [] := by
        intro fu48
        induction fu48 with
        | zero => intros; rename_i hf; cases hf
        | succ fu48 ih47 =>
          intro v44 S45 hf
          replace hf : F_X9_restore_36 Z a0 p1 j43 (m_fx (F_X9_restore_36 Z a0 p1 j43) fu48) (v44, S45) = some (rZ9, SZ9) := hf
          unfold F_X9_restore_36 at hf
          dsimp only at hf
          refine r_iload_n (q := 37) C 2 dX9_restore_36 rfl rfl ?_
          refine r_sipush (q := 40) (v := (340 : Int32)) C dX9_restore_37 (by decide) rfl ?_
          refine r_icmp_ge (t := 67) (q := 43) C dX9_restore_40 (by decide) rfl (fun c50 => ?_) (fun c50 => ?_)
          · replace hf := m_if1 hf c50
            refine r_sub [0, 1] rfl ?_
            exact J43 S45 hf
          · replace hf := m_if0 hf c50
            refine r_aload_n (q := 44) C 0 dX9_restore_43 rfl rfl ?_
            obtain ⟨b51, e52, hf⟩ := m_b1_of hf
            refine gf_X9_16 (q := 47) C dX9_restore_44 g1 e52 rfl ?_
            refine r_iload_n (q := 48) C 2 dX9_restore_47 rfl rfl ?_
            refine r_aload_n (q := 49) C 0 dX9_restore_48 rfl rfl ?_
            obtain ⟨b53, e54, hf⟩ := m_b1_of hf
            refine gf_X9_22 (q := 52) C dX9_restore_49 g1 e54 rfl ?_
            refine r_sipush (q := 55) (v := (340 : Int32)) C dX9_restore_52 (by decide) rfl ?_
            refine r_iload_n (q := 56) C 1 dX9_restore_55 rfl rfl ?_
            refine r_imul (q := 57) C dX9_restore_56 rfl ?_
            refine r_iload_n (q := 58) C 2 dX9_restore_57 rfl rfl ?_
            refine r_iadd (q := 59) C dX9_restore_58 rfl ?_
            obtain ⟨g55, hf⟩ := m_gd_of hf
            obtain ⟨v56, e57, hf⟩ := m_lt_of hf
            refine r_nm e57 ?_
            obtain ⟨g58, hf⟩ := m_gd_of hf
            refine r_iald (q := 60) C dX9_restore_59 ⟨g55, g58⟩ rfl ?_
            obtain ⟨g59, hf⟩ := m_gd_of hf
            obtain ⟨g60, hf⟩ := m_gd_of hf
            obtain ⟨S61, e62, hf⟩ := m_lt_of hf
            refine r_iast (q := 61) C dX9_restore_60 ⟨g59, g60⟩ rfl ?_
            rw [← e62]
            obtain ⟨v63, e64, hf⟩ := m_lt_of hf
            refine r_iinc (q := 64) (v := v63) (L' := [(2, .int v63), (0, .ref a0), (1, .int p1)]) C 2 dX9_restore_61 rfl (by rw [e64]; rfl) rfl (by decide) rfl ?_
            refine r_goto (t := 36) C dX9_restore_64 (by decide) ?_
            refine r_sub [1, 2, 0] rfl ?_
            exact ih47 v63 S61 hf
      refine r_sub [1, 2, 0] rfl ?_
      exact LL49 100000 (0 : Int32) S15 hf
    · replace hf := m_if0 hf (fun z => z c17)
      obtain ⟨rfl, rfl⟩ := m_so2 hf
      exact r_vret C F dX9_restore_33
def f_X9_roomIn (Z : m_Z) (S : m_S) (a0 : Nat) (p1 : Int32) : Option (Int32 × m_S) := m_gd (m_ok Z a0 9) (m_lt (m_pI S a0 0 (0 : Int32)) (fun S2 => m_b1 (f_X9_isIn Z S2 p1 (1 : Int32) (2000 : Int32)) (fun v5 => m_bw (f_X9_may Z S2 a0 v5 (1 : Int32)) (fun v8 S7 => (if ¬ v8 = 0 then m_bw (f_X9_setsAside Z S7 a0) (fun _u S11 => m_bw (f_X9_hours Z S11 a0 p1 (0 : Int32) (-1 : Int32)) (fun v14 S13 => m_bw (f_X9_bringsBack Z S13 a0) (fun _u S16 => (if v14 ≤ 0 then some ((S16.1 a0 25), S16) else some ((-1 : Int32), S16))))) else some ((0 : Int32), S7))))))
abbrev rm_X9_roomIn : Room := { frames := 6, cells := 0, slots := 0, locals := 147 }
theorem hd_X9_roomIn : yX9_roomIn.cls = RX9 ∧ yX9_roomIn.cls ≠ "java/lang/invoke/MethodHandle" ∧ yX9_roomIn.cls ≠ "java/lang/invoke/VarHandle" ∧ (parseMethodDescriptor yX9_roomIn.desc).map (fun d => d.parameters.length) = some 1 := by decide +kernel
set_option maxHeartbeats 4000000 in
set_option maxRecDepth 100000 in
theorem c_X9_roomIn {l : Launch} (hl : l.stackTraces = false) {Z : m_Z} {S : m_S} {a0 : Nat} {p1 : Int32} {rZ9 : Int32} {SZ9 : m_S} (hf : f_X9_roomIn Z S a0 p1 = some (rZ9, SZ9)) : m_Ct l yX9_roomIn (.code yX9_roomIn cX9_roomIn 3 (some .int) :: m_ws) rm_X9_roomIn (fun f => [.ref a0, .int p1]) Z S (some (.int rZ9)) SZ9 := by
  unfold f_X9_roomIn at hf
  refine m_ent hl (by decide) (fun _ => Nat.le_of_ble_eq_true rfl) (fun x C F => ?_)
  have C : m_H x l RX9 cX9_roomIn 3 rm_X9_roomIn := C
  show m_G x Z S 3 0 0 0 [(0, .ref a0), (1, .int p1)] []
  refine r_aload_n (q := 1) C 0 dX9_roomIn_0 rfl rfl ?_
  refine r_iconst (q := 2) (v := (0 : Int32)) C dX9_roomIn_1 (by decide) rfl ?_
  obtain ⟨g1, hf⟩ := m_gd_of hf
  obtain ⟨S2, e3, hf⟩ := m_lt_of hf
  refine pf_X9_61 (q := 5) C dX9_roomIn_2 g1 e3 rfl ?_
  refine r_aload_n (q := 6) C 0 dX9_roomIn_5 rfl rfl ?_
  refine r_iload_n (q := 7) C 1 dX9_roomIn_6 rfl rfl ?_
  refine r_iconst (q := 8) (v := (1 : Int32)) C dX9_roomIn_7 (by decide) rfl ?_
  refine r_sipush (q := 11) (v := (2000 : Int32)) C dX9_roomIn_8 (by decide) rfl ?_
  obtain ⟨v5, h4, hf⟩ := m_b1_of hf
  refine r_callS (mc := 0) (ms := 0) (q := 14) (st1 := [.int v5, .ref a0]) C (c_X9_isIn hl h4) rfl w_1031 w_1032 w_11 w_1033 hd_X9_isIn rfl rfl rfl ⟨(Nat.le_of_ble_eq_true rfl), (Nat.le_of_ble_eq_true rfl)⟩ (Nat.le_of_ble_eq_true rfl) ⟨(Nat.le_of_ble_eq_true rfl), (Nat.le_of_ble_eq_true rfl)⟩ dX9_roomIn_11 rfl rfl ?_
  refine r_iconst (q := 15) (v := (1 : Int32)) C dX9_roomIn_14 (by decide) rfl ?_
  obtain ⟨v8, S7, h6, hf⟩ := m_bw_of hf
  refine r_callV (mc := 0) (ms := 0) (q := 18) (st1 := [.int v8]) C (c_X9_may hl h6) rfl w_1024 w_1025 w_1333 w_11 w_1026 hd_X9_may rfl (by decide) g1 rfl rfl rfl ⟨(Nat.le_of_ble_eq_true rfl), (Nat.le_of_ble_eq_true rfl)⟩ (Nat.le_of_ble_eq_true rfl) ⟨(Nat.le_of_ble_eq_true rfl), (Nat.le_of_ble_eq_true rfl)⟩ dX9_roomIn_15 rfl rfl ?_
  refine r_if_ne (t := 23) (q := 21) C dX9_roomIn_18 (by decide) rfl (fun c9 => ?_) (fun c9 => ?_)
  · replace hf := m_if1 hf c9
    refine r_aload_n (q := 24) C 0 dX9_roomIn_23 rfl rfl ?_
    obtain ⟨_u, S11, h10, hf⟩ := m_bw_of hf
    refine r_callV (mc := 0) (ms := 0) (q := 27) (st1 := []) C (c_X9_setsAside hl h10) rfl w_1258 w_1259 w_1371 w_11 w_1260 hd_X9_setsAside rfl (by decide) g1 rfl rfl rfl ⟨(Nat.le_of_ble_eq_true rfl), (Nat.le_of_ble_eq_true rfl)⟩ (Nat.le_of_ble_eq_true rfl) ⟨(Nat.le_of_ble_eq_true rfl), (Nat.le_of_ble_eq_true rfl)⟩ dX9_roomIn_24 rfl rfl ?_
    refine r_aload_n (q := 28) C 0 dX9_roomIn_27 rfl rfl ?_
    refine r_iload_n (q := 29) C 1 dX9_roomIn_28 rfl rfl ?_
    refine r_iconst (q := 30) (v := (0 : Int32)) C dX9_roomIn_29 (by decide) rfl ?_
    refine r_iconst (q := 31) (v := (-1 : Int32)) C dX9_roomIn_30 (by decide) rfl ?_
    obtain ⟨v14, S13, h12, hf⟩ := m_bw_of hf
    refine r_callV (mc := 0) (ms := 0) (q := 34) (st1 := [.int v14]) C (c_X9_hours hl h12) rfl w_1241 w_1242 w_1367 w_11 w_1243 hd_X9_hours rfl (by decide) g1 rfl rfl rfl ⟨(Nat.le_of_ble_eq_true rfl), (Nat.le_of_ble_eq_true rfl)⟩ (Nat.le_of_ble_eq_true rfl) ⟨(Nat.le_of_ble_eq_true rfl), (Nat.le_of_ble_eq_true rfl)⟩ dX9_roomIn_31 rfl rfl ?_
    refine r_istore_n (q := 35) (L' := [(2, .int v14), (0, .ref a0), (1, .int p1)]) C dX9_roomIn_34 rfl rfl (by decide) rfl ?_
    refine r_aload_n (q := 36) C 1 dX9_roomIn_35 rfl rfl ?_
    obtain ⟨_u, S16, h15, hf⟩ := m_bw_of hf
    refine r_callV (mc := 0) (ms := 0) (q := 39) (st1 := []) C (c_X9_bringsBack hl h15) rfl w_1261 w_1262 w_1372 w_11 w_1263 hd_X9_bringsBack rfl (by decide) g1 rfl rfl rfl ⟨(Nat.le_of_ble_eq_true rfl), (Nat.le_of_ble_eq_true rfl)⟩ (Nat.le_of_ble_eq_true rfl) ⟨(Nat.le_of_ble_eq_true rfl), (Nat.le_of_ble_eq_true rfl)⟩ dX9_roomIn_36 rfl rfl ?_
    refine r_iload_n (q := 40) C 0 dX9_roomIn_39 rfl rfl ?_
    refine r_if_le (t := 47) (q := 43) C dX9_roomIn_40 (by decide) rfl (fun c17 => ?_) (fun c17 => ?_)
    · replace hf := m_if1 hf c17
      refine r_aload_n (q := 48) C 1 dX9_roomIn_47 rfl rfl ?_
      refine gf_X9_283 (q := 51) C dX9_roomIn_48 g1 rfl ?_
      obtain ⟨rfl, rfl⟩ := m_so2 hf
      exact r_iret C F dX9_roomIn_51
    · replace hf := m_if0 hf c17
      refine r_iconst (q := 44) (v := (-1 : Int32)) C dX9_roomIn_43 (by decide) rfl ?_
      refine r_goto (t := 51) C dX9_roomIn_44 (by decide) ?_
      obtain ⟨rfl, rfl⟩ := m_so2 hf
      exact r_iret C F dX9_roomIn_51
  · replace hf := m_if0 hf (fun z => z c9)
    refine r_iconst (q := 22) (v := (0 : Int32)) C dX9_roomIn_21 (by decide) rfl ?_
    obtain ⟨rfl, rfl⟩ := m_so2 hf
    exact r_iret C F dX9_roomIn_22
def F_X9_save_62 (Z : m_Z) (a0 : Nat) (p1 : Int32) (j18 : (m_S → Option (Unit × m_S))) (lp21 : (Int32 × m_S) → Option (Unit × m_S)) (p38 : (Int32 × m_S)) : Option (Unit × m_S) := match p38 with
  | (v19, S20) => (if (30 : Int32) ≤ v19 then j18 S20 else m_b1 (S20.2.2 a0 9) (fun b26 => m_b1 (S20.2.2 a0 7) (fun b28 => m_gd (m_ok Z b28 12) (m_gd (m_in v19 (Z.2.2 b28)) (m_gd (m_ok Z b26 12) (m_gd (m_in (((30 : Int32) * p1) + v19) (Z.2.2 b26)) (m_lt (m_pJ S20 b26 (((30 : Int32) * p1) + v19).toNatClampNeg (S20.2.1 b28 v19.toNatClampNeg)) (fun S34 => m_lt (v19 + (1 : Int32)) (fun v36 => lp21 (v36, S34))))))))))
def F_X9_save_29 (Z : m_Z) (a0 : Nat) (p1 : Int32) (j39 : (m_S → Option (Unit × m_S))) (lp42 : (Int32 × m_S) → Option (Unit × m_S)) (p59 : (Int32 × m_S)) : Option (Unit × m_S) := match p59 with
  | (v40, S41) => (if (340 : Int32) ≤ v40 then j39 S41 else m_b1 (S41.2.2 a0 5) (fun b47 => m_b1 (S41.2.2 a0 3) (fun b49 => m_gd (m_ok Z b49 11) (m_gd (m_in v40 (Z.2.2 b49)) (m_gd (m_ok Z b47 11) (m_gd (m_in (((340 : Int32) * p1) + v40) (Z.2.2 b47)) (m_lt (m_pI S41 b47 (((340 : Int32) * p1) + v40).toNatClampNeg (S41.1 b49 v40.toNatClampNeg)) (fun S55 => m_lt (v40 + (1 : Int32)) (fun v57 => lp42 (v57, S55))))))))))
def f_X9_save (Z : m_Z) (S : m_S) (a0 : Nat) (p1 : Int32) : Option (Unit × m_S) := m_gd (m_ok Z a0 9) (m_lt (m_pI S a0 0 (0 : Int32)) (fun S2 => m_b1 (f_X9_isIn Z S2 p1 (0 : Int32) (1 : Int32)) (fun v5 => m_bw (f_X9_may Z S2 a0 v5 (1 : Int32)) (fun v8 S7 => (if ¬ v8 = 0 then m_b1 (S7.2.2 a0 10) (fun b10 => m_gd (m_ok Z b10 13) (m_gd (m_in p1 (Z.2.2 b10)) (m_lt (m_pI S7 b10 p1.toNatClampNeg (vp_nar .boolean (1 : Int32))) (fun S14 => m_jp (fun (S16 : m_S) => m_jp (fun (S17 : m_S) => some ((), S17)) (fun j18 => m_fx (F_X9_save_62 Z a0 p1 j18) 100000 ((0 : Int32), S16))) (fun j39 => m_fx (F_X9_save_29 Z a0 p1 j39) 100000 ((0 : Int32), S14)))))) else some ((), S7))))))
abbrev rm_X9_save : Room := { frames := 1, cells := 0, slots := 0, locals := 22 }
theorem hd_X9_save : yX9_save.cls = RX9 ∧ yX9_save.cls ≠ "java/lang/invoke/MethodHandle" ∧ yX9_save.cls ≠ "java/lang/invoke/VarHandle" ∧ (parseMethodDescriptor yX9_save.desc).map (fun d => d.parameters.length) = some 1 := by decide +kernel
set_option maxHeartbeats 4000000 in
set_option maxRecDepth 100000 in
theorem c_X9_save {l : Launch} (hl : l.stackTraces = false) {Z : m_Z} {S : m_S} {a0 : Nat} {p1 : Int32} {rZ9 : Unit} {SZ9 : m_S} (hf : f_X9_save Z S a0 p1 = some (rZ9, SZ9)) : m_Ct l yX9_save (.code yX9_save cX9_save 3 none :: m_ws) rm_X9_save (fun f => [.ref a0, .int p1]) Z S (none) SZ9 := by
  unfold f_X9_save at hf
  refine m_ent hl (by decide) (fun _ => Nat.le_of_ble_eq_true rfl) (fun x C F => ?_)
  have C : m_H x l RX9 cX9_save 3 rm_X9_save := C
  show m_G x Z S 3 0 0 0 [(0, .ref a0), (1, .int p1)] []
  refine r_aload_n (q := 1) C 0 dX9_save_0 rfl rfl ?_
  refine r_iconst (q := 2) (v := (0 : Int32)) C dX9_save_1 (by decide) rfl ?_
  obtain ⟨g1, hf⟩ := m_gd_of hf
  obtain ⟨S2, e3, hf⟩ := m_lt_of hf
  refine pf_X9_61 (q := 5) C dX9_save_2 g1 e3 rfl ?_
  refine r_aload_n (q := 6) C 0 dX9_save_5 rfl rfl ?_
  refine r_iload_n (q := 7) C 1 dX9_save_6 rfl rfl ?_
  refine r_iconst (q := 8) (v := (0 : Int32)) C dX9_save_7 (by decide) rfl ?_
  refine r_iconst (q := 9) (v := (1 : Int32)) C dX9_save_8 (by decide) rfl ?_
  obtain ⟨v5, h4, hf⟩ := m_b1_of hf
  refine r_callS (mc := 0) (ms := 0) (q := 12) (st1 := [.int v5, .ref a0]) C (c_X9_isIn hl h4) rfl w_1031 w_1032 w_11 w_1033 hd_X9_isIn rfl rfl rfl ⟨(Nat.le_of_ble_eq_true rfl), (Nat.le_of_ble_eq_true rfl)⟩ (Nat.le_of_ble_eq_true rfl) ⟨(Nat.le_of_ble_eq_true rfl), (Nat.le_of_ble_eq_true rfl)⟩ dX9_save_9 rfl rfl ?_
  refine r_iconst (q := 13) (v := (1 : Int32)) C dX9_save_12 (by decide) rfl ?_
  obtain ⟨v8, S7, h6, hf⟩ := m_bw_of hf
  refine r_callV (mc := 0) (ms := 0) (q := 16) (st1 := [.int v8]) C (c_X9_may hl h6) rfl w_1024 w_1025 w_1333 w_11 w_1026 hd_X9_may rfl (by decide) g1 rfl rfl rfl ⟨(Nat.le_of_ble_eq_true rfl), (Nat.le_of_ble_eq_true rfl)⟩ (Nat.le_of_ble_eq_true rfl) ⟨(Nat.le_of_ble_eq_true rfl), (Nat.le_of_ble_eq_true rfl)⟩ dX9_save_13 rfl rfl ?_
  refine r_if_ne (t := 20) (q := 19) C dX9_save_16 (by decide) rfl (fun c9 => ?_) (fun c9 => ?_)
  · replace hf := m_if1 hf c9
    refine r_aload_n (q := 21) C 0 dX9_save_20 rfl rfl ?_
    obtain ⟨b10, e11, hf⟩ := m_b1_of hf
    refine gf_X9_38 (q := 24) C dX9_save_21 g1 e11 rfl ?_
    refine r_iload_n (q := 25) C 1 dX9_save_24 rfl rfl ?_
    refine r_iconst (q := 26) (v := (1 : Int32)) C dX9_save_25 (by decide) rfl ?_
    obtain ⟨g12, hf⟩ := m_gd_of hf
    obtain ⟨g13, hf⟩ := m_gd_of hf
    obtain ⟨S14, e15, hf⟩ := m_lt_of hf
    refine r_zast (q := 27) C dX9_save_26 ⟨g12, g13⟩ rfl ?_
    rw [← e15]
    refine r_iconst (q := 28) (v := (0 : Int32)) C dX9_save_27 (by decide) rfl ?_
    refine r_istore_n (q := 29) (L' := [(2, .int (0 : Int32)), (0, .ref a0), (1, .int p1)]) C dX9_save_28 rfl rfl (by decide) rfl ?_
    obtain ⟨j39, ej39, hf⟩ := m_jp_of hf
    have J39 : ∀ (S16 : m_S), j39 S16 = some (rZ9, SZ9) → m_G x Z S16 3 0 0 60 [(0, .ref a0), (1, .int p1)] [] := by
      intro S16 hf
      rw [ej39] at hf
      refine r_iconst (q := 61) (v := (0 : Int32)) C dX9_save_60 (by decide) rfl ?_
      refine r_istore_n (q := 62) (L' := [(2, .int (0 : Int32)), (0, .ref a0), (1, .int p1)]) C dX9_save_61 rfl rfl (by decide) rfl ?_
      obtain ⟨j18, ej18, hf⟩ := m_jp_of hf
      have J18 : ∀ (S17 : m_S), j18 S17 = some (rZ9, SZ9) → m_G x Z S17 3 0 0 91 [] [] := by
        intro S17 hf
        rw [ej18] at hf
        obtain ⟨rfl, rfl⟩ := m_so2 hf
        exact r_vret C F dX9_save_91
      have LL24 : ∀ (fu23 : Nat) (v19 : Int32) (S20 : m_S), m_fx (F_X9_save_62 Z a0 p1 j18) fu23 (v19, S20) = some (rZ9, SZ9) → m_G x Z S20 3 0 0 62 [(0, .ref a0), (1, .int p1), (2, .int v19)] [] := by
        intro fu23
        induction fu23 with
        | zero => intros; rename_i hf; cases hf
        | succ fu23 ih22 =>
          intro v19 S20 hf
          replace hf : F_X9_save_62 Z a0 p1 j18 (m_fx (F_X9_save_62 Z a0 p1 j18) fu23) (v19, S20) = some (rZ9, SZ9) := hf
          unfold F_X9_save_62 at hf
          dsimp only at hf
          refine r_iload_n (q := 63) C 2 dX9_save_62 rfl rfl ?_
          refine r_bipush (q := 65) (v := (30 : Int32)) C dX9_save_63 (by decide) rfl ?_
          refine r_icmp_ge (t := 91) (q := 68) C dX9_save_65 (by decide) rfl (fun c25 => ?_) (fun c25 => ?_)
          · replace hf := m_if1 hf c25
            refine r_sub [] rfl ?_
            exact J18 S20 hf
          · replace hf := m_if0 hf c25
            refine r_aload_n (q := 69) C 0 dX9_save_68 rfl rfl ?_
            obtain ⟨b26, e27, hf⟩ := m_b1_of hf
            refine gf_X9_35 (q := 72) C dX9_save_69 g1 e27 rfl ?_
            refine r_bipush (q := 74) (v := (30 : Int32)) C dX9_save_72 (by decide) rfl ?_
            refine r_iload_n (q := 75) C 1 dX9_save_74 rfl rfl ?_
            refine r_imul (q := 76) C dX9_save_75 rfl ?_
            refine r_iload_n (q := 77) C 2 dX9_save_76 rfl rfl ?_
            refine r_iadd (q := 78) C dX9_save_77 rfl ?_
            refine r_aload_n (q := 79) C 0 dX9_save_78 rfl rfl ?_
            obtain ⟨b28, e29, hf⟩ := m_b1_of hf
            refine gf_X9_28 (q := 82) C dX9_save_79 g1 e29 rfl ?_
            refine r_iload_n (q := 83) C 2 dX9_save_82 rfl rfl ?_
            obtain ⟨g30, hf⟩ := m_gd_of hf
            obtain ⟨g31, hf⟩ := m_gd_of hf
            refine r_lald (q := 84) C dX9_save_83 ⟨g30, g31⟩ rfl ?_
            obtain ⟨g32, hf⟩ := m_gd_of hf
            obtain ⟨g33, hf⟩ := m_gd_of hf
            obtain ⟨S34, e35, hf⟩ := m_lt_of hf
            refine r_last (q := 85) C dX9_save_84 ⟨g32, g33⟩ rfl ?_
            rw [← e35]
            obtain ⟨v36, e37, hf⟩ := m_lt_of hf
            refine r_iinc (q := 88) (v := v36) (L' := [(2, .int v36), (0, .ref a0), (1, .int p1)]) C 2 dX9_save_85 rfl (by rw [e37]; rfl) rfl (by decide) rfl ?_
            refine r_goto (t := 62) C dX9_save_88 (by decide) ?_
            refine r_sub [1, 2, 0] rfl ?_
            exact ih22 v36 S34 hf
      refine r_sub [1, 2, 0] rfl ?_
      exact LL24 100000 (0 : Int32) S16 hf
    have LL45 : ∀ (fu44 : Nat) (v40 : Int32) (S41 : m_S), m_fx (F_X9_save_29 Z a0 p1 j39) fu44 (v40, S41) = some (rZ9, SZ9) → m_G x Z S41 3 0 0 29 [(0, .ref a0), (1, .int p1), (2, .int v40)] [] := by
      intro fu44
      induction fu44 with
      | zero => intros; rename_i hf; cases hf
      | succ fu44 ih43 =>
        intro v40 S41 hf
        replace hf : F_X9_save_29 Z a0 p1 j39 (m_fx (F_X9_save_29 Z a0 p1 j39) fu44) (v40, S41) = some (rZ9, SZ9) := hf
        unfold F_X9_save_29 at hf
        dsimp only at hf
        refine r_iload_n (q := 30) C 2 dX9_save_29 rfl rfl ?_
        refine r_sipush (q := 33) (v := (340 : Int32)) C dX9_save_30 (by decide) rfl ?_
        refine r_icmp_ge (t := 60) (q := 36) C dX9_save_33 (by decide) rfl (fun c46 => ?_) (fun c46 => ?_)
        · replace hf := m_if1 hf c46
          refine r_sub [0, 1] rfl ?_
          exact J39 S41 hf
        · replace hf := m_if0 hf c46
          refine r_aload_n (q := 37) C 0 dX9_save_36 rfl rfl ?_
          obtain ⟨b47, e48, hf⟩ := m_b1_of hf
          refine gf_X9_22 (q := 40) C dX9_save_37 g1 e48 rfl ?_
          refine r_sipush (q := 43) (v := (340 : Int32)) C dX9_save_40 (by decide) rfl ?_
          refine r_iload_n (q := 44) C 1 dX9_save_43 rfl rfl ?_
          refine r_imul (q := 45) C dX9_save_44 rfl ?_
          refine r_iload_n (q := 46) C 2 dX9_save_45 rfl rfl ?_
          refine r_iadd (q := 47) C dX9_save_46 rfl ?_
          refine r_aload_n (q := 48) C 0 dX9_save_47 rfl rfl ?_
          obtain ⟨b49, e50, hf⟩ := m_b1_of hf
          refine gf_X9_16 (q := 51) C dX9_save_48 g1 e50 rfl ?_
          refine r_iload_n (q := 52) C 2 dX9_save_51 rfl rfl ?_
          obtain ⟨g51, hf⟩ := m_gd_of hf
          obtain ⟨g52, hf⟩ := m_gd_of hf
          refine r_iald (q := 53) C dX9_save_52 ⟨g51, g52⟩ rfl ?_
          obtain ⟨g53, hf⟩ := m_gd_of hf
          obtain ⟨g54, hf⟩ := m_gd_of hf
          obtain ⟨S55, e56, hf⟩ := m_lt_of hf
          refine r_iast (q := 54) C dX9_save_53 ⟨g53, g54⟩ rfl ?_
          rw [← e56]
          obtain ⟨v57, e58, hf⟩ := m_lt_of hf
          refine r_iinc (q := 57) (v := v57) (L' := [(2, .int v57), (0, .ref a0), (1, .int p1)]) C 2 dX9_save_54 rfl (by rw [e58]; rfl) rfl (by decide) rfl ?_
          refine r_goto (t := 29) C dX9_save_57 (by decide) ?_
          refine r_sub [1, 2, 0] rfl ?_
          exact ih43 v57 S55 hf
    refine r_sub [1, 2, 0] rfl ?_
    exact LL45 100000 (0 : Int32) S14 hf
  · replace hf := m_if0 hf (fun z => z c9)
    obtain ⟨rfl, rfl⟩ := m_so2 hf
    exact r_vret C F dX9_save_19
def f_X9_setLeak (Z : m_Z) (S : m_S) (a0 : Nat) (p1 : Int32) (p2 : Int32) : Option (Int32 × m_S) := m_gd (m_ok Z a0 9) (m_lt (m_pI S a0 0 (0 : Int32)) (fun S2 => m_b1 (f_X9_isCase Z S2 a0 p1) (fun v5 => m_bw (f_X9_may Z S2 a0 v5 (1 : Int32)) (fun v8 S7 => (if v8 = 0 then some ((0 : Int32), S7) else m_b1 (f_X9_isIn Z S7 p2 (0 : Int32) (1000 : Int32)) (fun v11 => m_bw (f_X9_may Z S7 a0 v11 (2 : Int32)) (fun v14 S13 => (if ¬ v14 = 0 then m_b1 (f_X9_of Z S13 a0 p1 (0 : Int32)) (fun v17 => m_bw (f_X9_lays Z S13 a0 p1 (0 : Int32) p2) (fun _u S19 => some (v17, S19))) else some ((0 : Int32), S13)))))))))
abbrev rm_X9_setLeak : Room := { frames := 2, cells := 0, slots := 0, locals := 43 }
theorem hd_X9_setLeak : yX9_setLeak.cls = RX9 ∧ yX9_setLeak.cls ≠ "java/lang/invoke/MethodHandle" ∧ yX9_setLeak.cls ≠ "java/lang/invoke/VarHandle" ∧ (parseMethodDescriptor yX9_setLeak.desc).map (fun d => d.parameters.length) = some 2 := by decide +kernel
set_option maxHeartbeats 4000000 in
set_option maxRecDepth 100000 in
theorem c_X9_setLeak {l : Launch} (hl : l.stackTraces = false) {Z : m_Z} {S : m_S} {a0 : Nat} {p1 : Int32} {p2 : Int32} {rZ9 : Int32} {SZ9 : m_S} (hf : f_X9_setLeak Z S a0 p1 p2 = some (rZ9, SZ9)) : m_Ct l yX9_setLeak (.code yX9_setLeak cX9_setLeak 4 (some .int) :: m_ws) rm_X9_setLeak (fun f => [.ref a0, .int p1, .int p2]) Z S (some (.int rZ9)) SZ9 := by
  unfold f_X9_setLeak at hf
  refine m_ent hl (by decide) (fun _ => Nat.le_of_ble_eq_true rfl) (fun x C F => ?_)
  have C : m_H x l RX9 cX9_setLeak 4 rm_X9_setLeak := C
  show m_G x Z S 4 0 0 0 [(0, .ref a0), (1, .int p1), (2, .int p2)] []
  refine r_aload_n (q := 1) C 0 dX9_setLeak_0 rfl rfl ?_
  refine r_iconst (q := 2) (v := (0 : Int32)) C dX9_setLeak_1 (by decide) rfl ?_
  obtain ⟨g1, hf⟩ := m_gd_of hf
  obtain ⟨S2, e3, hf⟩ := m_lt_of hf
  refine pf_X9_61 (q := 5) C dX9_setLeak_2 g1 e3 rfl ?_
  refine r_aload_n (q := 6) C 0 dX9_setLeak_5 rfl rfl ?_
  refine r_aload_n (q := 7) C 0 dX9_setLeak_6 rfl rfl ?_
  refine r_iload_n (q := 8) C 1 dX9_setLeak_7 rfl rfl ?_
  obtain ⟨v5, h4, hf⟩ := m_b1_of hf
  refine r_callV (mc := 0) (ms := 0) (q := 11) (st1 := [.int v5, .ref a0]) C (c_X9_isCase hl h4) rfl w_1146 w_1147 w_1356 w_11 w_1148 hd_X9_isCase rfl (by decide) g1 rfl rfl rfl ⟨(Nat.le_of_ble_eq_true rfl), (Nat.le_of_ble_eq_true rfl)⟩ (Nat.le_of_ble_eq_true rfl) ⟨(Nat.le_of_ble_eq_true rfl), (Nat.le_of_ble_eq_true rfl)⟩ dX9_setLeak_8 rfl rfl ?_
  refine r_iconst (q := 12) (v := (1 : Int32)) C dX9_setLeak_11 (by decide) rfl ?_
  obtain ⟨v8, S7, h6, hf⟩ := m_bw_of hf
  refine r_callV (mc := 0) (ms := 0) (q := 15) (st1 := [.int v8]) C (c_X9_may hl h6) rfl w_1024 w_1025 w_1333 w_11 w_1026 hd_X9_may rfl (by decide) g1 rfl rfl rfl ⟨(Nat.le_of_ble_eq_true rfl), (Nat.le_of_ble_eq_true rfl)⟩ (Nat.le_of_ble_eq_true rfl) ⟨(Nat.le_of_ble_eq_true rfl), (Nat.le_of_ble_eq_true rfl)⟩ dX9_setLeak_12 rfl rfl ?_
  refine r_if_eq (t := 34) (q := 18) C dX9_setLeak_15 (by decide) rfl (fun c9 => ?_) (fun c9 => ?_)
  · replace hf := m_if1 hf c9
    refine r_iconst (q := 35) (v := (0 : Int32)) C dX9_setLeak_34 (by decide) rfl ?_
    obtain ⟨rfl, rfl⟩ := m_so2 hf
    exact r_iret C F dX9_setLeak_35
  · replace hf := m_if0 hf c9
    refine r_aload_n (q := 19) C 0 dX9_setLeak_18 rfl rfl ?_
    refine r_iload_n (q := 20) C 2 dX9_setLeak_19 rfl rfl ?_
    refine r_iconst (q := 21) (v := (0 : Int32)) C dX9_setLeak_20 (by decide) rfl ?_
    refine r_sipush (q := 24) (v := (1000 : Int32)) C dX9_setLeak_21 (by decide) rfl ?_
    obtain ⟨v11, h10, hf⟩ := m_b1_of hf
    refine r_callS (mc := 0) (ms := 0) (q := 27) (st1 := [.int v11, .ref a0]) C (c_X9_isIn hl h10) rfl w_1031 w_1032 w_11 w_1033 hd_X9_isIn rfl rfl rfl ⟨(Nat.le_of_ble_eq_true rfl), (Nat.le_of_ble_eq_true rfl)⟩ (Nat.le_of_ble_eq_true rfl) ⟨(Nat.le_of_ble_eq_true rfl), (Nat.le_of_ble_eq_true rfl)⟩ dX9_setLeak_24 rfl rfl ?_
    refine r_iconst (q := 28) (v := (2 : Int32)) C dX9_setLeak_27 (by decide) rfl ?_
    obtain ⟨v14, S13, h12, hf⟩ := m_bw_of hf
    refine r_callV (mc := 0) (ms := 0) (q := 31) (st1 := [.int v14]) C (c_X9_may hl h12) rfl w_1024 w_1025 w_1333 w_11 w_1026 hd_X9_may rfl (by decide) g1 rfl rfl rfl ⟨(Nat.le_of_ble_eq_true rfl), (Nat.le_of_ble_eq_true rfl)⟩ (Nat.le_of_ble_eq_true rfl) ⟨(Nat.le_of_ble_eq_true rfl), (Nat.le_of_ble_eq_true rfl)⟩ dX9_setLeak_28 rfl rfl ?_
    refine r_if_ne (t := 36) (q := 34) C dX9_setLeak_31 (by decide) rfl (fun c15 => ?_) (fun c15 => ?_)
    · replace hf := m_if1 hf c15
      refine r_aload_n (q := 37) C 0 dX9_setLeak_36 rfl rfl ?_
      refine r_iload_n (q := 38) C 1 dX9_setLeak_37 rfl rfl ?_
      refine r_iconst (q := 39) (v := (0 : Int32)) C dX9_setLeak_38 (by decide) rfl ?_
      obtain ⟨v17, h16, hf⟩ := m_b1_of hf
      refine r_callV (mc := 0) (ms := 0) (q := 42) (st1 := [.int v17]) C (c_X9_of hl h16) rfl w_937 w_938 w_1325 w_11 w_939 hd_X9_of rfl (by decide) g1 rfl rfl rfl ⟨(Nat.le_of_ble_eq_true rfl), (Nat.le_of_ble_eq_true rfl)⟩ (Nat.le_of_ble_eq_true rfl) ⟨(Nat.le_of_ble_eq_true rfl), (Nat.le_of_ble_eq_true rfl)⟩ dX9_setLeak_39 rfl rfl ?_
      refine r_istore_n (q := 43) (L' := [(3, .int v17), (0, .ref a0), (1, .int p1), (2, .int p2)]) C dX9_setLeak_42 rfl rfl (by decide) rfl ?_
      refine r_aload_n (q := 44) C 1 dX9_setLeak_43 rfl rfl ?_
      refine r_iload_n (q := 45) C 2 dX9_setLeak_44 rfl rfl ?_
      refine r_iconst (q := 46) (v := (0 : Int32)) C dX9_setLeak_45 (by decide) rfl ?_
      refine r_iload_n (q := 47) C 3 dX9_setLeak_46 rfl rfl ?_
      obtain ⟨_u, S19, h18, hf⟩ := m_bw_of hf
      refine r_callV (mc := 0) (ms := 0) (q := 50) (st1 := []) C (c_X9_lays hl h18) rfl w_955 w_956 w_1330 w_11 w_957 hd_X9_lays rfl (by decide) g1 rfl rfl rfl ⟨(Nat.le_of_ble_eq_true rfl), (Nat.le_of_ble_eq_true rfl)⟩ (Nat.le_of_ble_eq_true rfl) ⟨(Nat.le_of_ble_eq_true rfl), (Nat.le_of_ble_eq_true rfl)⟩ dX9_setLeak_47 rfl rfl ?_
      refine r_iload_n (q := 51) C 0 dX9_setLeak_50 rfl rfl ?_
      obtain ⟨rfl, rfl⟩ := m_so2 hf
      exact r_iret C F dX9_setLeak_51
    · replace hf := m_if0 hf (fun z => z c15)
      refine r_iconst (q := 35) (v := (0 : Int32)) C dX9_setLeak_34 (by decide) rfl ?_
      obtain ⟨rfl, rfl⟩ := m_so2 hf
      exact r_iret C F dX9_setLeak_35
def f_X9_setPoint (Z : m_Z) (S : m_S) (a0 : Nat) (p1 : Int32) : Option (Int32 × m_S) := m_gd (m_ok Z a0 9) (m_lt (m_pI S a0 0 (0 : Int32)) (fun S2 => m_b1 (f_X9_isIn Z S2 p1 (0 : Int32) (364 : Int32)) (fun v5 => m_bw (f_X9_may Z S2 a0 v5 (1 : Int32)) (fun v8 S7 => (if v8 = 0 then some ((0 : Int32), S7) else m_b1 (f_X9_setOn Z S7 a0 p1) (fun v11 => some (v11, S7)))))))
abbrev rm_X9_setPoint : Room := { frames := 2, cells := 0, slots := 0, locals := 50 }
theorem hd_X9_setPoint : yX9_setPoint.cls = RX9 ∧ yX9_setPoint.cls ≠ "java/lang/invoke/MethodHandle" ∧ yX9_setPoint.cls ≠ "java/lang/invoke/VarHandle" ∧ (parseMethodDescriptor yX9_setPoint.desc).map (fun d => d.parameters.length) = some 1 := by decide +kernel
set_option maxHeartbeats 4000000 in
set_option maxRecDepth 100000 in
theorem c_X9_setPoint {l : Launch} (hl : l.stackTraces = false) {Z : m_Z} {S : m_S} {a0 : Nat} {p1 : Int32} {rZ9 : Int32} {SZ9 : m_S} (hf : f_X9_setPoint Z S a0 p1 = some (rZ9, SZ9)) : m_Ct l yX9_setPoint (.code yX9_setPoint cX9_setPoint 2 (some .int) :: m_ws) rm_X9_setPoint (fun f => [.ref a0, .int p1]) Z S (some (.int rZ9)) SZ9 := by
  unfold f_X9_setPoint at hf
  refine m_ent hl (by decide) (fun _ => Nat.le_of_ble_eq_true rfl) (fun x C F => ?_)
  have C : m_H x l RX9 cX9_setPoint 2 rm_X9_setPoint := C
  show m_G x Z S 2 0 0 0 [(0, .ref a0), (1, .int p1)] []
  refine r_aload_n (q := 1) C 0 dX9_setPoint_0 rfl rfl ?_
  refine r_iconst (q := 2) (v := (0 : Int32)) C dX9_setPoint_1 (by decide) rfl ?_
  obtain ⟨g1, hf⟩ := m_gd_of hf
  obtain ⟨S2, e3, hf⟩ := m_lt_of hf
  refine pf_X9_61 (q := 5) C dX9_setPoint_2 g1 e3 rfl ?_
  refine r_aload_n (q := 6) C 0 dX9_setPoint_5 rfl rfl ?_
  refine r_iload_n (q := 7) C 1 dX9_setPoint_6 rfl rfl ?_
  refine r_iconst (q := 8) (v := (0 : Int32)) C dX9_setPoint_7 (by decide) rfl ?_
  refine r_sipush (q := 11) (v := (364 : Int32)) C dX9_setPoint_8 (by decide) rfl ?_
  obtain ⟨v5, h4, hf⟩ := m_b1_of hf
  refine r_callS (mc := 0) (ms := 0) (q := 14) (st1 := [.int v5, .ref a0]) C (c_X9_isIn hl h4) rfl w_1031 w_1032 w_11 w_1033 hd_X9_isIn rfl rfl rfl ⟨(Nat.le_of_ble_eq_true rfl), (Nat.le_of_ble_eq_true rfl)⟩ (Nat.le_of_ble_eq_true rfl) ⟨(Nat.le_of_ble_eq_true rfl), (Nat.le_of_ble_eq_true rfl)⟩ dX9_setPoint_11 rfl rfl ?_
  refine r_iconst (q := 15) (v := (1 : Int32)) C dX9_setPoint_14 (by decide) rfl ?_
  obtain ⟨v8, S7, h6, hf⟩ := m_bw_of hf
  refine r_callV (mc := 0) (ms := 0) (q := 18) (st1 := [.int v8]) C (c_X9_may hl h6) rfl w_1024 w_1025 w_1333 w_11 w_1026 hd_X9_may rfl (by decide) g1 rfl rfl rfl ⟨(Nat.le_of_ble_eq_true rfl), (Nat.le_of_ble_eq_true rfl)⟩ (Nat.le_of_ble_eq_true rfl) ⟨(Nat.le_of_ble_eq_true rfl), (Nat.le_of_ble_eq_true rfl)⟩ dX9_setPoint_15 rfl rfl ?_
  refine r_if_eq (t := 29) (q := 21) C dX9_setPoint_18 (by decide) rfl (fun c9 => ?_) (fun c9 => ?_)
  · replace hf := m_if1 hf c9
    refine r_iconst (q := 30) (v := (0 : Int32)) C dX9_setPoint_29 (by decide) rfl ?_
    obtain ⟨rfl, rfl⟩ := m_so2 hf
    exact r_iret C F dX9_setPoint_30
  · replace hf := m_if0 hf c9
    refine r_aload_n (q := 22) C 0 dX9_setPoint_21 rfl rfl ?_
    refine r_iload_n (q := 23) C 1 dX9_setPoint_22 rfl rfl ?_
    obtain ⟨v11, h10, hf⟩ := m_b1_of hf
    refine r_callV (mc := 0) (ms := 0) (q := 26) (st1 := [.int v11]) C (c_X9_setOn hl h10) rfl w_1120 w_1121 w_1354 w_11 w_1122 hd_X9_setOn rfl (by decide) g1 rfl rfl rfl ⟨(Nat.le_of_ble_eq_true rfl), (Nat.le_of_ble_eq_true rfl)⟩ (Nat.le_of_ble_eq_true rfl) ⟨(Nat.le_of_ble_eq_true rfl), (Nat.le_of_ble_eq_true rfl)⟩ dX9_setPoint_23 rfl rfl ?_
    refine r_goto (t := 30) C dX9_setPoint_26 (by decide) ?_
    obtain ⟨rfl, rfl⟩ := m_so2 hf
    exact r_iret C F dX9_setPoint_30
def f_X9_setSafe (Z : m_Z) (S : m_S) (a0 : Nat) (p1 : Int32) (p2 : Int32) (p3 : Int32) : Option (Unit × m_S) := m_gd (m_ok Z a0 9) (m_lt (m_pI S a0 0 (0 : Int32)) (fun S2 => m_b1 (f_X9_isCase Z S2 a0 p1) (fun v5 => m_bw (f_X9_may Z S2 a0 v5 (1 : Int32)) (fun v8 S7 => (if v8 = 0 then some ((), S7) else m_b1 (f_X9_isIn Z S7 p2 (0 : Int32) (1000 : Int32)) (fun v11 => m_jp (fun (v13 : Int32) => m_bw (f_X9_may Z S7 a0 v13 (2 : Int32)) (fun v16 S15 => (if ¬ v16 = 0 then m_bw (f_X9_lays Z S15 a0 p1 (1 : Int32) p2) (fun _u S19 => m_bw (f_X9_lays Z S19 a0 p1 (2 : Int32) p3) (fun _u S21 => some ((), S21))) else some ((), S15)))) (fun j12 => m_jp (fun (_ : Unit) => j12 (0 : Int32)) (fun j22 => (if v11 = 0 then j22 () else m_b1 (f_X9_isIn Z S7 p3 p2 (1000 : Int32)) (fun v25 => (if v25 = 0 then j22 () else j12 (1 : Int32))))))))))))
abbrev rm_X9_setSafe : Room := { frames := 2, cells := 0, slots := 0, locals := 43 }
theorem hd_X9_setSafe : yX9_setSafe.cls = RX9 ∧ yX9_setSafe.cls ≠ "java/lang/invoke/MethodHandle" ∧ yX9_setSafe.cls ≠ "java/lang/invoke/VarHandle" ∧ (parseMethodDescriptor yX9_setSafe.desc).map (fun d => d.parameters.length) = some 3 := by decide +kernel
set_option maxHeartbeats 4000000 in
set_option maxRecDepth 100000 in
theorem c_X9_setSafe {l : Launch} (hl : l.stackTraces = false) {Z : m_Z} {S : m_S} {a0 : Nat} {p1 : Int32} {p2 : Int32} {p3 : Int32} {rZ9 : Unit} {SZ9 : m_S} (hf : f_X9_setSafe Z S a0 p1 p2 p3 = some (rZ9, SZ9)) : m_Ct l yX9_setSafe (.code yX9_setSafe cX9_setSafe 4 none :: m_ws) rm_X9_setSafe (fun f => [.ref a0, .int p1, .int p2, .int p3]) Z S (none) SZ9 := by
  unfold f_X9_setSafe at hf
  refine m_ent hl (by decide) (fun _ => Nat.le_of_ble_eq_true rfl) (fun x C F => ?_)
  have C : m_H x l RX9 cX9_setSafe 4 rm_X9_setSafe := C
  show m_G x Z S 4 0 0 0 [(0, .ref a0), (1, .int p1), (2, .int p2), (3, .int p3)] []
  refine r_aload_n (q := 1) C 0 dX9_setSafe_0 rfl rfl ?_
  refine r_iconst (q := 2) (v := (0 : Int32)) C dX9_setSafe_1 (by decide) rfl ?_
  obtain ⟨g1, hf⟩ := m_gd_of hf
  obtain ⟨S2, e3, hf⟩ := m_lt_of hf
  refine pf_X9_61 (q := 5) C dX9_setSafe_2 g1 e3 rfl ?_
  refine r_aload_n (q := 6) C 0 dX9_setSafe_5 rfl rfl ?_
  refine r_aload_n (q := 7) C 0 dX9_setSafe_6 rfl rfl ?_
  refine r_iload_n (q := 8) C 1 dX9_setSafe_7 rfl rfl ?_
  obtain ⟨v5, h4, hf⟩ := m_b1_of hf
  refine r_callV (mc := 0) (ms := 0) (q := 11) (st1 := [.int v5, .ref a0]) C (c_X9_isCase hl h4) rfl w_1146 w_1147 w_1356 w_11 w_1148 hd_X9_isCase rfl (by decide) g1 rfl rfl rfl ⟨(Nat.le_of_ble_eq_true rfl), (Nat.le_of_ble_eq_true rfl)⟩ (Nat.le_of_ble_eq_true rfl) ⟨(Nat.le_of_ble_eq_true rfl), (Nat.le_of_ble_eq_true rfl)⟩ dX9_setSafe_8 rfl rfl ?_
  refine r_iconst (q := 12) (v := (1 : Int32)) C dX9_setSafe_11 (by decide) rfl ?_
  obtain ⟨v8, S7, h6, hf⟩ := m_bw_of hf
  refine r_callV (mc := 0) (ms := 0) (q := 15) (st1 := [.int v8]) C (c_X9_may hl h6) rfl w_1024 w_1025 w_1333 w_11 w_1026 hd_X9_may rfl (by decide) g1 rfl rfl rfl ⟨(Nat.le_of_ble_eq_true rfl), (Nat.le_of_ble_eq_true rfl)⟩ (Nat.le_of_ble_eq_true rfl) ⟨(Nat.le_of_ble_eq_true rfl), (Nat.le_of_ble_eq_true rfl)⟩ dX9_setSafe_12 rfl rfl ?_
  refine r_if_eq (t := 53) (q := 18) C dX9_setSafe_15 (by decide) rfl (fun c9 => ?_) (fun c9 => ?_)
  · replace hf := m_if1 hf c9
    obtain ⟨rfl, rfl⟩ := m_so2 hf
    exact r_vret C F dX9_setSafe_53
  · replace hf := m_if0 hf c9
    refine r_aload_n (q := 19) C 0 dX9_setSafe_18 rfl rfl ?_
    refine r_iload_n (q := 20) C 2 dX9_setSafe_19 rfl rfl ?_
    refine r_iconst (q := 21) (v := (0 : Int32)) C dX9_setSafe_20 (by decide) rfl ?_
    refine r_sipush (q := 24) (v := (1000 : Int32)) C dX9_setSafe_21 (by decide) rfl ?_
    obtain ⟨v11, h10, hf⟩ := m_b1_of hf
    refine r_callS (mc := 0) (ms := 0) (q := 27) (st1 := [.int v11, .ref a0]) C (c_X9_isIn hl h10) rfl w_1031 w_1032 w_11 w_1033 hd_X9_isIn rfl rfl rfl ⟨(Nat.le_of_ble_eq_true rfl), (Nat.le_of_ble_eq_true rfl)⟩ (Nat.le_of_ble_eq_true rfl) ⟨(Nat.le_of_ble_eq_true rfl), (Nat.le_of_ble_eq_true rfl)⟩ dX9_setSafe_24 rfl rfl ?_
    obtain ⟨j12, ej12, hf⟩ := m_jp_of hf
    have J12 : ∀ (v13 : Int32), j12 v13 = some (rZ9, SZ9) → m_G x Z S7 4 0 0 46 [(0, .ref a0), (1, .int p1), (2, .int p2), (3, .int p3)] [.int v13, .ref a0] := by
      intro v13 hf
      rw [ej12] at hf
      refine r_iconst (q := 47) (v := (2 : Int32)) C dX9_setSafe_46 (by decide) rfl ?_
      obtain ⟨v16, S15, h14, hf⟩ := m_bw_of hf
      refine r_callV (mc := 0) (ms := 0) (q := 50) (st1 := [.int v16]) C (c_X9_may hl h14) rfl w_1024 w_1025 w_1333 w_11 w_1026 hd_X9_may rfl (by decide) g1 rfl rfl rfl ⟨(Nat.le_of_ble_eq_true rfl), (Nat.le_of_ble_eq_true rfl)⟩ (Nat.le_of_ble_eq_true rfl) ⟨(Nat.le_of_ble_eq_true rfl), (Nat.le_of_ble_eq_true rfl)⟩ dX9_setSafe_47 rfl rfl ?_
      refine r_if_ne (t := 54) (q := 53) C dX9_setSafe_50 (by decide) rfl (fun c17 => ?_) (fun c17 => ?_)
      · replace hf := m_if1 hf c17
        refine r_aload_n (q := 55) C 0 dX9_setSafe_54 rfl rfl ?_
        refine r_iload_n (q := 56) C 1 dX9_setSafe_55 rfl rfl ?_
        refine r_iconst (q := 57) (v := (1 : Int32)) C dX9_setSafe_56 (by decide) rfl ?_
        refine r_iload_n (q := 58) C 2 dX9_setSafe_57 rfl rfl ?_
        obtain ⟨_u, S19, h18, hf⟩ := m_bw_of hf
        refine r_callV (mc := 0) (ms := 0) (q := 61) (st1 := []) C (c_X9_lays hl h18) rfl w_955 w_956 w_1330 w_11 w_957 hd_X9_lays rfl (by decide) g1 rfl rfl rfl ⟨(Nat.le_of_ble_eq_true rfl), (Nat.le_of_ble_eq_true rfl)⟩ (Nat.le_of_ble_eq_true rfl) ⟨(Nat.le_of_ble_eq_true rfl), (Nat.le_of_ble_eq_true rfl)⟩ dX9_setSafe_58 rfl rfl ?_
        refine r_aload_n (q := 62) C 0 dX9_setSafe_61 rfl rfl ?_
        refine r_iload_n (q := 63) C 1 dX9_setSafe_62 rfl rfl ?_
        refine r_iconst (q := 64) (v := (2 : Int32)) C dX9_setSafe_63 (by decide) rfl ?_
        refine r_iload_n (q := 65) C 3 dX9_setSafe_64 rfl rfl ?_
        obtain ⟨_u, S21, h20, hf⟩ := m_bw_of hf
        refine r_callV (mc := 0) (ms := 0) (q := 68) (st1 := []) C (c_X9_lays hl h20) rfl w_955 w_956 w_1330 w_11 w_957 hd_X9_lays rfl (by decide) g1 rfl rfl rfl ⟨(Nat.le_of_ble_eq_true rfl), (Nat.le_of_ble_eq_true rfl)⟩ (Nat.le_of_ble_eq_true rfl) ⟨(Nat.le_of_ble_eq_true rfl), (Nat.le_of_ble_eq_true rfl)⟩ dX9_setSafe_65 rfl rfl ?_
        obtain ⟨rfl, rfl⟩ := m_so2 hf
        exact r_vret C F dX9_setSafe_68
      · replace hf := m_if0 hf (fun z => z c17)
        obtain ⟨rfl, rfl⟩ := m_so2 hf
        exact r_vret C F dX9_setSafe_53
    obtain ⟨j22, ej22, hf⟩ := m_jp_of hf
    have J22 : ∀ (_ : Unit), j22 () = some (rZ9, SZ9) → m_G x Z S7 4 0 0 45 [(0, .ref a0), (1, .int p1), (2, .int p2), (3, .int p3)] [.ref a0] := by
      intro _ hf
      rw [ej22] at hf
      refine r_iconst (q := 46) (v := (0 : Int32)) C dX9_setSafe_45 (by decide) rfl ?_
      exact J12 (0 : Int32) hf
    refine r_if_eq (t := 45) (q := 30) C dX9_setSafe_27 (by decide) rfl (fun c23 => ?_) (fun c23 => ?_)
    · replace hf := m_if1 hf c23
      exact J22 ()  hf
    · replace hf := m_if0 hf c23
      refine r_iload_n (q := 31) C 3 dX9_setSafe_30 rfl rfl ?_
      refine r_iload_n (q := 32) C 2 dX9_setSafe_31 rfl rfl ?_
      refine r_sipush (q := 35) (v := (1000 : Int32)) C dX9_setSafe_32 (by decide) rfl ?_
      obtain ⟨v25, h24, hf⟩ := m_b1_of hf
      refine r_callS (mc := 0) (ms := 0) (q := 38) (st1 := [.int v25, .ref a0]) C (c_X9_isIn hl h24) rfl w_1031 w_1032 w_11 w_1033 hd_X9_isIn rfl rfl rfl ⟨(Nat.le_of_ble_eq_true rfl), (Nat.le_of_ble_eq_true rfl)⟩ (Nat.le_of_ble_eq_true rfl) ⟨(Nat.le_of_ble_eq_true rfl), (Nat.le_of_ble_eq_true rfl)⟩ dX9_setSafe_35 rfl rfl ?_
      refine r_if_eq (t := 45) (q := 41) C dX9_setSafe_38 (by decide) rfl (fun c26 => ?_) (fun c26 => ?_)
      · replace hf := m_if1 hf c26
        exact J22 ()  hf
      · replace hf := m_if0 hf c26
        refine r_iconst (q := 42) (v := (1 : Int32)) C dX9_setSafe_41 (by decide) rfl ?_
        refine r_goto (t := 46) C dX9_setSafe_42 (by decide) ?_
        exact J12 (1 : Int32) hf
def F_X9_swing_54 (Z : m_Z) (a0 : Nat) (p1 : Int32) (S17 : m_S) (j24 : (Int32 → Int32 → Option (Int32 × m_S))) (lp28 : (Int32 × Int32 × Int32) → Option (Int32 × m_S)) (p48 : (Int32 × Int32 × Int32)) : Option (Int32 × m_S) := match p48 with
  | (v25, v26, v27) => (if (24 : Int32) ≤ v27 then j24 v25 v26 else m_b1 (S17.2.2 a0 3) (fun b33 => m_gd (m_ok Z b33 11) (m_gd (m_in (0 : Int32) (Z.2.2 b33)) ((if (S17.1 b33 (0 : Int32).toNatClampNeg) ≤ v27 then j24 v25 v26 else m_b1 (f_X9_recordOf Z S17 a0 p1 v27) (fun v39 => m_jp (fun (v41 : Int32) => (if v39 ≤ v26 then m_lt (v27 + (1 : Int32)) (fun v43 => lp28 (v41, v26, v43)) else m_lt (v27 + (1 : Int32)) (fun v45 => lp28 (v41, v39, v45)))) (fun j40 => (if v25 ≤ v39 then j40 v25 else j40 v39))))))))
def f_X9_swing (Z : m_Z) (S : m_S) (a0 : Nat) (p1 : Int32) : Option (Int32 × m_S) := m_gd (m_ok Z a0 9) (m_lt (m_pI S a0 0 (0 : Int32)) (fun S2 => m_b1 (f_X9_isCase Z S2 a0 p1) (fun v5 => m_bw (f_X9_may Z S2 a0 v5 (1 : Int32)) (fun v8 S7 => (if v8 = 0 then some ((0 : Int32), S7) else m_b1 (S7.2.2 a0 3) (fun b10 => m_gd (m_ok Z b10 11) (m_gd (m_in (0 : Int32) (Z.2.2 b10)) (m_jp (fun (v15 : Int32) => m_bw (f_X9_may Z S7 a0 v15 (2 : Int32)) (fun v18 S17 => (if ¬ v18 = 0 then m_b1 (f_X9_recordOf Z S17 a0 p1 (0 : Int32)) (fun v21 => m_jp (fun (v22 : Int32) (v23 : Int32) => some ((v23 - v22), S17)) (fun j24 => m_fx (F_X9_swing_54 Z a0 p1 S17 j24) 100000 (v21, v21, (1 : Int32)))) else some ((0 : Int32), S17)))) (fun j14 => (if (S7.1 b10 (0 : Int32).toNatClampNeg) ≤ 0 then j14 (0 : Int32) else j14 (1 : Int32)))))))))))
abbrev rm_X9_swing : Room := { frames := 2, cells := 0, slots := 0, locals := 44 }
theorem hd_X9_swing : yX9_swing.cls = RX9 ∧ yX9_swing.cls ≠ "java/lang/invoke/MethodHandle" ∧ yX9_swing.cls ≠ "java/lang/invoke/VarHandle" ∧ (parseMethodDescriptor yX9_swing.desc).map (fun d => d.parameters.length) = some 1 := by decide +kernel
set_option maxHeartbeats 4000000 in
set_option maxRecDepth 100000 in
theorem c_X9_swing {l : Launch} (hl : l.stackTraces = false) {Z : m_Z} {S : m_S} {a0 : Nat} {p1 : Int32} {rZ9 : Int32} {SZ9 : m_S} (hf : f_X9_swing Z S a0 p1 = some (rZ9, SZ9)) : m_Ct l yX9_swing (.code yX9_swing cX9_swing 6 (some .int) :: m_ws) rm_X9_swing (fun f => [.ref a0, .int p1]) Z S (some (.int rZ9)) SZ9 := by
  unfold f_X9_swing at hf
  refine m_ent hl (by decide) (fun _ => Nat.le_of_ble_eq_true rfl) (fun x C F => ?_)
  have C : m_H x l RX9 cX9_swing 6 rm_X9_swing := C
  show m_G x Z S 6 0 0 0 [(0, .ref a0), (1, .int p1)] []
  refine r_aload_n (q := 1) C 0 dX9_swing_0 rfl rfl ?_
  refine r_iconst (q := 2) (v := (0 : Int32)) C dX9_swing_1 (by decide) rfl ?_
  obtain ⟨g1, hf⟩ := m_gd_of hf
  obtain ⟨S2, e3, hf⟩ := m_lt_of hf
  refine pf_X9_61 (q := 5) C dX9_swing_2 g1 e3 rfl ?_
  refine r_aload_n (q := 6) C 0 dX9_swing_5 rfl rfl ?_
  refine r_aload_n (q := 7) C 0 dX9_swing_6 rfl rfl ?_
  refine r_iload_n (q := 8) C 1 dX9_swing_7 rfl rfl ?_
  obtain ⟨v5, h4, hf⟩ := m_b1_of hf
  refine r_callV (mc := 0) (ms := 0) (q := 11) (st1 := [.int v5, .ref a0]) C (c_X9_isCase hl h4) rfl w_1146 w_1147 w_1356 w_11 w_1148 hd_X9_isCase rfl (by decide) g1 rfl rfl rfl ⟨(Nat.le_of_ble_eq_true rfl), (Nat.le_of_ble_eq_true rfl)⟩ (Nat.le_of_ble_eq_true rfl) ⟨(Nat.le_of_ble_eq_true rfl), (Nat.le_of_ble_eq_true rfl)⟩ dX9_swing_8 rfl rfl ?_
  refine r_iconst (q := 12) (v := (1 : Int32)) C dX9_swing_11 (by decide) rfl ?_
  obtain ⟨v8, S7, h6, hf⟩ := m_bw_of hf
  refine r_callV (mc := 0) (ms := 0) (q := 15) (st1 := [.int v8]) C (c_X9_may hl h6) rfl w_1024 w_1025 w_1333 w_11 w_1026 hd_X9_may rfl (by decide) g1 rfl rfl rfl ⟨(Nat.le_of_ble_eq_true rfl), (Nat.le_of_ble_eq_true rfl)⟩ (Nat.le_of_ble_eq_true rfl) ⟨(Nat.le_of_ble_eq_true rfl), (Nat.le_of_ble_eq_true rfl)⟩ dX9_swing_12 rfl rfl ?_
  refine r_if_eq (t := 40) (q := 18) C dX9_swing_15 (by decide) rfl (fun c9 => ?_) (fun c9 => ?_)
  · replace hf := m_if1 hf c9
    refine r_iconst (q := 41) (v := (0 : Int32)) C dX9_swing_40 (by decide) rfl ?_
    obtain ⟨rfl, rfl⟩ := m_so2 hf
    exact r_iret C F dX9_swing_41
  · replace hf := m_if0 hf c9
    refine r_aload_n (q := 19) C 0 dX9_swing_18 rfl rfl ?_
    refine r_aload_n (q := 20) C 0 dX9_swing_19 rfl rfl ?_
    obtain ⟨b10, e11, hf⟩ := m_b1_of hf
    refine gf_X9_16 (q := 23) C dX9_swing_20 g1 e11 rfl ?_
    refine r_iconst (q := 24) (v := (0 : Int32)) C dX9_swing_23 (by decide) rfl ?_
    obtain ⟨g12, hf⟩ := m_gd_of hf
    obtain ⟨g13, hf⟩ := m_gd_of hf
    refine r_iald (q := 25) C dX9_swing_24 ⟨g12, g13⟩ rfl ?_
    obtain ⟨j14, ej14, hf⟩ := m_jp_of hf
    have J14 : ∀ (v15 : Int32), j14 v15 = some (rZ9, SZ9) → m_G x Z S7 6 0 0 33 [(0, .ref a0), (1, .int p1)] [.int v15, .ref a0] := by
      intro v15 hf
      rw [ej14] at hf
      refine r_iconst (q := 34) (v := (2 : Int32)) C dX9_swing_33 (by decide) rfl ?_
      obtain ⟨v18, S17, h16, hf⟩ := m_bw_of hf
      refine r_callV (mc := 0) (ms := 0) (q := 37) (st1 := [.int v18]) C (c_X9_may hl h16) rfl w_1024 w_1025 w_1333 w_11 w_1026 hd_X9_may rfl (by decide) g1 rfl rfl rfl ⟨(Nat.le_of_ble_eq_true rfl), (Nat.le_of_ble_eq_true rfl)⟩ (Nat.le_of_ble_eq_true rfl) ⟨(Nat.le_of_ble_eq_true rfl), (Nat.le_of_ble_eq_true rfl)⟩ dX9_swing_34 rfl rfl ?_
      refine r_if_ne (t := 42) (q := 40) C dX9_swing_37 (by decide) rfl (fun c19 => ?_) (fun c19 => ?_)
      · replace hf := m_if1 hf c19
        refine r_aload_n (q := 43) C 0 dX9_swing_42 rfl rfl ?_
        refine r_iload_n (q := 44) C 1 dX9_swing_43 rfl rfl ?_
        refine r_iconst (q := 45) (v := (0 : Int32)) C dX9_swing_44 (by decide) rfl ?_
        obtain ⟨v21, h20, hf⟩ := m_b1_of hf
        refine r_callV (mc := 0) (ms := 0) (q := 48) (st1 := [.int v21]) C (c_X9_recordOf hl h20) rfl w_1161 w_1162 w_1358 w_11 w_1163 hd_X9_recordOf rfl (by decide) g1 rfl rfl rfl ⟨(Nat.le_of_ble_eq_true rfl), (Nat.le_of_ble_eq_true rfl)⟩ (Nat.le_of_ble_eq_true rfl) ⟨(Nat.le_of_ble_eq_true rfl), (Nat.le_of_ble_eq_true rfl)⟩ dX9_swing_45 rfl rfl ?_
        refine r_istore_n (q := 49) (L' := [(2, .int v21), (0, .ref a0), (1, .int p1)]) C dX9_swing_48 rfl rfl (by decide) rfl ?_
        refine r_iload_n (q := 50) C 0 dX9_swing_49 rfl rfl ?_
        refine r_istore_n (q := 51) (L' := [(3, .int v21), (2, .int v21), (0, .ref a0), (1, .int p1)]) C dX9_swing_50 rfl rfl (by decide) rfl ?_
        refine r_iconst (q := 52) (v := (1 : Int32)) C dX9_swing_51 (by decide) rfl ?_
        refine r_istore (q := 54) (L' := [(4, .int (1 : Int32)), (3, .int v21), (2, .int v21), (0, .ref a0), (1, .int p1)]) C dX9_swing_52 rfl (by decide) rfl ?_
        obtain ⟨j24, ej24, hf⟩ := m_jp_of hf
        have J24 : ∀ (v22 : Int32) (v23 : Int32), j24 v22 v23 = some (rZ9, SZ9) → m_G x Z S17 6 0 0 113 [(2, .int v22), (3, .int v23)] [] := by
          intro v22 v23 hf
          rw [ej24] at hf
          refine r_iload_n (q := 114) C 1 dX9_swing_113 rfl rfl ?_
          refine r_iload_n (q := 115) C 0 dX9_swing_114 rfl rfl ?_
          refine r_isub (q := 116) C dX9_swing_115 rfl ?_
          obtain ⟨rfl, rfl⟩ := m_so2 hf
          exact r_iret C F dX9_swing_116
        have LL31 : ∀ (fu30 : Nat) (v25 : Int32) (v26 : Int32) (v27 : Int32), m_fx (F_X9_swing_54 Z a0 p1 S17 j24) fu30 (v25, v26, v27) = some (rZ9, SZ9) → m_G x Z S17 6 0 0 54 [(0, .ref a0), (1, .int p1), (2, .int v25), (3, .int v26), (4, .int v27)] [] := by
          intro fu30
          induction fu30 with
          | zero => intros; rename_i hf; cases hf
          | succ fu30 ih29 =>
            intro v25 v26 v27 hf
            replace hf : F_X9_swing_54 Z a0 p1 S17 j24 (m_fx (F_X9_swing_54 Z a0 p1 S17 j24) fu30) (v25, v26, v27) = some (rZ9, SZ9) := hf
            unfold F_X9_swing_54 at hf
            dsimp only at hf
            refine r_iload (q := 56) C 4 dX9_swing_54 rfl rfl ?_
            refine r_bipush (q := 58) (v := (24 : Int32)) C dX9_swing_56 (by decide) rfl ?_
            refine r_icmp_ge (t := 113) (q := 61) C dX9_swing_58 (by decide) rfl (fun c32 => ?_) (fun c32 => ?_)
            · replace hf := m_if1 hf c32
              refine r_sub [2, 3] rfl ?_
              exact J24 v25 v26 hf
            · replace hf := m_if0 hf c32
              refine r_iload (q := 63) C 4 dX9_swing_61 rfl rfl ?_
              refine r_aload_n (q := 64) C 0 dX9_swing_63 rfl rfl ?_
              obtain ⟨b33, e34, hf⟩ := m_b1_of hf
              refine gf_X9_16 (q := 67) C dX9_swing_64 g1 e34 rfl ?_
              refine r_iconst (q := 68) (v := (0 : Int32)) C dX9_swing_67 (by decide) rfl ?_
              obtain ⟨g35, hf⟩ := m_gd_of hf
              obtain ⟨g36, hf⟩ := m_gd_of hf
              refine r_iald (q := 69) C dX9_swing_68 ⟨g35, g36⟩ rfl ?_
              refine r_icmp_ge (t := 113) (q := 72) C dX9_swing_69 (by decide) rfl (fun c37 => ?_) (fun c37 => ?_)
              · replace hf := m_if1 hf c37
                refine r_sub [2, 3] rfl ?_
                exact J24 v25 v26 hf
              · replace hf := m_if0 hf c37
                refine r_aload_n (q := 73) C 0 dX9_swing_72 rfl rfl ?_
                refine r_iload_n (q := 74) C 1 dX9_swing_73 rfl rfl ?_
                refine r_iload (q := 76) C 4 dX9_swing_74 rfl rfl ?_
                obtain ⟨v39, h38, hf⟩ := m_b1_of hf
                refine r_callV (mc := 0) (ms := 0) (q := 79) (st1 := [.int v39]) C (c_X9_recordOf hl h38) rfl w_1161 w_1162 w_1358 w_11 w_1163 hd_X9_recordOf rfl (by decide) g1 rfl rfl rfl ⟨(Nat.le_of_ble_eq_true rfl), (Nat.le_of_ble_eq_true rfl)⟩ (Nat.le_of_ble_eq_true rfl) ⟨(Nat.le_of_ble_eq_true rfl), (Nat.le_of_ble_eq_true rfl)⟩ dX9_swing_76 rfl rfl ?_
                refine r_istore (q := 81) (L' := [(5, .int v39), (0, .ref a0), (1, .int p1), (2, .int v25), (3, .int v26), (4, .int v27)]) C dX9_swing_79 rfl (by decide) rfl ?_
                refine r_iload (q := 83) C 0 dX9_swing_81 rfl rfl ?_
                refine r_iload_n (q := 84) C 3 dX9_swing_83 rfl rfl ?_
                obtain ⟨j40, ej40, hf⟩ := m_jp_of hf
                have J40 : ∀ (v41 : Int32), j40 v41 = some (rZ9, SZ9) → m_G x Z S17 6 0 0 93 [(0, .ref a0), (1, .int p1), (3, .int v26), (4, .int v27), (5, .int v39)] [.int v41] := by
                  intro v41 hf
                  rw [ej40] at hf
                  refine r_istore_n (q := 94) (L' := [(2, .int v41), (0, .ref a0), (1, .int p1), (3, .int v26), (4, .int v27), (5, .int v39)]) C dX9_swing_93 rfl rfl (by decide) rfl ?_
                  refine r_iload (q := 96) C 5 dX9_swing_94 rfl rfl ?_
                  refine r_iload_n (q := 97) C 3 dX9_swing_96 rfl rfl ?_
                  refine r_icmp_le (t := 105) (q := 100) C dX9_swing_97 (by decide) rfl (fun c42 => ?_) (fun c42 => ?_)
                  · replace hf := m_if1 hf c42
                    refine r_iload_n (q := 106) C 3 dX9_swing_105 rfl rfl ?_
                    refine r_istore_n (q := 107) (L' := [(3, .int v26), (2, .int v41), (0, .ref a0), (1, .int p1), (4, .int v27), (5, .int v39)]) C dX9_swing_106 rfl rfl (by decide) rfl ?_
                    obtain ⟨v43, e44, hf⟩ := m_lt_of hf
                    refine r_iinc (q := 110) (v := v43) (L' := [(4, .int v43), (3, .int v26), (2, .int v41), (0, .ref a0), (1, .int p1), (5, .int v39)]) C 4 dX9_swing_107 rfl (by rw [e44]; rfl) rfl (by decide) rfl ?_
                    refine r_goto (t := 54) C dX9_swing_110 (by decide) ?_
                    refine r_sub [3, 4, 2, 1, 0] rfl ?_
                    exact ih29 v41 v26 v43 hf
                  · replace hf := m_if0 hf c42
                    refine r_iload (q := 102) C 5 dX9_swing_100 rfl rfl ?_
                    refine r_goto (t := 106) C dX9_swing_102 (by decide) ?_
                    refine r_istore_n (q := 107) (L' := [(3, .int v39), (2, .int v41), (0, .ref a0), (1, .int p1), (4, .int v27), (5, .int v39)]) C dX9_swing_106 rfl rfl (by decide) rfl ?_
                    obtain ⟨v45, e46, hf⟩ := m_lt_of hf
                    refine r_iinc (q := 110) (v := v45) (L' := [(4, .int v45), (3, .int v39), (2, .int v41), (0, .ref a0), (1, .int p1), (5, .int v39)]) C 4 dX9_swing_107 rfl (by rw [e46]; rfl) rfl (by decide) rfl ?_
                    refine r_goto (t := 54) C dX9_swing_110 (by decide) ?_
                    refine r_sub [3, 4, 2, 1, 0] rfl ?_
                    exact ih29 v41 v39 v45 hf
                refine r_icmp_ge (t := 92) (q := 87) C dX9_swing_84 (by decide) rfl (fun c47 => ?_) (fun c47 => ?_)
                · replace hf := m_if1 hf c47
                  refine r_iload_n (q := 93) C 3 dX9_swing_92 rfl rfl ?_
                  refine r_sub [1, 2, 4, 5, 0] rfl ?_
                  exact J40 v25 hf
                · replace hf := m_if0 hf c47
                  refine r_iload (q := 89) C 0 dX9_swing_87 rfl rfl ?_
                  refine r_goto (t := 93) C dX9_swing_89 (by decide) ?_
                  refine r_sub [1, 2, 4, 5, 0] rfl ?_
                  exact J40 v39 hf
        refine r_sub [3, 4, 2, 1, 0] rfl ?_
        exact LL31 100000 v21 v21 (1 : Int32) hf
      · replace hf := m_if0 hf (fun z => z c19)
        refine r_iconst (q := 41) (v := (0 : Int32)) C dX9_swing_40 (by decide) rfl ?_
        obtain ⟨rfl, rfl⟩ := m_so2 hf
        exact r_iret C F dX9_swing_41
    refine r_if_le (t := 32) (q := 28) C dX9_swing_25 (by decide) rfl (fun c49 => ?_) (fun c49 => ?_)
    · replace hf := m_if1 hf c49
      refine r_iconst (q := 33) (v := (0 : Int32)) C dX9_swing_32 (by decide) rfl ?_
      exact J14 (0 : Int32) hf
    · replace hf := m_if0 hf c49
      refine r_iconst (q := 29) (v := (1 : Int32)) C dX9_swing_28 (by decide) rfl ?_
      refine r_goto (t := 33) C dX9_swing_29 (by decide) ?_
      exact J14 (1 : Int32) hf
def f_X9_thrown (Z : m_Z) (S : m_S) (a0 : Nat) : Option (Int32) := m_gd (m_ok Z a0 9) (some (S.1 a0 0))
abbrev rm_X9_thrown : Room := { frames := 0, cells := 0, slots := 0, locals := 0 }
theorem hd_X9_thrown : yX9_thrown.cls = RX9 ∧ yX9_thrown.cls ≠ "java/lang/invoke/MethodHandle" ∧ yX9_thrown.cls ≠ "java/lang/invoke/VarHandle" ∧ (parseMethodDescriptor yX9_thrown.desc).map (fun d => d.parameters.length) = some 0 := by decide +kernel
set_option maxHeartbeats 4000000 in
set_option maxRecDepth 100000 in
theorem c_X9_thrown {l : Launch} (hl : l.stackTraces = false) {Z : m_Z} {S : m_S} {a0 : Nat} {rZ9 : Int32} (hf : f_X9_thrown Z S a0 = some rZ9) : m_Ct l yX9_thrown (.code yX9_thrown cX9_thrown 1 (some .int) :: m_ws) rm_X9_thrown (fun f => [.ref a0]) Z S (some (.int rZ9)) S := by
  unfold f_X9_thrown at hf
  refine m_ent hl (by decide) (fun _ => Nat.le_of_ble_eq_true rfl) (fun x C F => ?_)
  have C : m_H x l RX9 cX9_thrown 1 rm_X9_thrown := C
  show m_G x Z S 1 0 0 0 [(0, .ref a0)] []
  refine r_aload_n (q := 1) C 0 dX9_thrown_0 rfl rfl ?_
  obtain ⟨g1, hf⟩ := m_gd_of hf
  refine gf_X9_61 (q := 4) C dX9_thrown_1 g1 rfl ?_
  obtain rfl := m_so1 hf
  exact r_iret C F dX9_thrown_4
def f_X9_truncate (Z : m_Z) (S : m_S) (a0 : Nat) (p1 : Int32) : Option (Int32 × m_S) := m_gd (m_ok Z a0 9) (m_lt (m_pI S a0 0 (0 : Int32)) (fun S2 => m_b1 (f_X9_isIn Z S2 p1 (0 : Int32) (S2.1 a0 12)) (fun v5 => m_bw (f_X9_may Z S2 a0 v5 (1 : Int32)) (fun v8 S7 => (if ¬ v8 = 0 then m_lt (m_pI S7 a0 12 p1) (fun S10 => some (p1, S10)) else some ((0 : Int32), S7))))))
abbrev rm_X9_truncate : Room := { frames := 1, cells := 0, slots := 0, locals := 22 }
theorem hd_X9_truncate : yX9_truncate.cls = RX9 ∧ yX9_truncate.cls ≠ "java/lang/invoke/MethodHandle" ∧ yX9_truncate.cls ≠ "java/lang/invoke/VarHandle" ∧ (parseMethodDescriptor yX9_truncate.desc).map (fun d => d.parameters.length) = some 1 := by decide +kernel
set_option maxHeartbeats 4000000 in
set_option maxRecDepth 100000 in
theorem c_X9_truncate {l : Launch} (hl : l.stackTraces = false) {Z : m_Z} {S : m_S} {a0 : Nat} {p1 : Int32} {rZ9 : Int32} {SZ9 : m_S} (hf : f_X9_truncate Z S a0 p1 = some (rZ9, SZ9)) : m_Ct l yX9_truncate (.code yX9_truncate cX9_truncate 2 (some .int) :: m_ws) rm_X9_truncate (fun f => [.ref a0, .int p1]) Z S (some (.int rZ9)) SZ9 := by
  unfold f_X9_truncate at hf
  refine m_ent hl (by decide) (fun _ => Nat.le_of_ble_eq_true rfl) (fun x C F => ?_)
  have C : m_H x l RX9 cX9_truncate 2 rm_X9_truncate := C
  show m_G x Z S 2 0 0 0 [(0, .ref a0), (1, .int p1)] []
  refine r_aload_n (q := 1) C 0 dX9_truncate_0 rfl rfl ?_
  refine r_iconst (q := 2) (v := (0 : Int32)) C dX9_truncate_1 (by decide) rfl ?_
  obtain ⟨g1, hf⟩ := m_gd_of hf
  obtain ⟨S2, e3, hf⟩ := m_lt_of hf
  refine pf_X9_61 (q := 5) C dX9_truncate_2 g1 e3 rfl ?_
  refine r_aload_n (q := 6) C 0 dX9_truncate_5 rfl rfl ?_
  refine r_iload_n (q := 7) C 1 dX9_truncate_6 rfl rfl ?_
  refine r_iconst (q := 8) (v := (0 : Int32)) C dX9_truncate_7 (by decide) rfl ?_
  refine r_aload_n (q := 9) C 0 dX9_truncate_8 rfl rfl ?_
  refine gf_X9_87 (q := 12) C dX9_truncate_9 g1 rfl ?_
  obtain ⟨v5, h4, hf⟩ := m_b1_of hf
  refine r_callS (mc := 0) (ms := 0) (q := 15) (st1 := [.int v5, .ref a0]) C (c_X9_isIn hl h4) rfl w_1031 w_1032 w_11 w_1033 hd_X9_isIn rfl rfl rfl ⟨(Nat.le_of_ble_eq_true rfl), (Nat.le_of_ble_eq_true rfl)⟩ (Nat.le_of_ble_eq_true rfl) ⟨(Nat.le_of_ble_eq_true rfl), (Nat.le_of_ble_eq_true rfl)⟩ dX9_truncate_12 rfl rfl ?_
  refine r_iconst (q := 16) (v := (1 : Int32)) C dX9_truncate_15 (by decide) rfl ?_
  obtain ⟨v8, S7, h6, hf⟩ := m_bw_of hf
  refine r_callV (mc := 0) (ms := 0) (q := 19) (st1 := [.int v8]) C (c_X9_may hl h6) rfl w_1024 w_1025 w_1333 w_11 w_1026 hd_X9_may rfl (by decide) g1 rfl rfl rfl ⟨(Nat.le_of_ble_eq_true rfl), (Nat.le_of_ble_eq_true rfl)⟩ (Nat.le_of_ble_eq_true rfl) ⟨(Nat.le_of_ble_eq_true rfl), (Nat.le_of_ble_eq_true rfl)⟩ dX9_truncate_16 rfl rfl ?_
  refine r_if_ne (t := 24) (q := 22) C dX9_truncate_19 (by decide) rfl (fun c9 => ?_) (fun c9 => ?_)
  · replace hf := m_if1 hf c9
    refine r_aload_n (q := 25) C 0 dX9_truncate_24 rfl rfl ?_
    refine r_iload_n (q := 26) C 1 dX9_truncate_25 rfl rfl ?_
    obtain ⟨S10, e11, hf⟩ := m_lt_of hf
    refine pf_X9_87 (q := 29) C dX9_truncate_26 g1 e11 rfl ?_
    refine r_iload_n (q := 30) C 1 dX9_truncate_29 rfl rfl ?_
    obtain ⟨rfl, rfl⟩ := m_so2 hf
    exact r_iret C F dX9_truncate_30
  · replace hf := m_if0 hf (fun z => z c9)
    refine r_iconst (q := 23) (v := (0 : Int32)) C dX9_truncate_22 (by decide) rfl ?_
    obtain ⟨rfl, rfl⟩ := m_so2 hf
    exact r_iret C F dX9_truncate_23
def F_X9_unsafeIn_26 (Z : m_Z) (a0 : Nat) (p1 : Int32) (j17 : (Int32 → m_S → Option (Int32 × m_S))) (lp20 : (Int32 × m_S) → Option (Int32 × m_S)) (p31 : (Int32 × m_S)) : Option (Int32 × m_S) := match p31 with
  | (v18, S19) => (if (2000 : Int32) < v18 then j17 v18 S19 else m_bw (f_X9_hour Z S19 a0 p1 p1) (fun v27 S26 => (if ¬ v27 = 0 then j17 v18 S26 else m_lt (v18 + (1 : Int32)) (fun v29 => lp20 (v29, S26)))))
def f_X9_unsafeIn (Z : m_Z) (S : m_S) (a0 : Nat) (p1 : Int32) : Option (Int32 × m_S) := m_gd (m_ok Z a0 9) (m_lt (m_pI S a0 0 (0 : Int32)) (fun S2 => m_b1 (f_X9_isCase Z S2 a0 p1) (fun v5 => m_bw (f_X9_may Z S2 a0 v5 (1 : Int32)) (fun v8 S7 => (if ¬ v8 = 0 then m_bw (f_X9_setsAside Z S7 a0) (fun _u S11 => m_jp (fun (v12 : Int32) (S13 : m_S) => m_bw (f_X9_bringsBack Z S13 a0) (fun _u S15 => (if v12 ≤ (2000 : Int32) then some (v12, S15) else some ((-1 : Int32), S15)))) (fun j17 => m_fx (F_X9_unsafeIn_26 Z a0 p1 j17) 100000 ((1 : Int32), S11))) else some ((0 : Int32), S7))))))
abbrev rm_X9_unsafeIn : Room := { frames := 5, cells := 0, slots := 0, locals := 122 }
theorem hd_X9_unsafeIn : yX9_unsafeIn.cls = RX9 ∧ yX9_unsafeIn.cls ≠ "java/lang/invoke/MethodHandle" ∧ yX9_unsafeIn.cls ≠ "java/lang/invoke/VarHandle" ∧ (parseMethodDescriptor yX9_unsafeIn.desc).map (fun d => d.parameters.length) = some 1 := by decide +kernel
set_option maxHeartbeats 4000000 in
set_option maxRecDepth 100000 in
theorem c_X9_unsafeIn {l : Launch} (hl : l.stackTraces = false) {Z : m_Z} {S : m_S} {a0 : Nat} {p1 : Int32} {rZ9 : Int32} {SZ9 : m_S} (hf : f_X9_unsafeIn Z S a0 p1 = some (rZ9, SZ9)) : m_Ct l yX9_unsafeIn (.code yX9_unsafeIn cX9_unsafeIn 3 (some .int) :: m_ws) rm_X9_unsafeIn (fun f => [.ref a0, .int p1]) Z S (some (.int rZ9)) SZ9 := by
  unfold f_X9_unsafeIn at hf
  refine m_ent hl (by decide) (fun _ => Nat.le_of_ble_eq_true rfl) (fun x C F => ?_)
  have C : m_H x l RX9 cX9_unsafeIn 3 rm_X9_unsafeIn := C
  show m_G x Z S 3 0 0 0 [(0, .ref a0), (1, .int p1)] []
  refine r_aload_n (q := 1) C 0 dX9_unsafeIn_0 rfl rfl ?_
  refine r_iconst (q := 2) (v := (0 : Int32)) C dX9_unsafeIn_1 (by decide) rfl ?_
  obtain ⟨g1, hf⟩ := m_gd_of hf
  obtain ⟨S2, e3, hf⟩ := m_lt_of hf
  refine pf_X9_61 (q := 5) C dX9_unsafeIn_2 g1 e3 rfl ?_
  refine r_aload_n (q := 6) C 0 dX9_unsafeIn_5 rfl rfl ?_
  refine r_aload_n (q := 7) C 0 dX9_unsafeIn_6 rfl rfl ?_
  refine r_iload_n (q := 8) C 1 dX9_unsafeIn_7 rfl rfl ?_
  obtain ⟨v5, h4, hf⟩ := m_b1_of hf
  refine r_callV (mc := 0) (ms := 0) (q := 11) (st1 := [.int v5, .ref a0]) C (c_X9_isCase hl h4) rfl w_1146 w_1147 w_1356 w_11 w_1148 hd_X9_isCase rfl (by decide) g1 rfl rfl rfl ⟨(Nat.le_of_ble_eq_true rfl), (Nat.le_of_ble_eq_true rfl)⟩ (Nat.le_of_ble_eq_true rfl) ⟨(Nat.le_of_ble_eq_true rfl), (Nat.le_of_ble_eq_true rfl)⟩ dX9_unsafeIn_8 rfl rfl ?_
  refine r_iconst (q := 12) (v := (1 : Int32)) C dX9_unsafeIn_11 (by decide) rfl ?_
  obtain ⟨v8, S7, h6, hf⟩ := m_bw_of hf
  refine r_callV (mc := 0) (ms := 0) (q := 15) (st1 := [.int v8]) C (c_X9_may hl h6) rfl w_1024 w_1025 w_1333 w_11 w_1026 hd_X9_may rfl (by decide) g1 rfl rfl rfl ⟨(Nat.le_of_ble_eq_true rfl), (Nat.le_of_ble_eq_true rfl)⟩ (Nat.le_of_ble_eq_true rfl) ⟨(Nat.le_of_ble_eq_true rfl), (Nat.le_of_ble_eq_true rfl)⟩ dX9_unsafeIn_12 rfl rfl ?_
  refine r_if_ne (t := 20) (q := 18) C dX9_unsafeIn_15 (by decide) rfl (fun c9 => ?_) (fun c9 => ?_)
  · replace hf := m_if1 hf c9
    refine r_aload_n (q := 21) C 0 dX9_unsafeIn_20 rfl rfl ?_
    obtain ⟨_u, S11, h10, hf⟩ := m_bw_of hf
    refine r_callV (mc := 0) (ms := 0) (q := 24) (st1 := []) C (c_X9_setsAside hl h10) rfl w_1258 w_1259 w_1371 w_11 w_1260 hd_X9_setsAside rfl (by decide) g1 rfl rfl rfl ⟨(Nat.le_of_ble_eq_true rfl), (Nat.le_of_ble_eq_true rfl)⟩ (Nat.le_of_ble_eq_true rfl) ⟨(Nat.le_of_ble_eq_true rfl), (Nat.le_of_ble_eq_true rfl)⟩ dX9_unsafeIn_21 rfl rfl ?_
    refine r_iconst (q := 25) (v := (1 : Int32)) C dX9_unsafeIn_24 (by decide) rfl ?_
    refine r_istore_n (q := 26) (L' := [(2, .int (1 : Int32)), (0, .ref a0), (1, .int p1)]) C dX9_unsafeIn_25 rfl rfl (by decide) rfl ?_
    obtain ⟨j17, ej17, hf⟩ := m_jp_of hf
    have J17 : ∀ (v12 : Int32) (S13 : m_S), j17 v12 S13 = some (rZ9, SZ9) → m_G x Z S13 3 0 0 48 [(0, .ref a0), (2, .int v12)] [] := by
      intro v12 S13 hf
      rw [ej17] at hf
      refine r_aload_n (q := 49) C 0 dX9_unsafeIn_48 rfl rfl ?_
      obtain ⟨_u, S15, h14, hf⟩ := m_bw_of hf
      refine r_callV (mc := 0) (ms := 0) (q := 52) (st1 := []) C (c_X9_bringsBack hl h14) rfl w_1261 w_1262 w_1372 w_11 w_1263 hd_X9_bringsBack rfl (by decide) g1 rfl rfl rfl ⟨(Nat.le_of_ble_eq_true rfl), (Nat.le_of_ble_eq_true rfl)⟩ (Nat.le_of_ble_eq_true rfl) ⟨(Nat.le_of_ble_eq_true rfl), (Nat.le_of_ble_eq_true rfl)⟩ dX9_unsafeIn_49 rfl rfl ?_
      refine r_iload_n (q := 53) C 1 dX9_unsafeIn_52 rfl rfl ?_
      refine r_sipush (q := 56) (v := (2000 : Int32)) C dX9_unsafeIn_53 (by decide) rfl ?_
      refine r_icmp_le (t := 63) (q := 59) C dX9_unsafeIn_56 (by decide) rfl (fun c16 => ?_) (fun c16 => ?_)
      · replace hf := m_if1 hf c16
        refine r_iload_n (q := 64) C 1 dX9_unsafeIn_63 rfl rfl ?_
        obtain ⟨rfl, rfl⟩ := m_so2 hf
        exact r_iret C F dX9_unsafeIn_64
      · replace hf := m_if0 hf c16
        refine r_iconst (q := 60) (v := (-1 : Int32)) C dX9_unsafeIn_59 (by decide) rfl ?_
        refine r_goto (t := 64) C dX9_unsafeIn_60 (by decide) ?_
        obtain ⟨rfl, rfl⟩ := m_so2 hf
        exact r_iret C F dX9_unsafeIn_64
    have LL23 : ∀ (fu22 : Nat) (v18 : Int32) (S19 : m_S), m_fx (F_X9_unsafeIn_26 Z a0 p1 j17) fu22 (v18, S19) = some (rZ9, SZ9) → m_G x Z S19 3 0 0 26 [(0, .ref a0), (1, .int p1), (2, .int v18)] [] := by
      intro fu22
      induction fu22 with
      | zero => intros; rename_i hf; cases hf
      | succ fu22 ih21 =>
        intro v18 S19 hf
        replace hf : F_X9_unsafeIn_26 Z a0 p1 j17 (m_fx (F_X9_unsafeIn_26 Z a0 p1 j17) fu22) (v18, S19) = some (rZ9, SZ9) := hf
        unfold F_X9_unsafeIn_26 at hf
        dsimp only at hf
        refine r_iload_n (q := 27) C 2 dX9_unsafeIn_26 rfl rfl ?_
        refine r_sipush (q := 30) (v := (2000 : Int32)) C dX9_unsafeIn_27 (by decide) rfl ?_
        refine r_icmp_gt (t := 48) (q := 33) C dX9_unsafeIn_30 (by decide) rfl (fun c24 => ?_) (fun c24 => ?_)
        · replace hf := m_if1 hf c24
          refine r_sub [0, 2] rfl ?_
          exact J17 v18 S19 hf
        · replace hf := m_if0 hf c24
          refine r_aload_n (q := 34) C 0 dX9_unsafeIn_33 rfl rfl ?_
          refine r_iload_n (q := 35) C 1 dX9_unsafeIn_34 rfl rfl ?_
          refine r_iload_n (q := 36) C 1 dX9_unsafeIn_35 rfl rfl ?_
          obtain ⟨v27, S26, h25, hf⟩ := m_bw_of hf
          refine r_callV (mc := 0) (ms := 0) (q := 39) (st1 := [.int v27]) C (c_X9_hour hl h25) rfl w_1244 w_1245 w_1368 w_11 w_1246 hd_X9_hour rfl (by decide) g1 rfl rfl rfl ⟨(Nat.le_of_ble_eq_true rfl), (Nat.le_of_ble_eq_true rfl)⟩ (Nat.le_of_ble_eq_true rfl) ⟨(Nat.le_of_ble_eq_true rfl), (Nat.le_of_ble_eq_true rfl)⟩ dX9_unsafeIn_36 rfl rfl ?_
          refine r_if_ne (t := 48) (q := 42) C dX9_unsafeIn_39 (by decide) rfl (fun c28 => ?_) (fun c28 => ?_)
          · replace hf := m_if1 hf c28
            refine r_sub [0, 2] rfl ?_
            exact J17 v18 S26 hf
          · replace hf := m_if0 hf (fun z => z c28)
            obtain ⟨v29, e30, hf⟩ := m_lt_of hf
            refine r_iinc (q := 45) (v := v29) (L' := [(2, .int v29), (0, .ref a0), (1, .int p1)]) C 2 dX9_unsafeIn_42 rfl (by rw [e30]; rfl) rfl (by decide) rfl ?_
            refine r_goto (t := 26) C dX9_unsafeIn_45 (by decide) ?_
            refine r_sub [1, 2, 0] rfl ?_
            exact ih21 v29 S26 hf
    refine r_sub [1, 2, 0] rfl ?_
    exact LL23 100000 (1 : Int32) S11 hf
  · replace hf := m_if0 hf (fun z => z c9)
    refine r_iconst (q := 19) (v := (0 : Int32)) C dX9_unsafeIn_18 (by decide) rfl ?_
    obtain ⟨rfl, rfl⟩ := m_so2 hf
    exact r_iret C F dX9_unsafeIn_19
def f_X9_visitors_ (Z : m_Z) (S : m_S) (a0 : Nat) (p1 : Int32) : Option (Int32 × m_S) := m_gd (m_ok Z a0 9) (m_lt (m_pI S a0 0 (0 : Int32)) (fun S2 => m_b1 (f_X9_isIn Z S2 p1 (0 : Int32) (23 : Int32)) (fun v5 => m_bw (f_X9_may Z S2 a0 v5 (1 : Int32)) (fun v8 S7 => (if v8 = 0 then some ((0 : Int32), S7) else m_b1 (S7.2.2 a0 1) (fun b10 => m_gd (m_ok Z b10 11) (m_lt ((30 : Int32) + p1) (fun v13 => m_gd (m_in v13 (Z.2.2 b10)) (some ((S7.1 b10 v13.toNatClampNeg), S7))))))))))
abbrev rm_X9_visitors_ : Room := { frames := 1, cells := 0, slots := 0, locals := 22 }
theorem hd_X9_visitors_ : yX9_visitors_.cls = RX9 ∧ yX9_visitors_.cls ≠ "java/lang/invoke/MethodHandle" ∧ yX9_visitors_.cls ≠ "java/lang/invoke/VarHandle" ∧ (parseMethodDescriptor yX9_visitors_.desc).map (fun d => d.parameters.length) = some 1 := by decide +kernel
set_option maxHeartbeats 4000000 in
set_option maxRecDepth 100000 in
theorem c_X9_visitors_ {l : Launch} (hl : l.stackTraces = false) {Z : m_Z} {S : m_S} {a0 : Nat} {p1 : Int32} {rZ9 : Int32} {SZ9 : m_S} (hf : f_X9_visitors_ Z S a0 p1 = some (rZ9, SZ9)) : m_Ct l yX9_visitors_ (.code yX9_visitors_ cX9_visitors_ 2 (some .int) :: m_ws) rm_X9_visitors_ (fun f => [.ref a0, .int p1]) Z S (some (.int rZ9)) SZ9 := by
  unfold f_X9_visitors_ at hf
  refine m_ent hl (by decide) (fun _ => Nat.le_of_ble_eq_true rfl) (fun x C F => ?_)
  have C : m_H x l RX9 cX9_visitors_ 2 rm_X9_visitors_ := C
  show m_G x Z S 2 0 0 0 [(0, .ref a0), (1, .int p1)] []
  refine r_aload_n (q := 1) C 0 dX9_visitors__0 rfl rfl ?_
  refine r_iconst (q := 2) (v := (0 : Int32)) C dX9_visitors__1 (by decide) rfl ?_
  obtain ⟨g1, hf⟩ := m_gd_of hf
  obtain ⟨S2, e3, hf⟩ := m_lt_of hf
  refine pf_X9_61 (q := 5) C dX9_visitors__2 g1 e3 rfl ?_
  refine r_aload_n (q := 6) C 0 dX9_visitors__5 rfl rfl ?_
  refine r_iload_n (q := 7) C 1 dX9_visitors__6 rfl rfl ?_
  refine r_iconst (q := 8) (v := (0 : Int32)) C dX9_visitors__7 (by decide) rfl ?_
  refine r_bipush (q := 10) (v := (23 : Int32)) C dX9_visitors__8 (by decide) rfl ?_
  obtain ⟨v5, h4, hf⟩ := m_b1_of hf
  refine r_callS (mc := 0) (ms := 0) (q := 13) (st1 := [.int v5, .ref a0]) C (c_X9_isIn hl h4) rfl w_1031 w_1032 w_11 w_1033 hd_X9_isIn rfl rfl rfl ⟨(Nat.le_of_ble_eq_true rfl), (Nat.le_of_ble_eq_true rfl)⟩ (Nat.le_of_ble_eq_true rfl) ⟨(Nat.le_of_ble_eq_true rfl), (Nat.le_of_ble_eq_true rfl)⟩ dX9_visitors__10 rfl rfl ?_
  refine r_iconst (q := 14) (v := (1 : Int32)) C dX9_visitors__13 (by decide) rfl ?_
  obtain ⟨v8, S7, h6, hf⟩ := m_bw_of hf
  refine r_callV (mc := 0) (ms := 0) (q := 17) (st1 := [.int v8]) C (c_X9_may hl h6) rfl w_1024 w_1025 w_1333 w_11 w_1026 hd_X9_may rfl (by decide) g1 rfl rfl rfl ⟨(Nat.le_of_ble_eq_true rfl), (Nat.le_of_ble_eq_true rfl)⟩ (Nat.le_of_ble_eq_true rfl) ⟨(Nat.le_of_ble_eq_true rfl), (Nat.le_of_ble_eq_true rfl)⟩ dX9_visitors__14 rfl rfl ?_
  refine r_if_eq (t := 32) (q := 20) C dX9_visitors__17 (by decide) rfl (fun c9 => ?_) (fun c9 => ?_)
  · replace hf := m_if1 hf c9
    refine r_iconst (q := 33) (v := (0 : Int32)) C dX9_visitors__32 (by decide) rfl ?_
    obtain ⟨rfl, rfl⟩ := m_so2 hf
    exact r_iret C F dX9_visitors__33
  · replace hf := m_if0 hf c9
    refine r_aload_n (q := 21) C 0 dX9_visitors__20 rfl rfl ?_
    obtain ⟨b10, e11, hf⟩ := m_b1_of hf
    refine gf_X9_7 (q := 24) C dX9_visitors__21 g1 e11 rfl ?_
    refine r_bipush (q := 26) (v := (30 : Int32)) C dX9_visitors__24 (by decide) rfl ?_
    refine r_iload_n (q := 27) C 1 dX9_visitors__26 rfl rfl ?_
    refine r_iadd (q := 28) C dX9_visitors__27 rfl ?_
    obtain ⟨g12, hf⟩ := m_gd_of hf
    obtain ⟨v13, e14, hf⟩ := m_lt_of hf
    refine r_nm e14 ?_
    obtain ⟨g15, hf⟩ := m_gd_of hf
    refine r_iald (q := 29) C dX9_visitors__28 ⟨g12, g15⟩ rfl ?_
    refine r_goto (t := 33) C dX9_visitors__29 (by decide) ?_
    obtain ⟨rfl, rfl⟩ := m_so2 hf
    exact r_iret C F dX9_visitors__33
