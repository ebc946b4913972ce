def f_X0_begin (Z : m_Z) (S : m_S) (a0 : Nat) (p1 : Int32) (p2 : Nat) (p3 : Int32) (p4 : Int32) : Option (Unit × m_S) := m_gd (m_ok Z a0 0) (m_lt (m_pI S a0 0 p1) (fun S2 => m_lt (m_pR S2 a0 1 (some p2)) (fun S4 => m_lt (m_pI S4 a0 2 p3) (fun S6 => m_lt (m_pI S6 a0 3 p4) (fun S8 => some ((), S8))))))
abbrev rm_X0_begin : Room := { frames := 0, cells := 0, slots := 0, locals := 0 }
theorem hd_X0_begin : yX0_begin.cls = RX0 ∧ yX0_begin.cls ≠ "java/lang/invoke/MethodHandle" ∧ yX0_begin.cls ≠ "java/lang/invoke/VarHandle" ∧ (parseMethodDescriptor yX0_begin.desc).map (fun d => d.parameters.length) = some 4 := by decide +kernel
set_option maxHeartbeats 4000000 in
set_option maxRecDepth 100000 in
theorem c_X0_begin {l : Launch} (hl : l.stackTraces = false) {Z : m_Z} {S : m_S} {a0 : Nat} {p1 : Int32} {p2 : Nat} {p3 : Int32} {p4 : Int32} {rZ9 : Unit} {SZ9 : m_S} (hf : f_X0_begin Z S a0 p1 p2 p3 p4 = some (rZ9, SZ9)) : m_Ct l yX0_begin (.code yX0_begin cX0_begin 5 none :: m_ws) rm_X0_begin (fun f => [.ref a0, .int p1, .ref p2, .int p3, .int p4]) Z S (none) SZ9 := by
  unfold f_X0_begin at hf
  refine m_ent hl (by decide) (fun _ => Nat.le_of_ble_eq_true rfl) (fun x C F => ?_)
  have C : m_H x l RX0 cX0_begin 5 rm_X0_begin := C
  show m_G x Z S 5 0 0 0 [(0, .ref a0), (1, .int p1), (2, .ref p2), (3, .int p3), (4, .int p4)] []
  refine r_aload_n (q := 1) C 0 dX0_begin_0 rfl rfl ?_
  refine r_iload_n (q := 2) C 1 dX0_begin_1 rfl rfl ?_
  obtain ⟨g1, hf⟩ := m_gd_of hf
  obtain ⟨S2, e3, hf⟩ := m_lt_of hf
  refine pf_X0_9 (q := 5) C dX0_begin_2 g1 e3 rfl ?_
  refine r_aload_n (q := 6) C 0 dX0_begin_5 rfl rfl ?_
  refine r_aload_n (q := 7) C 2 dX0_begin_6 rfl rfl ?_
  obtain ⟨S4, e5, hf⟩ := m_lt_of hf
  refine pf_X0_15 (q := 10) C dX0_begin_7 g1 e5 rfl ?_
  refine r_aload_n (q := 11) C 0 dX0_begin_10 rfl rfl ?_
  refine r_iload_n (q := 12) C 3 dX0_begin_11 rfl rfl ?_
  obtain ⟨S6, e7, hf⟩ := m_lt_of hf
  refine pf_X0_19 (q := 15) C dX0_begin_12 g1 e7 rfl ?_
  refine r_aload_n (q := 16) C 0 dX0_begin_15 rfl rfl ?_
  refine r_iload (q := 18) C 4 dX0_begin_16 rfl rfl ?_
  obtain ⟨S8, e9, hf⟩ := m_lt_of hf
  refine pf_X0_22 (q := 21) C dX0_begin_18 g1 e9 rfl ?_
  obtain ⟨rfl, rfl⟩ := m_so2 hf
  exact r_vret C F dX0_begin_21
def f_X0_copyFrom (Z : m_Z) (S : m_S) (a0 : Nat) (p1 : Nat) : Option (Unit × m_S) := m_gd (m_ok Z p1 0) (m_gd (m_ok Z a0 0) (m_lt (m_pI S a0 0 (S.1 p1 0)) (fun S3 => m_b1 (S3.2.2 p1 1) (fun b5 => m_lt (m_pR S3 a0 1 (some b5)) (fun S7 => m_lt (m_pI S7 a0 2 (S7.1 p1 2)) (fun S9 => m_lt (m_pI S9 a0 3 (S9.1 p1 3)) (fun S11 => some ((), S11))))))))
abbrev rm_X0_copyFrom : Room := { frames := 0, cells := 0, slots := 0, locals := 0 }
theorem hd_X0_copyFrom : yX0_copyFrom.cls = RX0 ∧ yX0_copyFrom.cls ≠ "java/lang/invoke/MethodHandle" ∧ yX0_copyFrom.cls ≠ "java/lang/invoke/VarHandle" ∧ (parseMethodDescriptor yX0_copyFrom.desc).map (fun d => d.parameters.length) = some 1 := by decide +kernel
set_option maxHeartbeats 4000000 in
set_option maxRecDepth 100000 in
theorem c_X0_copyFrom {l : Launch} (hl : l.stackTraces = false) {Z : m_Z} {S : m_S} {a0 : Nat} {p1 : Nat} {rZ9 : Unit} {SZ9 : m_S} (hf : f_X0_copyFrom Z S a0 p1 = some (rZ9, SZ9)) : m_Ct l yX0_copyFrom (.code yX0_copyFrom cX0_copyFrom 2 none :: m_ws) rm_X0_copyFrom (fun f => [.ref a0, .ref p1]) Z S (none) SZ9 := by
  unfold f_X0_copyFrom at hf
  refine m_ent hl (by decide) (fun _ => Nat.le_of_ble_eq_true rfl) (fun x C F => ?_)
  have C : m_H x l RX0 cX0_copyFrom 2 rm_X0_copyFrom := C
  show m_G x Z S 2 0 0 0 [(0, .ref a0), (1, .ref p1)] []
  refine r_aload_n (q := 1) C 0 dX0_copyFrom_0 rfl rfl ?_
  refine r_aload_n (q := 2) C 1 dX0_copyFrom_1 rfl rfl ?_
  obtain ⟨g1, hf⟩ := m_gd_of hf
  refine gf_X0_9 (q := 5) C dX0_copyFrom_2 g1 rfl ?_
  obtain ⟨g2, hf⟩ := m_gd_of hf
  obtain ⟨S3, e4, hf⟩ := m_lt_of hf
  refine pf_X0_9 (q := 8) C dX0_copyFrom_5 g2 e4 rfl ?_
  refine r_aload_n (q := 9) C 0 dX0_copyFrom_8 rfl rfl ?_
  refine r_aload_n (q := 10) C 1 dX0_copyFrom_9 rfl rfl ?_
  obtain ⟨b5, e6, hf⟩ := m_b1_of hf
  refine gf_X0_15 (q := 13) C dX0_copyFrom_10 g1 e6 rfl ?_
  obtain ⟨S7, e8, hf⟩ := m_lt_of hf
  refine pf_X0_15 (q := 16) C dX0_copyFrom_13 g2 e8 rfl ?_
  refine r_aload_n (q := 17) C 0 dX0_copyFrom_16 rfl rfl ?_
  refine r_aload_n (q := 18) C 1 dX0_copyFrom_17 rfl rfl ?_
  refine gf_X0_19 (q := 21) C dX0_copyFrom_18 g1 rfl ?_
  obtain ⟨S9, e10, hf⟩ := m_lt_of hf
  refine pf_X0_19 (q := 24) C dX0_copyFrom_21 g2 e10 rfl ?_
  refine r_aload_n (q := 25) C 0 dX0_copyFrom_24 rfl rfl ?_
  refine r_aload_n (q := 26) C 1 dX0_copyFrom_25 rfl rfl ?_
  refine gf_X0_22 (q := 29) C dX0_copyFrom_26 g1 rfl ?_
  obtain ⟨S11, e12, hf⟩ := m_lt_of hf
  refine pf_X0_22 (q := 32) C dX0_copyFrom_29 g2 e12 rfl ?_
  obtain ⟨rfl, rfl⟩ := m_so2 hf
  exact r_vret C F dX0_copyFrom_32
def f_X0_kindNumber (Z : m_Z) (S : m_S) (a0 : Nat) : Option (Int32) := m_gd (m_ok Z a0 0) (m_b1 (S.2.2 a0 1) (fun b2 => m_gd (m_ok Z b2 1) (some (S.1 b2 0))))
abbrev rm_X0_kindNumber : Room := { frames := 0, cells := 0, slots := 0, locals := 0 }
theorem hd_X0_kindNumber : yX0_kindNumber.cls = RX0 ∧ yX0_kindNumber.cls ≠ "java/lang/invoke/MethodHandle" ∧ yX0_kindNumber.cls ≠ "java/lang/invoke/VarHandle" ∧ (parseMethodDescriptor yX0_kindNumber.desc).map (fun d => d.parameters.length) = some 0 := by decide +kernel
set_option maxHeartbeats 4000000 in
set_option maxRecDepth 100000 in
theorem c_X0_kindNumber {l : Launch} (hl : l.stackTraces = false) {Z : m_Z} {S : m_S} {a0 : Nat} {rZ9 : Int32} (hf : f_X0_kindNumber Z S a0 = some rZ9) : m_Ct l yX0_kindNumber (.code yX0_kindNumber cX0_kindNumber 1 (some .int) :: m_ws) rm_X0_kindNumber (fun f => [.ref a0]) Z S (some (.int rZ9)) S := by
  unfold f_X0_kindNumber at hf
  refine m_ent hl (by decide) (fun _ => Nat.le_of_ble_eq_true rfl) (fun x C F => ?_)
  have C : m_H x l RX0 cX0_kindNumber 1 rm_X0_kindNumber := C
  show m_G x Z S 1 0 0 0 [(0, .ref a0)] []
  refine r_aload_n (q := 1) C 0 dX0_kindNumber_0 rfl rfl ?_
  obtain ⟨g1, hf⟩ := m_gd_of hf
  obtain ⟨b2, e3, hf⟩ := m_b1_of hf
  refine gf_X0_15 (q := 4) C dX0_kindNumber_1 g1 e3 rfl ?_
  refine r_nonnull (t := 11) C dX0_kindNumber_4 (by decide) ?_
  refine r_aload_n (q := 12) C 0 dX0_kindNumber_11 rfl rfl ?_
  refine gf_X0_15 (q := 15) C dX0_kindNumber_12 g1 e3 rfl ?_
  obtain ⟨g4, hf⟩ := m_gd_of hf
  refine gf_X0_29 (q := 18) C dX0_kindNumber_15 g4 rfl ?_
  obtain rfl := m_so1 hf
  exact r_iret C F dX0_kindNumber_18
def f_X8_onLine (Z : m_Z) (S : m_S) (p0 : Int32) (p1 : Int32) (p2 : Int32) (p3 : Int32) : Option (Int32) := (if (1 : Int32) ≤ p3 then m_gd (¬ p3 = 0) (some (p0 + (((p1 - p0) * p2) / p3))) else some p0)
abbrev rm_X8_onLine : Room := { frames := 0, cells := 0, slots := 0, locals := 0 }
theorem hd_X8_onLine : yX8_onLine.cls ≠ "java/lang/invoke/MethodHandle" ∧ yX8_onLine.cls ≠ "java/lang/invoke/VarHandle" ∧ (parseMethodDescriptor yX8_onLine.desc).map (fun d => d.parameters.length) = some 4 := by decide +kernel
set_option maxHeartbeats 4000000 in
set_option maxRecDepth 100000 in
theorem c_X8_onLine {l : Launch} (hl : l.stackTraces = false) {Z : m_Z} {S : m_S} {p0 : Int32} {p1 : Int32} {p2 : Int32} {p3 : Int32} {rZ9 : Int32} (hf : f_X8_onLine Z S p0 p1 p2 p3 = some rZ9) : m_Ct l yX8_onLine (.code yX8_onLine cX8_onLine 4 (some .int) :: m_ws) rm_X8_onLine (fun f => [.int p0, .int p1, .int p2, .int p3]) Z S (some (.int rZ9)) S := by
  unfold f_X8_onLine at hf
  refine m_ent hl (by decide) (fun _ => Nat.le_of_ble_eq_true rfl) (fun x C F => ?_)
  have C : m_H x l RX8 cX8_onLine 4 rm_X8_onLine := C
  show m_G x Z S 4 0 0 0 [(0, .int p0), (1, .int p1), (2, .int p2), (3, .int p3)] []
  refine r_iload_n (q := 1) C 3 dX8_onLine_0 rfl rfl ?_
  refine r_iconst (q := 2) (v := (1 : Int32)) C dX8_onLine_1 (by decide) rfl ?_
  refine r_icmp_ge (t := 9) (q := 5) C dX8_onLine_2 (by decide) rfl (fun c1 => ?_) (fun c1 => ?_)
  · replace hf := m_if1 hf c1
    refine r_iload_n (q := 10) C 0 dX8_onLine_9 rfl rfl ?_
    refine r_iload_n (q := 11) C 1 dX8_onLine_10 rfl rfl ?_
    refine r_iload_n (q := 12) C 0 dX8_onLine_11 rfl rfl ?_
    refine r_isub (q := 13) C dX8_onLine_12 rfl ?_
    refine r_iload_n (q := 14) C 2 dX8_onLine_13 rfl rfl ?_
    refine r_imul (q := 15) C dX8_onLine_14 rfl ?_
    refine r_iload_n (q := 16) C 3 dX8_onLine_15 rfl rfl ?_
    obtain ⟨g2, hf⟩ := m_gd_of hf
    refine r_idiv (q := 17) C dX8_onLine_16 g2 rfl ?_
    refine r_iadd (q := 18) C dX8_onLine_17 rfl ?_
    obtain rfl := m_so1 hf
    exact r_iret C F dX8_onLine_18
  · replace hf := m_if0 hf c1
    refine r_iload_n (q := 6) C 0 dX8_onLine_5 rfl rfl ?_
    refine r_goto (t := 18) C dX8_onLine_6 (by decide) ?_
    obtain rfl := m_so1 hf
    exact r_iret C F dX8_onLine_18
def f_X1_lastContent (Z : m_Z) (S : m_S) (a0 : Nat) : Option (Int32) := m_gd (m_ok Z a0 1) (m_lt ((S.1 a0 2) - (1 : Int32)) (fun v2 => (if v2 < 0 then some (0 : Int32) else (if v2 < (6 : Int32) then m_b1 (S.2.2 a0 4) (fun b6 => m_gd (m_ok Z b6 11) (m_gd (m_in v2 (Z.2.2 b6)) (some (S.1 b6 v2.toNatClampNeg)))) else some (0 : Int32)))))
abbrev rm_X1_lastContent : Room := { frames := 0, cells := 0, slots := 0, locals := 0 }
theorem hd_X1_lastContent : yX1_lastContent.cls = RX1 ∧ yX1_lastContent.cls ≠ "java/lang/invoke/MethodHandle" ∧ yX1_lastContent.cls ≠ "java/lang/invoke/VarHandle" ∧ (parseMethodDescriptor yX1_lastContent.desc).map (fun d => d.parameters.length) = some 0 := by decide +kernel
set_option maxHeartbeats 4000000 in
set_option maxRecDepth 100000 in
theorem c_X1_lastContent {l : Launch} (hl : l.stackTraces = false) {Z : m_Z} {S : m_S} {a0 : Nat} {rZ9 : Int32} (hf : f_X1_lastContent Z S a0 = some rZ9) : m_Ct l yX1_lastContent (.code yX1_lastContent cX1_lastContent 2 (some .int) :: m_ws) rm_X1_lastContent (fun f => [.ref a0]) Z S (some (.int rZ9)) S := by
  unfold f_X1_lastContent at hf
  refine m_ent hl (by decide) (fun _ => Nat.le_of_ble_eq_true rfl) (fun x C F => ?_)
  have C : m_H x l RX1 cX1_lastContent 2 rm_X1_lastContent := C
  show m_G x Z S 2 0 0 0 [(0, .ref a0)] []
  refine r_aload_n (q := 1) C 0 dX1_lastContent_0 rfl rfl ?_
  obtain ⟨g1, hf⟩ := m_gd_of hf
  refine gf_X1_18 (q := 4) C dX1_lastContent_1 g1 rfl ?_
  refine r_iconst (q := 5) (v := (1 : Int32)) C dX1_lastContent_4 (by decide) rfl ?_
  refine r_isub (q := 6) C dX1_lastContent_5 rfl ?_
  obtain ⟨v2, e3, hf⟩ := m_lt_of hf
  refine r_nm e3 ?_
  refine r_istore_n (q := 7) (L' := [(1, .int v2), (0, .ref a0)]) C dX1_lastContent_6 rfl rfl (by decide) rfl ?_
  refine r_iload_n (q := 8) C 0 dX1_lastContent_7 rfl rfl ?_
  refine r_if_lt (t := 17) (q := 11) C dX1_lastContent_8 (by decide) rfl (fun c4 => ?_) (fun c4 => ?_)
  · replace hf := m_if1 hf c4
    refine r_iconst (q := 18) (v := (0 : Int32)) C dX1_lastContent_17 (by decide) rfl ?_
    refine r_goto (t := 27) C dX1_lastContent_18 (by decide) ?_
    obtain rfl := m_so1 hf
    exact r_iret C F dX1_lastContent_27
  · replace hf := m_if0 hf c4
    refine r_iload_n (q := 12) C 0 dX1_lastContent_11 rfl rfl ?_
    refine r_bipush (q := 14) (v := (6 : Int32)) C dX1_lastContent_12 (by decide) rfl ?_
    refine r_icmp_lt (t := 21) (q := 17) C dX1_lastContent_14 (by decide) rfl (fun c5 => ?_) (fun c5 => ?_)
    · replace hf := m_if1 hf c5
      refine r_aload_n (q := 22) C 1 dX1_lastContent_21 rfl rfl ?_
      obtain ⟨b6, e7, hf⟩ := m_b1_of hf
      refine gf_X1_25 (q := 25) C dX1_lastContent_22 g1 e7 rfl ?_
      refine r_iload_n (q := 26) C 0 dX1_lastContent_25 rfl rfl ?_
      obtain ⟨g8, hf⟩ := m_gd_of hf
      obtain ⟨g9, hf⟩ := m_gd_of hf
      refine r_iald (q := 27) C dX1_lastContent_26 ⟨g8, g9⟩ rfl ?_
      obtain rfl := m_so1 hf
      exact r_iret C F dX1_lastContent_27
    · replace hf := m_if0 hf c5
      refine r_iconst (q := 18) (v := (0 : Int32)) C dX1_lastContent_17 (by decide) rfl ?_
      refine r_goto (t := 27) C dX1_lastContent_18 (by decide) ?_
      obtain rfl := m_so1 hf
      exact r_iret C F dX1_lastContent_27
def F_X1_contentAt_19 (Z : m_Z) (S : m_S) (a0 : Nat) (p1 : Int32) (j9 : (Unit → Option (Int32))) (j30 : (Int32 → Option (Int32))) (lp32 : Int32 → Option (Int32)) (v31 : Int32) : Option (Int32) := (if (S.1 a0 2) ≤ v31 then j9 () else m_b1 (S.2.2 a0 3) (fun b37 => m_gd (m_ok Z b37 11) (m_gd (m_in v31 (Z.2.2 b37)) ((if (S.1 b37 v31.toNatClampNeg) < p1 then m_lt (v31 + (1 : Int32)) (fun v42 => lp32 v42) else j30 v31)))))
def f_X1_contentAt (Z : m_Z) (S : m_S) (a0 : Nat) (p1 : Int32) : Option (Int32) := m_gd (m_ok Z a0 1) (m_b1 (S.2.2 a0 3) (fun b2 => m_gd (m_ok Z b2 11) (m_gd (m_in (0 : Int32) (Z.2.2 b2)) ((if (S.1 b2 (0 : Int32).toNatClampNeg) < p1 then m_jp (fun (_ : Unit) => m_b1 (f_X1_lastContent Z S a0) (fun v8 => some v8)) (fun j9 => m_jp (fun (v10 : Int32) => m_b1 (S.2.2 a0 4) (fun b11 => m_gd (m_ok Z b11 11) (m_lt (v10 - (1 : Int32)) (fun v14 => m_gd (m_in v14 (Z.2.2 b11)) (m_gd (m_in v10 (Z.2.2 b11)) (m_b1 (S.2.2 a0 3) (fun b18 => m_gd (m_ok Z b18 11) (m_lt (v10 - (1 : Int32)) (fun v21 => m_gd (m_in v21 (Z.2.2 b18)) (m_gd (m_in v10 (Z.2.2 b18)) (m_lt (v10 - (1 : Int32)) (fun v25 => m_gd (m_in v25 (Z.2.2 b18)) (m_b1 (f_X8_onLine Z S (S.1 b11 v14.toNatClampNeg) (S.1 b11 v10.toNatClampNeg) (p1 - (S.1 b18 v21.toNatClampNeg)) ((S.1 b18 v10.toNatClampNeg) - (S.1 b18 v25.toNatClampNeg))) (fun v29 => some v29)))))))))))))) (fun j30 => m_fx (F_X1_contentAt_19 Z S a0 p1 j9 j30) 100000 (1 : Int32))) else m_b1 (S.2.2 a0 4) (fun b45 => m_gd (m_ok Z b45 11) (m_gd (m_in (0 : Int32) (Z.2.2 b45)) (some (S.1 b45 (0 : Int32).toNatClampNeg)))))))))
abbrev rm_X1_contentAt : Room := { frames := 1, cells := 0, slots := 0, locals := 23 }
theorem hd_X1_contentAt : yX1_contentAt.cls = RX1 ∧ yX1_contentAt.cls ≠ "java/lang/invoke/MethodHandle" ∧ yX1_contentAt.cls ≠ "java/lang/invoke/VarHandle" ∧ (parseMethodDescriptor yX1_contentAt.desc).map (fun d => d.parameters.length) = some 1 := by decide +kernel
set_option maxHeartbeats 4000000 in
set_option maxRecDepth 100000 in
theorem c_X1_contentAt {l : Launch} (hl : l.stackTraces = false) {Z : m_Z} {S : m_S} {a0 : Nat} {p1 : Int32} {rZ9 : Int32} (hf : f_X1_contentAt Z S a0 p1 = some rZ9) : m_Ct l yX1_contentAt (.code yX1_contentAt cX1_contentAt 3 (some .int) :: m_ws) rm_X1_contentAt (fun f => [.ref a0, .int p1]) Z S (some (.int rZ9)) S := by
  unfold f_X1_contentAt at hf
  refine m_ent hl (by decide) (fun _ => Nat.le_of_ble_eq_true rfl) (fun x C F => ?_)
  have C : m_H x l RX1 cX1_contentAt 3 rm_X1_contentAt := C
  show m_G x Z S 3 0 0 0 [(0, .ref a0), (1, .int p1)] []
  refine r_iload_n (q := 1) C 1 dX1_contentAt_0 rfl rfl ?_
  refine r_aload_n (q := 2) C 0 dX1_contentAt_1 rfl rfl ?_
  obtain ⟨g1, hf⟩ := m_gd_of hf
  obtain ⟨b2, e3, hf⟩ := m_b1_of hf
  refine gf_X1_21 (q := 5) C dX1_contentAt_2 g1 e3 rfl ?_
  refine r_iconst (q := 6) (v := (0 : Int32)) C dX1_contentAt_5 (by decide) rfl ?_
  obtain ⟨g4, hf⟩ := m_gd_of hf
  obtain ⟨g5, hf⟩ := m_gd_of hf
  refine r_iald (q := 7) C dX1_contentAt_6 ⟨g4, g5⟩ rfl ?_
  refine r_icmp_gt (t := 17) (q := 10) C dX1_contentAt_7 (by decide) rfl (fun c6 => ?_) (fun c6 => ?_)
  · replace hf := m_if1 hf c6
    refine r_iconst (q := 18) (v := (1 : Int32)) C dX1_contentAt_17 (by decide) rfl ?_
    refine r_istore_n (q := 19) (L' := [(2, .int (1 : Int32)), (0, .ref a0), (1, .int p1)]) C dX1_contentAt_18 rfl rfl (by decide) rfl ?_
    obtain ⟨j9, ej9, hf⟩ := m_jp_of hf
    have J9 : ∀ (_ : Unit), j9 () = some rZ9 → m_G x Z S 3 0 0 86 [(0, .ref a0)] [] := by
      intro _ hf
      rw [ej9] at hf
      refine r_aload_n (q := 87) C 0 dX1_contentAt_86 rfl rfl ?_
      obtain ⟨v8, h7, hf⟩ := m_b1_of hf
      refine r_callV (mc := 0) (ms := 0) (q := 90) (st1 := [.int v8]) C (c_X1_lastContent hl h7) rfl w_488 w_446 w_447 w_5 w_448 hd_X1_lastContent rfl (by decide) g1 rfl rfl rfl ⟨(Nat.le_of_ble_eq_true rfl), (Nat.le_of_ble_eq_true rfl)⟩ (Nat.le_of_ble_eq_true rfl) ⟨(Nat.le_of_ble_eq_true rfl), (Nat.le_of_ble_eq_true rfl)⟩ dX1_contentAt_87 rfl rfl ?_
      obtain rfl := m_so1 hf
      exact r_iret C F dX1_contentAt_90
    obtain ⟨j30, ej30, hf⟩ := m_jp_of hf
    have J30 : ∀ (v10 : Int32), j30 v10 = some rZ9 → m_G x Z S 3 0 0 37 [(0, .ref a0), (1, .int p1), (2, .int v10)] [] := by
      intro v10 hf
      rw [ej30] at hf
      refine r_aload_n (q := 38) C 0 dX1_contentAt_37 rfl rfl ?_
      obtain ⟨b11, e12, hf⟩ := m_b1_of hf
      refine gf_X1_25 (q := 41) C dX1_contentAt_38 g1 e12 rfl ?_
      refine r_iload_n (q := 42) C 2 dX1_contentAt_41 rfl rfl ?_
      refine r_iconst (q := 43) (v := (1 : Int32)) C dX1_contentAt_42 (by decide) rfl ?_
      refine r_isub (q := 44) C dX1_contentAt_43 rfl ?_
      obtain ⟨g13, hf⟩ := m_gd_of hf
      obtain ⟨v14, e15, hf⟩ := m_lt_of hf
      refine r_nm e15 ?_
      obtain ⟨g16, hf⟩ := m_gd_of hf
      refine r_iald (q := 45) C dX1_contentAt_44 ⟨g13, g16⟩ rfl ?_
      refine r_aload_n (q := 46) C 0 dX1_contentAt_45 rfl rfl ?_
      refine gf_X1_25 (q := 49) C dX1_contentAt_46 g1 e12 rfl ?_
      refine r_iload_n (q := 50) C 2 dX1_contentAt_49 rfl rfl ?_
      obtain ⟨g17, hf⟩ := m_gd_of hf
      refine r_iald (q := 51) C dX1_contentAt_50 ⟨g13, g17⟩ rfl ?_
      refine r_iload_n (q := 52) C 1 dX1_contentAt_51 rfl rfl ?_
      refine r_aload_n (q := 53) C 0 dX1_contentAt_52 rfl rfl ?_
      obtain ⟨b18, e19, hf⟩ := m_b1_of hf
      refine gf_X1_21 (q := 56) C dX1_contentAt_53 g1 e19 rfl ?_
      refine r_iload_n (q := 57) C 2 dX1_contentAt_56 rfl rfl ?_
      refine r_iconst (q := 58) (v := (1 : Int32)) C dX1_contentAt_57 (by decide) rfl ?_
      refine r_isub (q := 59) C dX1_contentAt_58 rfl ?_
      obtain ⟨g20, hf⟩ := m_gd_of hf
      obtain ⟨v21, e22, hf⟩ := m_lt_of hf
      refine r_nm e22 ?_
      obtain ⟨g23, hf⟩ := m_gd_of hf
      refine r_iald (q := 60) C dX1_contentAt_59 ⟨g20, g23⟩ rfl ?_
      refine r_isub (q := 61) C dX1_contentAt_60 rfl ?_
      refine r_aload_n (q := 62) C 0 dX1_contentAt_61 rfl rfl ?_
      refine gf_X1_21 (q := 65) C dX1_contentAt_62 g1 e19 rfl ?_
      refine r_iload_n (q := 66) C 2 dX1_contentAt_65 rfl rfl ?_
      obtain ⟨g24, hf⟩ := m_gd_of hf
      refine r_iald (q := 67) C dX1_contentAt_66 ⟨g20, g24⟩ rfl ?_
      refine r_aload_n (q := 68) C 0 dX1_contentAt_67 rfl rfl ?_
      refine gf_X1_21 (q := 71) C dX1_contentAt_68 g1 e19 rfl ?_
      refine r_iload_n (q := 72) C 2 dX1_contentAt_71 rfl rfl ?_
      refine r_iconst (q := 73) (v := (1 : Int32)) C dX1_contentAt_72 (by decide) rfl ?_
      refine r_isub (q := 74) C dX1_contentAt_73 rfl ?_
      obtain ⟨v25, e26, hf⟩ := m_lt_of hf
      refine r_nm e26 ?_
      obtain ⟨g27, hf⟩ := m_gd_of hf
      refine r_iald (q := 75) C dX1_contentAt_74 ⟨g20, g27⟩ rfl ?_
      refine r_isub (q := 76) C dX1_contentAt_75 rfl ?_
      obtain ⟨v29, h28, hf⟩ := m_b1_of hf
      refine r_callSN (mc := 0) (ms := 0) (q := 79) (st1 := [.int v29]) C (c_X8_onLine hl h28) rfl (by decide +kernel) w_486 w_2 w_487 hd_X8_onLine rfl rfl rfl ⟨(Nat.le_of_ble_eq_true rfl), (Nat.le_of_ble_eq_true rfl)⟩ (Nat.le_of_ble_eq_true rfl) ⟨(Nat.le_of_ble_eq_true rfl), (Nat.le_of_ble_eq_true rfl)⟩ dX1_contentAt_76 rfl rfl ?_
      obtain rfl := m_so1 hf
      exact r_iret C F dX1_contentAt_79
    have LL35 : ∀ (fu34 : Nat) (v31 : Int32), m_fx (F_X1_contentAt_19 Z S a0 p1 j9 j30) fu34 v31 = some rZ9 → m_G x Z S 3 0 0 19 [(0, .ref a0), (1, .int p1), (2, .int v31)] [] := by
      intro fu34
      induction fu34 with
      | zero => intros; rename_i hf; cases hf
      | succ fu34 ih33 =>
        intro v31 hf
        replace hf : F_X1_contentAt_19 Z S a0 p1 j9 j30 (m_fx (F_X1_contentAt_19 Z S a0 p1 j9 j30) fu34) v31 = some rZ9 := hf
        unfold F_X1_contentAt_19 at hf
        refine r_iload_n (q := 20) C 2 dX1_contentAt_19 rfl rfl ?_
        refine r_aload_n (q := 21) C 0 dX1_contentAt_20 rfl rfl ?_
        refine gf_X1_18 (q := 24) C dX1_contentAt_21 g1 rfl ?_
        refine r_icmp_ge (t := 86) (q := 27) C dX1_contentAt_24 (by decide) rfl (fun c36 => ?_) (fun c36 => ?_)
        · replace hf := m_if1 hf c36
          refine r_sub [0] rfl ?_
          exact J9 ()  hf
        · replace hf := m_if0 hf c36
          refine r_iload_n (q := 28) C 1 dX1_contentAt_27 rfl rfl ?_
          refine r_aload_n (q := 29) C 0 dX1_contentAt_28 rfl rfl ?_
          obtain ⟨b37, e38, hf⟩ := m_b1_of hf
          refine gf_X1_21 (q := 32) C dX1_contentAt_29 g1 e38 rfl ?_
          refine r_iload_n (q := 33) C 2 dX1_contentAt_32 rfl rfl ?_
          obtain ⟨g39, hf⟩ := m_gd_of hf
          obtain ⟨g40, hf⟩ := m_gd_of hf
          refine r_iald (q := 34) C dX1_contentAt_33 ⟨g39, g40⟩ rfl ?_
          refine r_icmp_gt (t := 80) (q := 37) C dX1_contentAt_34 (by decide) rfl (fun c41 => ?_) (fun c41 => ?_)
          · replace hf := m_if1 hf c41
            obtain ⟨v42, e43, hf⟩ := m_lt_of hf
            refine r_iinc (q := 83) (v := v42) (L' := [(2, .int v42), (0, .ref a0), (1, .int p1)]) C 2 dX1_contentAt_80 rfl (by rw [e43]; rfl) rfl (by decide) rfl ?_
            refine r_goto (t := 19) C dX1_contentAt_83 (by decide) ?_
            refine r_sub [1, 2, 0] rfl ?_
            exact ih33 v42 hf
          · replace hf := m_if0 hf c41
            exact J30 v31 hf
    refine r_sub [1, 2, 0] rfl ?_
    exact LL35 100000 (1 : Int32) hf
  · replace hf := m_if0 hf c6
    refine r_aload_n (q := 11) C 0 dX1_contentAt_10 rfl rfl ?_
    obtain ⟨b45, e46, hf⟩ := m_b1_of hf
    refine gf_X1_25 (q := 14) C dX1_contentAt_11 g1 e46 rfl ?_
    refine r_iconst (q := 15) (v := (0 : Int32)) C dX1_contentAt_14 (by decide) rfl ?_
    obtain ⟨g47, hf⟩ := m_gd_of hf
    obtain ⟨g48, hf⟩ := m_gd_of hf
    refine r_iald (q := 16) C dX1_contentAt_15 ⟨g47, g48⟩ rfl ?_
    obtain rfl := m_so1 hf
    exact r_iret C F dX1_contentAt_16
def f_X1_moistureAt (Z : m_Z) (S : m_S) (a0 : Nat) (p1 : Int32) (p2 : Int32) : Option (Int32) := m_gd (m_ok Z a0 1) (m_b1 (f_X1_contentAt Z S a0 p1) (fun v3 => some ((v3 * p2) / (1000 : Int32))))
abbrev rm_X1_moistureAt : Room := { frames := 2, cells := 0, slots := 0, locals := 45 }
theorem hd_X1_moistureAt : yX1_moistureAt.cls = RX1 ∧ yX1_moistureAt.cls ≠ "java/lang/invoke/MethodHandle" ∧ yX1_moistureAt.cls ≠ "java/lang/invoke/VarHandle" ∧ (parseMethodDescriptor yX1_moistureAt.desc).map (fun d => d.parameters.length) = some 2 := by decide +kernel
set_option maxHeartbeats 4000000 in
set_option maxRecDepth 100000 in
theorem c_X1_moistureAt {l : Launch} (hl : l.stackTraces = false) {Z : m_Z} {S : m_S} {a0 : Nat} {p1 : Int32} {p2 : Int32} {rZ9 : Int32} (hf : f_X1_moistureAt Z S a0 p1 p2 = some rZ9) : m_Ct l yX1_moistureAt (.code yX1_moistureAt cX1_moistureAt 3 (some .int) :: m_ws) rm_X1_moistureAt (fun f => [.ref a0, .int p1, .int p2]) Z S (some (.int rZ9)) S := by
  unfold f_X1_moistureAt at hf
  refine m_ent hl (by decide) (fun _ => Nat.le_of_ble_eq_true rfl) (fun x C F => ?_)
  have C : m_H x l RX1 cX1_moistureAt 3 rm_X1_moistureAt := C
  show m_G x Z S 3 0 0 0 [(0, .ref a0), (1, .int p1), (2, .int p2)] []
  refine r_aload_n (q := 1) C 0 dX1_moistureAt_0 rfl rfl ?_
  refine r_iload_n (q := 2) C 1 dX1_moistureAt_1 rfl rfl ?_
  obtain ⟨g1, hf⟩ := m_gd_of hf
  obtain ⟨v3, h2, hf⟩ := m_b1_of hf
  refine r_callV (mc := 0) (ms := 0) (q := 5) (st1 := [.int v3]) C (c_X1_contentAt hl h2) rfl w_482 w_483 w_484 w_5 w_485 hd_X1_contentAt rfl (by decide) g1 rfl rfl rfl ⟨(Nat.le_of_ble_eq_true rfl), (Nat.le_of_ble_eq_true rfl)⟩ (Nat.le_of_ble_eq_true rfl) ⟨(Nat.le_of_ble_eq_true rfl), (Nat.le_of_ble_eq_true rfl)⟩ dX1_moistureAt_2 rfl rfl ?_
  refine r_iload_n (q := 6) C 2 dX1_moistureAt_5 rfl rfl ?_
  refine r_imul (q := 7) C dX1_moistureAt_6 rfl ?_
  refine r_sipush (q := 10) (v := (1000 : Int32)) C dX1_moistureAt_7 (by decide) rfl ?_
  refine r_idiv (q := 11) C dX1_moistureAt_10 (by decide) rfl ?_
  obtain rfl := m_so1 hf
  exact r_iret C F dX1_moistureAt_11
def f_X0_moistureAt (Z : m_Z) (S : m_S) (a0 : Nat) (p1 : Int32) : Option (Int32) := m_gd (m_ok Z a0 0) (m_b1 (S.2.2 a0 1) (fun b2 => m_gd (m_ok Z b2 1) (m_b1 (f_X1_moistureAt Z S b2 p1 (S.1 a0 2)) (fun v6 => some v6))))
abbrev rm_X0_moistureAt : Room := { frames := 3, cells := 0, slots := 0, locals := 67 }
theorem hd_X0_moistureAt : yX0_moistureAt.cls = RX0 ∧ yX0_moistureAt.cls ≠ "java/lang/invoke/MethodHandle" ∧ yX0_moistureAt.cls ≠ "java/lang/invoke/VarHandle" ∧ (parseMethodDescriptor yX0_moistureAt.desc).map (fun d => d.parameters.length) = some 1 := by decide +kernel
set_option maxHeartbeats 4000000 in
set_option maxRecDepth 100000 in
theorem c_X0_moistureAt {l : Launch} (hl : l.stackTraces = false) {Z : m_Z} {S : m_S} {a0 : Nat} {p1 : Int32} {rZ9 : Int32} (hf : f_X0_moistureAt Z S a0 p1 = some rZ9) : m_Ct l yX0_moistureAt (.code yX0_moistureAt cX0_moistureAt 2 (some .int) :: m_ws) rm_X0_moistureAt (fun f => [.ref a0, .int p1]) Z S (some (.int rZ9)) S := by
  unfold f_X0_moistureAt at hf
  refine m_ent hl (by decide) (fun _ => Nat.le_of_ble_eq_true rfl) (fun x C F => ?_)
  have C : m_H x l RX0 cX0_moistureAt 2 rm_X0_moistureAt := C
  show m_G x Z S 2 0 0 0 [(0, .ref a0), (1, .int p1)] []
  refine r_aload_n (q := 1) C 0 dX0_moistureAt_0 rfl rfl ?_
  obtain ⟨g1, hf⟩ := m_gd_of hf
  obtain ⟨b2, e3, hf⟩ := m_b1_of hf
  refine gf_X0_15 (q := 4) C dX0_moistureAt_1 g1 e3 rfl ?_
  refine r_nonnull (t := 11) C dX0_moistureAt_4 (by decide) ?_
  refine r_aload_n (q := 12) C 0 dX0_moistureAt_11 rfl rfl ?_
  refine gf_X0_15 (q := 15) C dX0_moistureAt_12 g1 e3 rfl ?_
  refine r_iload_n (q := 16) C 1 dX0_moistureAt_15 rfl rfl ?_
  refine r_aload_n (q := 17) C 0 dX0_moistureAt_16 rfl rfl ?_
  refine gf_X0_19 (q := 20) C dX0_moistureAt_17 g1 rfl ?_
  obtain ⟨g4, hf⟩ := m_gd_of hf
  obtain ⟨v6, h5, hf⟩ := m_b1_of hf
  refine r_callV (mc := 0) (ms := 0) (q := 23) (st1 := [.int v6]) C (c_X1_moistureAt hl h5) rfl w_715 w_479 w_480 w_5 w_481 hd_X1_moistureAt rfl (by decide) g4 rfl rfl rfl ⟨(Nat.le_of_ble_eq_true rfl), (Nat.le_of_ble_eq_true rfl)⟩ (Nat.le_of_ble_eq_true rfl) ⟨(Nat.le_of_ble_eq_true rfl), (Nat.le_of_ble_eq_true rfl)⟩ dX0_moistureAt_20 rfl rfl ?_
  obtain rfl := m_so1 hf
  exact r_iret C F dX0_moistureAt_23
def F_X0_ownHumidity_6 (Z : m_Z) (S : m_S) (a0 : Nat) (j2 : (Int32 → Option (Int32))) (lp5 : (Int32 × Int32) → Option (Int32)) (p23 : (Int32 × Int32)) : Option (Int32) := match p23 with
  | (v3, v4) => (if v4 ≤ 0 then j2 v3 else m_lt (v3 + v4) (fun v10 => (if (1000 : Int32) < v10 then m_lt (v4 / (2 : Int32)) (fun v13 => lp5 (v3, v13)) else m_gd (m_ok Z a0 0) (m_b1 (f_X0_moistureAt Z S a0 v10) (fun v17 => (if (S.1 a0 3) < v17 then m_lt (v4 / (2 : Int32)) (fun v19 => lp5 (v3, v19)) else m_lt (v4 / (2 : Int32)) (fun v21 => lp5 (v10, v21))))))))
def f_X0_ownHumidity (Z : m_Z) (S : m_S) (a0 : Nat) : Option (Int32) := m_jp (fun (v1 : Int32) => some v1) (fun j2 => m_fx (F_X0_ownHumidity_6 Z S a0 j2) 100000 ((-1 : Int32), (512 : Int32)))
abbrev rm_X0_ownHumidity : Room := { frames := 4, cells := 0, slots := 0, locals := 88 }
theorem hd_X0_ownHumidity : yX0_ownHumidity.cls = RX0 ∧ yX0_ownHumidity.cls ≠ "java/lang/invoke/MethodHandle" ∧ yX0_ownHumidity.cls ≠ "java/lang/invoke/VarHandle" ∧ (parseMethodDescriptor yX0_ownHumidity.desc).map (fun d => d.parameters.length) = some 0 := by decide +kernel
set_option maxHeartbeats 4000000 in
set_option maxRecDepth 100000 in
theorem c_X0_ownHumidity {l : Launch} (hl : l.stackTraces = false) {Z : m_Z} {S : m_S} {a0 : Nat} {rZ9 : Int32} (hf : f_X0_ownHumidity Z S a0 = some rZ9) : m_Ct l yX0_ownHumidity (.code yX0_ownHumidity cX0_ownHumidity 4 (some .int) :: m_ws) rm_X0_ownHumidity (fun f => [.ref a0]) Z S (some (.int rZ9)) S := by
  unfold f_X0_ownHumidity at hf
  refine m_ent hl (by decide) (fun _ => Nat.le_of_ble_eq_true rfl) (fun x C F => ?_)
  have C : m_H x l RX0 cX0_ownHumidity 4 rm_X0_ownHumidity := C
  show m_G x Z S 4 0 0 0 [(0, .ref a0)] []
  refine r_iconst (q := 1) (v := (-1 : Int32)) C dX0_ownHumidity_0 (by decide) rfl ?_
  refine r_istore_n (q := 2) (L' := [(1, .int (-1 : Int32)), (0, .ref a0)]) C dX0_ownHumidity_1 rfl rfl (by decide) rfl ?_
  refine r_sipush (q := 5) (v := (512 : Int32)) C dX0_ownHumidity_2 (by decide) rfl ?_
  refine r_istore_n (q := 6) (L' := [(2, .int (512 : Int32)), (1, .int (-1 : Int32)), (0, .ref a0)]) C dX0_ownHumidity_5 rfl rfl (by decide) rfl ?_
  obtain ⟨j2, ej2, hf⟩ := m_jp_of hf
  have J2 : ∀ (v1 : Int32), j2 v1 = some rZ9 → m_G x Z S 4 0 0 42 [(1, .int v1)] [] := by
    intro v1 hf
    rw [ej2] at hf
    refine r_iload_n (q := 43) C 0 dX0_ownHumidity_42 rfl rfl ?_
    obtain rfl := m_so1 hf
    exact r_iret C F dX0_ownHumidity_43
  have LL8 : ∀ (fu7 : Nat) (v3 : Int32) (v4 : Int32), m_fx (F_X0_ownHumidity_6 Z S a0 j2) fu7 (v3, v4) = some rZ9 → m_G x Z S 4 0 0 6 [(0, .ref a0), (1, .int v3), (2, .int v4)] [] := by
    intro fu7
    induction fu7 with
    | zero => intros; rename_i hf; cases hf
    | succ fu7 ih6 =>
      intro v3 v4 hf
      replace hf : F_X0_ownHumidity_6 Z S a0 j2 (m_fx (F_X0_ownHumidity_6 Z S a0 j2) fu7) (v3, v4) = some rZ9 := hf
      unfold F_X0_ownHumidity_6 at hf
      dsimp only at hf
      refine r_iload_n (q := 7) C 2 dX0_ownHumidity_6 rfl rfl ?_
      refine r_if_le (t := 42) (q := 10) C dX0_ownHumidity_7 (by decide) rfl (fun c9 => ?_) (fun c9 => ?_)
      · replace hf := m_if1 hf c9
        refine r_sub [1] rfl ?_
        exact J2 v3 hf
      · replace hf := m_if0 hf c9
        refine r_iload_n (q := 11) C 1 dX0_ownHumidity_10 rfl rfl ?_
        refine r_iload_n (q := 12) C 2 dX0_ownHumidity_11 rfl rfl ?_
        refine r_iadd (q := 13) C dX0_ownHumidity_12 rfl ?_
        obtain ⟨v10, e11, hf⟩ := m_lt_of hf
        refine r_nm e11 ?_
        refine r_istore_n (q := 14) (L' := [(3, .int v10), (0, .ref a0), (1, .int v3), (2, .int v4)]) C dX0_ownHumidity_13 rfl rfl (by decide) rfl ?_
        refine r_iload_n (q := 15) C 0 dX0_ownHumidity_14 rfl rfl ?_
        refine r_sipush (q := 18) (v := (1000 : Int32)) C dX0_ownHumidity_15 (by decide) rfl ?_
        refine r_icmp_gt (t := 35) (q := 21) C dX0_ownHumidity_18 (by decide) rfl (fun c12 => ?_) (fun c12 => ?_)
        · replace hf := m_if1 hf c12
          refine r_iload_n (q := 36) C 3 dX0_ownHumidity_35 rfl rfl ?_
          refine r_iconst (q := 37) (v := (2 : Int32)) C dX0_ownHumidity_36 (by decide) rfl ?_
          refine r_idiv (q := 38) C dX0_ownHumidity_37 (by decide) rfl ?_
          obtain ⟨v13, e14, hf⟩ := m_lt_of hf
          refine r_nm e14 ?_
          refine r_istore_n (q := 39) (L' := [(2, .int v13), (3, .int v10), (0, .ref a0), (1, .int v3)]) C dX0_ownHumidity_38 rfl rfl (by decide) rfl ?_
          refine r_goto (t := 6) C dX0_ownHumidity_39 (by decide) ?_
          refine r_sub [2, 3, 0] rfl ?_
          exact ih6 v3 v13 hf
        · replace hf := m_if0 hf c12
          refine r_aload_n (q := 22) C 1 dX0_ownHumidity_21 rfl rfl ?_
          refine r_iload_n (q := 23) C 0 dX0_ownHumidity_22 rfl rfl ?_
          obtain ⟨g15, hf⟩ := m_gd_of hf
          obtain ⟨v17, h16, hf⟩ := m_b1_of hf
          refine r_callV (mc := 0) (ms := 0) (q := 26) (st1 := [.int v17]) C (c_X0_moistureAt hl h16) rfl w_711 w_712 w_713 w_7 w_714 hd_X0_moistureAt rfl (by decide) g15 rfl rfl rfl ⟨(Nat.le_of_ble_eq_true rfl), (Nat.le_of_ble_eq_true rfl)⟩ (Nat.le_of_ble_eq_true rfl) ⟨(Nat.le_of_ble_eq_true rfl), (Nat.le_of_ble_eq_true rfl)⟩ dX0_ownHumidity_23 rfl rfl ?_
          refine r_aload_n (q := 27) C 1 dX0_ownHumidity_26 rfl rfl ?_
          refine gf_X0_22 (q := 30) C dX0_ownHumidity_27 g15 rfl ?_
          refine r_icmp_gt (t := 35) (q := 33) C dX0_ownHumidity_30 (by decide) rfl (fun c18 => ?_) (fun c18 => ?_)
          · replace hf := m_if1 hf c18
            refine r_iload_n (q := 36) C 3 dX0_ownHumidity_35 rfl rfl ?_
            refine r_iconst (q := 37) (v := (2 : Int32)) C dX0_ownHumidity_36 (by decide) rfl ?_
            refine r_idiv (q := 38) C dX0_ownHumidity_37 (by decide) rfl ?_
            obtain ⟨v19, e20, hf⟩ := m_lt_of hf
            refine r_nm e20 ?_
            refine r_istore_n (q := 39) (L' := [(2, .int v19), (3, .int v10), (0, .ref a0), (1, .int v3)]) C dX0_ownHumidity_38 rfl rfl (by decide) rfl ?_
            refine r_goto (t := 6) C dX0_ownHumidity_39 (by decide) ?_
            refine r_sub [2, 3, 0] rfl ?_
            exact ih6 v3 v19 hf
          · replace hf := m_if0 hf c18
            refine r_iload_n (q := 34) C 0 dX0_ownHumidity_33 rfl rfl ?_
            refine r_istore_n (q := 35) (L' := [(1, .int v10), (3, .int v10), (0, .ref a0), (2, .int v4)]) C dX0_ownHumidity_34 rfl rfl (by decide) rfl ?_
            refine r_iload_n (q := 36) C 3 dX0_ownHumidity_35 rfl rfl ?_
            refine r_iconst (q := 37) (v := (2 : Int32)) C dX0_ownHumidity_36 (by decide) rfl ?_
            refine r_idiv (q := 38) C dX0_ownHumidity_37 (by decide) rfl ?_
            obtain ⟨v21, e22, hf⟩ := m_lt_of hf
            refine r_nm e22 ?_
            refine r_istore_n (q := 39) (L' := [(2, .int v21), (1, .int v10), (3, .int v10), (0, .ref a0)]) C dX0_ownHumidity_38 rfl rfl (by decide) rfl ?_
            refine r_goto (t := 6) C dX0_ownHumidity_39 (by decide) ?_
            refine r_sub [3, 1, 0] rfl ?_
            exact ih6 v10 v21 hf
  refine r_sub [2, 1, 0] rfl ?_
  exact LL8 100000 (-1 : Int32) (512 : Int32) hf
def f_X0_renew (Z : m_Z) (S : m_S) (a0 : Nat) (p1 : Int32) (p2 : Int32) : Option (Unit × m_S) := m_gd (m_ok Z a0 0) (m_lt (m_pI S a0 0 p1) (fun S2 => m_b1 (f_X0_moistureAt Z S2 a0 p2) (fun v5 => m_lt (m_pI S2 a0 3 v5) (fun S6 => some ((), S6)))))
abbrev rm_X0_renew : Room := { frames := 4, cells := 0, slots := 0, locals := 88 }
theorem hd_X0_renew : yX0_renew.cls = RX0 ∧ yX0_renew.cls ≠ "java/lang/invoke/MethodHandle" ∧ yX0_renew.cls ≠ "java/lang/invoke/VarHandle" ∧ (parseMethodDescriptor yX0_renew.desc).map (fun d => d.parameters.length) = some 2 := by decide +kernel
set_option maxHeartbeats 4000000 in
set_option maxRecDepth 100000 in
theorem c_X0_renew {l : Launch} (hl : l.stackTraces = false) {Z : m_Z} {S : m_S} {a0 : Nat} {p1 : Int32} {p2 : Int32} {rZ9 : Unit} {SZ9 : m_S} (hf : f_X0_renew Z S a0 p1 p2 = some (rZ9, SZ9)) : m_Ct l yX0_renew (.code yX0_renew cX0_renew 3 none :: m_ws) rm_X0_renew (fun f => [.ref a0, .int p1, .int p2]) Z S (none) SZ9 := by
  unfold f_X0_renew at hf
  refine m_ent hl (by decide) (fun _ => Nat.le_of_ble_eq_true rfl) (fun x C F => ?_)
  have C : m_H x l RX0 cX0_renew 3 rm_X0_renew := C
  show m_G x Z S 3 0 0 0 [(0, .ref a0), (1, .int p1), (2, .int p2)] []
  refine r_aload_n (q := 1) C 0 dX0_renew_0 rfl rfl ?_
  refine r_iload_n (q := 2) C 1 dX0_renew_1 rfl rfl ?_
  obtain ⟨g1, hf⟩ := m_gd_of hf
  obtain ⟨S2, e3, hf⟩ := m_lt_of hf
  refine pf_X0_9 (q := 5) C dX0_renew_2 g1 e3 rfl ?_
  refine r_aload_n (q := 6) C 0 dX0_renew_5 rfl rfl ?_
  refine r_aload_n (q := 7) C 0 dX0_renew_6 rfl rfl ?_
  refine r_iload_n (q := 8) C 2 dX0_renew_7 rfl rfl ?_
  obtain ⟨v5, h4, hf⟩ := m_b1_of hf
  refine r_callV (mc := 0) (ms := 0) (q := 11) (st1 := [.int v5, .ref a0]) C (c_X0_moistureAt hl h4) rfl w_711 w_712 w_713 w_7 w_714 hd_X0_moistureAt rfl (by decide) g1 rfl rfl rfl ⟨(Nat.le_of_ble_eq_true rfl), (Nat.le_of_ble_eq_true rfl)⟩ (Nat.le_of_ble_eq_true rfl) ⟨(Nat.le_of_ble_eq_true rfl), (Nat.le_of_ble_eq_true rfl)⟩ dX0_renew_8 rfl rfl ?_
  obtain ⟨S6, e7, hf⟩ := m_lt_of hf
  refine pf_X0_22 (q := 14) C dX0_renew_11 g1 e7 rfl ?_
  obtain ⟨rfl, rfl⟩ := m_so2 hf
  exact r_vret C F dX0_renew_14
def f_X0_wishAt (Z : m_Z) (S : m_S) (a0 : Nat) (p1 : Int32) : Option (Int32) := m_gd (m_ok Z a0 0) (m_b1 (S.2.2 a0 1) (fun b2 => m_gd (m_ok Z b2 1) (m_b1 (f_X1_moistureAt Z S b2 p1 (S.1 a0 2)) (fun v6 => some (((v6 - (S.1 a0 3)) * (S.1 b2 1)) / (1000 : Int32))))))
abbrev rm_X0_wishAt : Room := { frames := 3, cells := 0, slots := 0, locals := 67 }
theorem hd_X0_wishAt : yX0_wishAt.cls = RX0 ∧ yX0_wishAt.cls ≠ "java/lang/invoke/MethodHandle" ∧ yX0_wishAt.cls ≠ "java/lang/invoke/VarHandle" ∧ (parseMethodDescriptor yX0_wishAt.desc).map (fun d => d.parameters.length) = some 1 := by decide +kernel
set_option maxHeartbeats 4000000 in
set_option maxRecDepth 100000 in
theorem c_X0_wishAt {l : Launch} (hl : l.stackTraces = false) {Z : m_Z} {S : m_S} {a0 : Nat} {p1 : Int32} {rZ9 : Int32} (hf : f_X0_wishAt Z S a0 p1 = some rZ9) : m_Ct l yX0_wishAt (.code yX0_wishAt cX0_wishAt 2 (some .int) :: m_ws) rm_X0_wishAt (fun f => [.ref a0, .int p1]) Z S (some (.int rZ9)) S := by
  unfold f_X0_wishAt at hf
  refine m_ent hl (by decide) (fun _ => Nat.le_of_ble_eq_true rfl) (fun x C F => ?_)
  have C : m_H x l RX0 cX0_wishAt 2 rm_X0_wishAt := C
  show m_G x Z S 2 0 0 0 [(0, .ref a0), (1, .int p1)] []
  refine r_aload_n (q := 1) C 0 dX0_wishAt_0 rfl rfl ?_
  obtain ⟨g1, hf⟩ := m_gd_of hf
  obtain ⟨b2, e3, hf⟩ := m_b1_of hf
  refine gf_X0_15 (q := 4) C dX0_wishAt_1 g1 e3 rfl ?_
  refine r_nonnull (t := 11) C dX0_wishAt_4 (by decide) ?_
  refine r_aload_n (q := 12) C 0 dX0_wishAt_11 rfl rfl ?_
  refine gf_X0_15 (q := 15) C dX0_wishAt_12 g1 e3 rfl ?_
  refine r_iload_n (q := 16) C 1 dX0_wishAt_15 rfl rfl ?_
  refine r_aload_n (q := 17) C 0 dX0_wishAt_16 rfl rfl ?_
  refine gf_X0_19 (q := 20) C dX0_wishAt_17 g1 rfl ?_
  obtain ⟨g4, hf⟩ := m_gd_of hf
  obtain ⟨v6, h5, hf⟩ := m_b1_of hf
  refine r_callV (mc := 0) (ms := 0) (q := 23) (st1 := [.int v6]) C (c_X1_moistureAt hl h5) rfl w_715 w_479 w_480 w_5 w_481 hd_X1_moistureAt rfl (by decide) g4 rfl rfl rfl ⟨(Nat.le_of_ble_eq_true rfl), (Nat.le_of_ble_eq_true rfl)⟩ (Nat.le_of_ble_eq_true rfl) ⟨(Nat.le_of_ble_eq_true rfl), (Nat.le_of_ble_eq_true rfl)⟩ dX0_wishAt_20 rfl rfl ?_
  refine r_aload_n (q := 24) C 0 dX0_wishAt_23 rfl rfl ?_
  refine gf_X0_22 (q := 27) C dX0_wishAt_24 g1 rfl ?_
  refine r_isub (q := 28) C dX0_wishAt_27 rfl ?_
  refine r_aload_n (q := 29) C 0 dX0_wishAt_28 rfl rfl ?_
  refine gf_X0_15 (q := 32) C dX0_wishAt_29 g1 e3 rfl ?_
  refine gf_X0_37 (q := 35) C dX0_wishAt_32 g4 rfl ?_
  refine r_imul (q := 36) C dX0_wishAt_35 rfl ?_
  refine r_sipush (q := 39) (v := (1000 : Int32)) C dX0_wishAt_36 (by decide) rfl ?_
  refine r_idiv (q := 40) C dX0_wishAt_39 (by decide) rfl ?_
  obtain rfl := m_so1 hf
  exact r_iret C F dX0_wishAt_40
def f_X1_addPoint (Z : m_Z) (S : m_S) (a0 : Nat) (p1 : Int32) (p2 : Int32) : Option (Unit × m_S) := m_gd (m_ok Z a0 1) ((if (6 : Int32) ≤ (S.1 a0 2) then some ((), S) else m_b1 (S.2.2 a0 3) (fun b3 => m_gd (m_ok Z b3 11) (m_gd (m_in (S.1 a0 2) (Z.2.2 b3)) (m_lt (m_pI S b3 (S.1 a0 2).toNatClampNeg p1) (fun S7 => m_b1 (S7.2.2 a0 4) (fun b9 => m_gd (m_ok Z b9 11) (m_gd (m_in (S7.1 a0 2) (Z.2.2 b9)) (m_lt (m_pI S7 b9 (S7.1 a0 2).toNatClampNeg p2) (fun S13 => m_lt (m_pI S13 a0 2 ((S13.1 a0 2) + (1 : Int32))) (fun S15 => some ((), S15))))))))))))
abbrev rm_X1_addPoint : Room := { frames := 0, cells := 0, slots := 0, locals := 0 }
theorem hd_X1_addPoint : yX1_addPoint.cls = RX1 ∧ yX1_addPoint.cls ≠ "java/lang/invoke/MethodHandle" ∧ yX1_addPoint.cls ≠ "java/lang/invoke/VarHandle" ∧ (parseMethodDescriptor yX1_addPoint.desc).map (fun d => d.parameters.length) = some 2 := by decide +kernel
set_option maxHeartbeats 4000000 in
set_option maxRecDepth 100000 in
theorem c_X1_addPoint {l : Launch} (hl : l.stackTraces = false) {Z : m_Z} {S : m_S} {a0 : Nat} {p1 : Int32} {p2 : Int32} {rZ9 : Unit} {SZ9 : m_S} (hf : f_X1_addPoint Z S a0 p1 p2 = some (rZ9, SZ9)) : m_Ct l yX1_addPoint (.code yX1_addPoint cX1_addPoint 3 none :: m_ws) rm_X1_addPoint (fun f => [.ref a0, .int p1, .int p2]) Z S (none) SZ9 := by
  unfold f_X1_addPoint at hf
  refine m_ent hl (by decide) (fun _ => Nat.le_of_ble_eq_true rfl) (fun x C F => ?_)
  have C : m_H x l RX1 cX1_addPoint 3 rm_X1_addPoint := C
  show m_G x Z S 3 0 0 0 [(0, .ref a0), (1, .int p1), (2, .int p2)] []
  refine r_aload_n (q := 1) C 0 dX1_addPoint_0 rfl rfl ?_
  obtain ⟨g1, hf⟩ := m_gd_of hf
  refine gf_X1_18 (q := 4) C dX1_addPoint_1 g1 rfl ?_
  refine r_bipush (q := 6) (v := (6 : Int32)) C dX1_addPoint_4 (by decide) rfl ?_
  refine r_icmp_ge (t := 39) (q := 9) C dX1_addPoint_6 (by decide) rfl (fun c2 => ?_) (fun c2 => ?_)
  · replace hf := m_if1 hf c2
    obtain ⟨rfl, rfl⟩ := m_so2 hf
    exact r_vret C F dX1_addPoint_39
  · replace hf := m_if0 hf c2
    refine r_aload_n (q := 10) C 0 dX1_addPoint_9 rfl rfl ?_
    obtain ⟨b3, e4, hf⟩ := m_b1_of hf
    refine gf_X1_21 (q := 13) C dX1_addPoint_10 g1 e4 rfl ?_
    refine r_aload_n (q := 14) C 0 dX1_addPoint_13 rfl rfl ?_
    refine gf_X1_18 (q := 17) C dX1_addPoint_14 g1 rfl ?_
    refine r_iload_n (q := 18) C 1 dX1_addPoint_17 rfl rfl ?_
    obtain ⟨g5, hf⟩ := m_gd_of hf
    obtain ⟨g6, hf⟩ := m_gd_of hf
    obtain ⟨S7, e8, hf⟩ := m_lt_of hf
    refine r_iast (q := 19) C dX1_addPoint_18 ⟨g5, g6⟩ rfl ?_
    rw [← e8]
    refine r_aload_n (q := 20) C 0 dX1_addPoint_19 rfl rfl ?_
    obtain ⟨b9, e10, hf⟩ := m_b1_of hf
    refine gf_X1_25 (q := 23) C dX1_addPoint_20 g1 e10 rfl ?_
    refine r_aload_n (q := 24) C 0 dX1_addPoint_23 rfl rfl ?_
    refine gf_X1_18 (q := 27) C dX1_addPoint_24 g1 rfl ?_
    refine r_iload_n (q := 28) C 2 dX1_addPoint_27 rfl rfl ?_
    obtain ⟨g11, hf⟩ := m_gd_of hf
    obtain ⟨g12, hf⟩ := m_gd_of hf
    obtain ⟨S13, e14, hf⟩ := m_lt_of hf
    refine r_iast (q := 29) C dX1_addPoint_28 ⟨g11, g12⟩ rfl ?_
    rw [← e14]
    refine r_aload_n (q := 30) C 0 dX1_addPoint_29 rfl rfl ?_
    refine r_dup (q := 31) C dX1_addPoint_30 rfl rfl ?_
    refine gf_X1_18 (q := 34) C dX1_addPoint_31 g1 rfl ?_
    refine r_iconst (q := 35) (v := (1 : Int32)) C dX1_addPoint_34 (by decide) rfl ?_
    refine r_iadd (q := 36) C dX1_addPoint_35 rfl ?_
    obtain ⟨S15, e16, hf⟩ := m_lt_of hf
    refine pf_X1_18 (q := 39) C dX1_addPoint_36 g1 e16 rfl ?_
    obtain ⟨rfl, rfl⟩ := m_so2 hf
    exact r_vret C F dX1_addPoint_39
def f_X1_begin (Z : m_Z) (S : m_S) (a0 : Nat) (p1 : Int32) (p2 : Int32) : Option (Unit × m_S) := m_gd (m_ok Z a0 1) (m_lt (m_pI S a0 0 p1) (fun S2 => m_lt (m_pI S2 a0 1 p2) (fun S4 => m_lt (m_pI S4 a0 2 (0 : Int32)) (fun S6 => some ((), S6)))))
abbrev rm_X1_begin : Room := { frames := 0, cells := 0, slots := 0, locals := 0 }
theorem hd_X1_begin : yX1_begin.cls = RX1 ∧ yX1_begin.cls ≠ "java/lang/invoke/MethodHandle" ∧ yX1_begin.cls ≠ "java/lang/invoke/VarHandle" ∧ (parseMethodDescriptor yX1_begin.desc).map (fun d => d.parameters.length) = some 2 := by decide +kernel
set_option maxHeartbeats 4000000 in
set_option maxRecDepth 100000 in
theorem c_X1_begin {l : Launch} (hl : l.stackTraces = false) {Z : m_Z} {S : m_S} {a0 : Nat} {p1 : Int32} {p2 : Int32} {rZ9 : Unit} {SZ9 : m_S} (hf : f_X1_begin Z S a0 p1 p2 = some (rZ9, SZ9)) : m_Ct l yX1_begin (.code yX1_begin cX1_begin 3 none :: m_ws) rm_X1_begin (fun f => [.ref a0, .int p1, .int p2]) Z S (none) SZ9 := by
  unfold f_X1_begin at hf
  refine m_ent hl (by decide) (fun _ => Nat.le_of_ble_eq_true rfl) (fun x C F => ?_)
  have C : m_H x l RX1 cX1_begin 3 rm_X1_begin := C
  show m_G x Z S 3 0 0 0 [(0, .ref a0), (1, .int p1), (2, .int p2)] []
  refine r_aload_n (q := 1) C 0 dX1_begin_0 rfl rfl ?_
  refine r_iload_n (q := 2) C 1 dX1_begin_1 rfl rfl ?_
  obtain ⟨g1, hf⟩ := m_gd_of hf
  obtain ⟨S2, e3, hf⟩ := m_lt_of hf
  refine pf_X1_9 (q := 5) C dX1_begin_2 g1 e3 rfl ?_
  refine r_aload_n (q := 6) C 0 dX1_begin_5 rfl rfl ?_
  refine r_iload_n (q := 7) C 2 dX1_begin_6 rfl rfl ?_
  obtain ⟨S4, e5, hf⟩ := m_lt_of hf
  refine pf_X1_15 (q := 10) C dX1_begin_7 g1 e5 rfl ?_
  refine r_aload_n (q := 11) C 0 dX1_begin_10 rfl rfl ?_
  refine r_iconst (q := 12) (v := (0 : Int32)) C dX1_begin_11 (by decide) rfl ?_
  obtain ⟨S6, e7, hf⟩ := m_lt_of hf
  refine pf_X1_18 (q := 15) C dX1_begin_12 g1 e7 rfl ?_
  obtain ⟨rfl, rfl⟩ := m_so2 hf
  exact r_vret C F dX1_begin_15
def f_X1_nextHumidity (Z : m_Z) (S : m_S) (a0 : Nat) : Option (Int32) := m_gd (m_ok Z a0 1) (m_lt ((S.1 a0 2) - (1 : Int32)) (fun v2 => (if v2 < 0 then some (0 : Int32) else (if v2 < (6 : Int32) then m_b1 (S.2.2 a0 3) (fun b6 => m_gd (m_ok Z b6 11) (m_gd (m_in v2 (Z.2.2 b6)) (some ((S.1 b6 v2.toNatClampNeg) + (1 : Int32))))) else some (0 : Int32)))))
abbrev rm_X1_nextHumidity : Room := { frames := 0, cells := 0, slots := 0, locals := 0 }
theorem hd_X1_nextHumidity : yX1_nextHumidity.cls = RX1 ∧ yX1_nextHumidity.cls ≠ "java/lang/invoke/MethodHandle" ∧ yX1_nextHumidity.cls ≠ "java/lang/invoke/VarHandle" ∧ (parseMethodDescriptor yX1_nextHumidity.desc).map (fun d => d.parameters.length) = some 0 := by decide +kernel
set_option maxHeartbeats 4000000 in
set_option maxRecDepth 100000 in
theorem c_X1_nextHumidity {l : Launch} (hl : l.stackTraces = false) {Z : m_Z} {S : m_S} {a0 : Nat} {rZ9 : Int32} (hf : f_X1_nextHumidity Z S a0 = some rZ9) : m_Ct l yX1_nextHumidity (.code yX1_nextHumidity cX1_nextHumidity 2 (some .int) :: m_ws) rm_X1_nextHumidity (fun f => [.ref a0]) Z S (some (.int rZ9)) S := by
  unfold f_X1_nextHumidity at hf
  refine m_ent hl (by decide) (fun _ => Nat.le_of_ble_eq_true rfl) (fun x C F => ?_)
  have C : m_H x l RX1 cX1_nextHumidity 2 rm_X1_nextHumidity := C
  show m_G x Z S 2 0 0 0 [(0, .ref a0)] []
  refine r_aload_n (q := 1) C 0 dX1_nextHumidity_0 rfl rfl ?_
  obtain ⟨g1, hf⟩ := m_gd_of hf
  refine gf_X1_18 (q := 4) C dX1_nextHumidity_1 g1 rfl ?_
  refine r_iconst (q := 5) (v := (1 : Int32)) C dX1_nextHumidity_4 (by decide) rfl ?_
  refine r_isub (q := 6) C dX1_nextHumidity_5 rfl ?_
  obtain ⟨v2, e3, hf⟩ := m_lt_of hf
  refine r_nm e3 ?_
  refine r_istore_n (q := 7) (L' := [(1, .int v2), (0, .ref a0)]) C dX1_nextHumidity_6 rfl rfl (by decide) rfl ?_
  refine r_iload_n (q := 8) C 0 dX1_nextHumidity_7 rfl rfl ?_
  refine r_if_lt (t := 17) (q := 11) C dX1_nextHumidity_8 (by decide) rfl (fun c4 => ?_) (fun c4 => ?_)
  · replace hf := m_if1 hf c4
    refine r_iconst (q := 18) (v := (0 : Int32)) C dX1_nextHumidity_17 (by decide) rfl ?_
    refine r_goto (t := 29) C dX1_nextHumidity_18 (by decide) ?_
    obtain rfl := m_so1 hf
    exact r_iret C F dX1_nextHumidity_29
  · replace hf := m_if0 hf c4
    refine r_iload_n (q := 12) C 0 dX1_nextHumidity_11 rfl rfl ?_
    refine r_bipush (q := 14) (v := (6 : Int32)) C dX1_nextHumidity_12 (by decide) rfl ?_
    refine r_icmp_lt (t := 21) (q := 17) C dX1_nextHumidity_14 (by decide) rfl (fun c5 => ?_) (fun c5 => ?_)
    · replace hf := m_if1 hf c5
      refine r_aload_n (q := 22) C 1 dX1_nextHumidity_21 rfl rfl ?_
      obtain ⟨b6, e7, hf⟩ := m_b1_of hf
      refine gf_X1_21 (q := 25) C dX1_nextHumidity_22 g1 e7 rfl ?_
      refine r_iload_n (q := 26) C 0 dX1_nextHumidity_25 rfl rfl ?_
      obtain ⟨g8, hf⟩ := m_gd_of hf
      obtain ⟨g9, hf⟩ := m_gd_of hf
      refine r_iald (q := 27) C dX1_nextHumidity_26 ⟨g8, g9⟩ rfl ?_
      refine r_iconst (q := 28) (v := (1 : Int32)) C dX1_nextHumidity_27 (by decide) rfl ?_
      refine r_iadd (q := 29) C dX1_nextHumidity_28 rfl ?_
      obtain rfl := m_so1 hf
      exact r_iret C F dX1_nextHumidity_29
    · replace hf := m_if0 hf c5
      refine r_iconst (q := 18) (v := (0 : Int32)) C dX1_nextHumidity_17 (by decide) rfl ?_
      refine r_goto (t := 29) C dX1_nextHumidity_18 (by decide) ?_
      obtain rfl := m_so1 hf
      exact r_iret C F dX1_nextHumidity_29
def f_X2_begin (Z : m_Z) (S : m_S) (a0 : Nat) (p1 : Int32) : Option (Unit × m_S) := m_gd (m_ok Z a0 2) (m_lt (m_pJ S a0 0 p1.toInt64) (fun S2 => m_lt (m_pJ S2 a0 1 (0 : Int64)) (fun S4 => m_lt (m_pJ S4 a0 2 (0 : Int64)) (fun S6 => m_lt (m_pJ S6 a0 3 (0 : Int64)) (fun S8 => m_lt (m_pI S8 a0 4 (0 : Int32)) (fun S10 => m_lt (m_pI S10 a0 5 (-1 : Int32)) (fun S12 => m_lt (m_pI S12 a0 6 (-1 : Int32)) (fun S14 => m_lt (m_pJ S14 a0 7 (0 : Int64)) (fun S16 => some ((), S16))))))))))
abbrev rm_X2_begin : Room := { frames := 0, cells := 0, slots := 0, locals := 0 }
theorem hd_X2_begin : yX2_begin.cls = RX2 ∧ yX2_begin.cls ≠ "java/lang/invoke/MethodHandle" ∧ yX2_begin.cls ≠ "java/lang/invoke/VarHandle" ∧ (parseMethodDescriptor yX2_begin.desc).map (fun d => d.parameters.length) = some 1 := by decide +kernel
set_option maxHeartbeats 4000000 in
set_option maxRecDepth 100000 in
theorem c_X2_begin {l : Launch} (hl : l.stackTraces = false) {Z : m_Z} {S : m_S} {a0 : Nat} {p1 : Int32} {rZ9 : Unit} {SZ9 : m_S} (hf : f_X2_begin Z S a0 p1 = some (rZ9, SZ9)) : m_Ct l yX2_begin (.code yX2_begin cX2_begin 2 none :: m_ws) rm_X2_begin (fun f => [.ref a0, .int p1]) Z S (none) SZ9 := by
  unfold f_X2_begin at hf
  refine m_ent hl (by decide) (fun _ => Nat.le_of_ble_eq_true rfl) (fun x C F => ?_)
  have C : m_H x l RX2 cX2_begin 2 rm_X2_begin := C
  show m_G x Z S 2 0 0 0 [(0, .ref a0), (1, .int p1)] []
  refine r_aload_n (q := 1) C 0 dX2_begin_0 rfl rfl ?_
  refine r_iload_n (q := 2) C 1 dX2_begin_1 rfl rfl ?_
  refine r_i2l (q := 3) C dX2_begin_2 rfl ?_
  obtain ⟨g1, hf⟩ := m_gd_of hf
  obtain ⟨S2, e3, hf⟩ := m_lt_of hf
  refine pf_X2_9 (q := 6) C dX2_begin_3 g1 e3 rfl ?_
  refine r_aload_n (q := 7) C 0 dX2_begin_6 rfl rfl ?_
  refine r_lconst (q := 8) (v := (0 : Int64)) C dX2_begin_7 (by decide) rfl ?_
  obtain ⟨S4, e5, hf⟩ := m_lt_of hf
  refine pf_X2_15 (q := 11) C dX2_begin_8 g1 e5 rfl ?_
  refine r_aload_n (q := 12) C 0 dX2_begin_11 rfl rfl ?_
  refine r_lconst (q := 13) (v := (0 : Int64)) C dX2_begin_12 (by decide) rfl ?_
  obtain ⟨S6, e7, hf⟩ := m_lt_of hf
  refine pf_X2_18 (q := 16) C dX2_begin_13 g1 e7 rfl ?_
  refine r_aload_n (q := 17) C 0 dX2_begin_16 rfl rfl ?_
  refine r_lconst (q := 18) (v := (0 : Int64)) C dX2_begin_17 (by decide) rfl ?_
  obtain ⟨S8, e9, hf⟩ := m_lt_of hf
  refine pf_X2_21 (q := 21) C dX2_begin_18 g1 e9 rfl ?_
  refine r_aload_n (q := 22) C 0 dX2_begin_21 rfl rfl ?_
  refine r_iconst (q := 23) (v := (0 : Int32)) C dX2_begin_22 (by decide) rfl ?_
  obtain ⟨S10, e11, hf⟩ := m_lt_of hf
  refine pf_X2_24 (q := 26) C dX2_begin_23 g1 e11 rfl ?_
  refine r_aload_n (q := 27) C 0 dX2_begin_26 rfl rfl ?_
  refine r_iconst (q := 28) (v := (-1 : Int32)) C dX2_begin_27 (by decide) rfl ?_
  obtain ⟨S12, e13, hf⟩ := m_lt_of hf
  refine pf_X2_28 (q := 31) C dX2_begin_28 g1 e13 rfl ?_
  refine r_aload_n (q := 32) C 0 dX2_begin_31 rfl rfl ?_
  refine r_iconst (q := 33) (v := (-1 : Int32)) C dX2_begin_32 (by decide) rfl ?_
  obtain ⟨S14, e15, hf⟩ := m_lt_of hf
  refine pf_X2_31 (q := 36) C dX2_begin_33 g1 e15 rfl ?_
  refine r_aload_n (q := 37) C 0 dX2_begin_36 rfl rfl ?_
  refine r_lconst (q := 38) (v := (0 : Int64)) C dX2_begin_37 (by decide) rfl ?_
  obtain ⟨S16, e17, hf⟩ := m_lt_of hf
  refine pf_X2_34 (q := 41) C dX2_begin_38 g1 e17 rfl ?_
  obtain ⟨rfl, rfl⟩ := m_so2 hf
  exact r_vret C F dX2_begin_41
def f_X2_copyFrom (Z : m_Z) (S : m_S) (a0 : Nat) (p1 : Nat) : Option (Unit × m_S) := m_gd (m_ok Z p1 2) (m_gd (m_ok Z a0 2) (m_lt (m_pJ S a0 0 (S.2.1 p1 0)) (fun S3 => m_lt (m_pJ S3 a0 1 (S3.2.1 p1 1)) (fun S5 => m_lt (m_pJ S5 a0 2 (S5.2.1 p1 2)) (fun S7 => m_lt (m_pJ S7 a0 3 (S7.2.1 p1 3)) (fun S9 => m_lt (m_pI S9 a0 4 (S9.1 p1 4)) (fun S11 => m_lt (m_pI S11 a0 5 (S11.1 p1 5)) (fun S13 => m_lt (m_pI S13 a0 6 (S13.1 p1 6)) (fun S15 => m_lt (m_pJ S15 a0 7 (S15.2.1 p1 7)) (fun S17 => m_b1 (S17.2.2 p1 8) (fun b19 => m_b1 (S17.2.2 a0 8) (fun b21 => m_gd (m_ok Z b19 11) (m_gd (m_ok Z b21 11) (m_gd (((¬ (0 : Int32) < 0) ∧ ¬ (0 : Int32) < 0) ∧ (¬ (24 : Int32) < 0) ∧ (0 : Int32).toNatClampNeg + (24 : Int32).toNatClampNeg ≤ Z.2.2 b19 ∧ (0 : Int32).toNatClampNeg + (24 : Int32).toNatClampNeg ≤ Z.2.2 b21) (m_lt (m_cp S17 b19 (0 : Int32).toNatClampNeg b21 (0 : Int32).toNatClampNeg (24 : Int32).toNatClampNeg) (fun S26 => some ((), S26)))))))))))))))))
abbrev rm_X2_copyFrom : Room := { frames := 1, cells := 0, slots := 0, locals := 40 }
theorem hd_X2_copyFrom : yX2_copyFrom.cls = RX2 ∧ yX2_copyFrom.cls ≠ "java/lang/invoke/MethodHandle" ∧ yX2_copyFrom.cls ≠ "java/lang/invoke/VarHandle" ∧ (parseMethodDescriptor yX2_copyFrom.desc).map (fun d => d.parameters.length) = some 1 := by decide +kernel
set_option maxHeartbeats 4000000 in
set_option maxRecDepth 100000 in
theorem c_X2_copyFrom {l : Launch} (hl : l.stackTraces = false) {Z : m_Z} {S : m_S} {a0 : Nat} {p1 : Nat} {rZ9 : Unit} {SZ9 : m_S} (hf : f_X2_copyFrom Z S a0 p1 = some (rZ9, SZ9)) : m_Ct l yX2_copyFrom (.code yX2_copyFrom cX2_copyFrom 2 none :: m_ws) rm_X2_copyFrom (fun f => [.ref a0, .ref p1]) Z S (none) SZ9 := by
  unfold f_X2_copyFrom at hf
  refine m_ent hl (by decide) (fun _ => Nat.le_of_ble_eq_true rfl) (fun x C F => ?_)
  have C : m_H x l RX2 cX2_copyFrom 2 rm_X2_copyFrom := C
  show m_G x Z S 2 0 0 0 [(0, .ref a0), (1, .ref p1)] []
  refine r_aload_n (q := 1) C 0 dX2_copyFrom_0 rfl rfl ?_
  refine r_aload_n (q := 2) C 1 dX2_copyFrom_1 rfl rfl ?_
  obtain ⟨g1, hf⟩ := m_gd_of hf
  refine gf_X2_9 (q := 5) C dX2_copyFrom_2 g1 rfl ?_
  obtain ⟨g2, hf⟩ := m_gd_of hf
  obtain ⟨S3, e4, hf⟩ := m_lt_of hf
  refine pf_X2_9 (q := 8) C dX2_copyFrom_5 g2 e4 rfl ?_
  refine r_aload_n (q := 9) C 0 dX2_copyFrom_8 rfl rfl ?_
  refine r_aload_n (q := 10) C 1 dX2_copyFrom_9 rfl rfl ?_
  refine gf_X2_15 (q := 13) C dX2_copyFrom_10 g1 rfl ?_
  obtain ⟨S5, e6, hf⟩ := m_lt_of hf
  refine pf_X2_15 (q := 16) C dX2_copyFrom_13 g2 e6 rfl ?_
  refine r_aload_n (q := 17) C 0 dX2_copyFrom_16 rfl rfl ?_
  refine r_aload_n (q := 18) C 1 dX2_copyFrom_17 rfl rfl ?_
  refine gf_X2_18 (q := 21) C dX2_copyFrom_18 g1 rfl ?_
  obtain ⟨S7, e8, hf⟩ := m_lt_of hf
  refine pf_X2_18 (q := 24) C dX2_copyFrom_21 g2 e8 rfl ?_
  refine r_aload_n (q := 25) C 0 dX2_copyFrom_24 rfl rfl ?_
  refine r_aload_n (q := 26) C 1 dX2_copyFrom_25 rfl rfl ?_
  refine gf_X2_21 (q := 29) C dX2_copyFrom_26 g1 rfl ?_
  obtain ⟨S9, e10, hf⟩ := m_lt_of hf
  refine pf_X2_21 (q := 32) C dX2_copyFrom_29 g2 e10 rfl ?_
  refine r_aload_n (q := 33) C 0 dX2_copyFrom_32 rfl rfl ?_
  refine r_aload_n (q := 34) C 1 dX2_copyFrom_33 rfl rfl ?_
  refine gf_X2_24 (q := 37) C dX2_copyFrom_34 g1 rfl ?_
  obtain ⟨S11, e12, hf⟩ := m_lt_of hf
  refine pf_X2_24 (q := 40) C dX2_copyFrom_37 g2 e12 rfl ?_
  refine r_aload_n (q := 41) C 0 dX2_copyFrom_40 rfl rfl ?_
  refine r_aload_n (q := 42) C 1 dX2_copyFrom_41 rfl rfl ?_
  refine gf_X2_28 (q := 45) C dX2_copyFrom_42 g1 rfl ?_
  obtain ⟨S13, e14, hf⟩ := m_lt_of hf
  refine pf_X2_28 (q := 48) C dX2_copyFrom_45 g2 e14 rfl ?_
  refine r_aload_n (q := 49) C 0 dX2_copyFrom_48 rfl rfl ?_
  refine r_aload_n (q := 50) C 1 dX2_copyFrom_49 rfl rfl ?_
  refine gf_X2_31 (q := 53) C dX2_copyFrom_50 g1 rfl ?_
  obtain ⟨S15, e16, hf⟩ := m_lt_of hf
  refine pf_X2_31 (q := 56) C dX2_copyFrom_53 g2 e16 rfl ?_
  refine r_aload_n (q := 57) C 0 dX2_copyFrom_56 rfl rfl ?_
  refine r_aload_n (q := 58) C 1 dX2_copyFrom_57 rfl rfl ?_
  refine gf_X2_34 (q := 61) C dX2_copyFrom_58 g1 rfl ?_
  obtain ⟨S17, e18, hf⟩ := m_lt_of hf
  refine pf_X2_34 (q := 64) C dX2_copyFrom_61 g2 e18 rfl ?_
  refine r_aload_n (q := 65) C 1 dX2_copyFrom_64 rfl rfl ?_
  obtain ⟨b19, e20, hf⟩ := m_b1_of hf
  refine gf_X2_37 (q := 68) C dX2_copyFrom_65 g1 e20 rfl ?_
  refine r_iconst (q := 69) (v := (0 : Int32)) C dX2_copyFrom_68 (by decide) rfl ?_
  refine r_aload_n (q := 70) C 0 dX2_copyFrom_69 rfl rfl ?_
  obtain ⟨b21, e22, hf⟩ := m_b1_of hf
  refine gf_X2_37 (q := 73) C dX2_copyFrom_70 g2 e22 rfl ?_
  refine r_iconst (q := 74) (v := (0 : Int32)) C dX2_copyFrom_73 (by decide) rfl ?_
  refine r_bipush (q := 76) (v := (24 : Int32)) C dX2_copyFrom_74 (by decide) rfl ?_
  obtain ⟨g23, hf⟩ := m_gd_of hf
  obtain ⟨g24, hf⟩ := m_gd_of hf
  obtain ⟨g25, hf⟩ := m_gd_of hf
  obtain ⟨S26, e27, hf⟩ := m_lt_of hf
  refine r_acopy (q := 79) C w_915 w_917 w_916 w_23 (by decide) (by decide) dX2_copyFrom_76 g23 g24 g25 rfl ?_
  rw [← e27]
  obtain ⟨rfl, rfl⟩ := m_so2 hf
  exact r_vret C F dX2_copyFrom_79
def f_X2_note (Z : m_Z) (S : m_S) (a0 : Nat) (p1 : Int32) (p2 : Int32) (p3 : Int32) : Option (Unit × m_S) := m_jp (fun (S2 : m_S) => m_gd (m_ok Z a0 2) (m_lt (m_pJ S2 a0 7 ((S2.2.1 a0 7) + p2.toInt64)) (fun S4 => m_jp (fun (v7 : Int32) => m_lt (m_pI S4 a0 5 v7) (fun S8 => m_jp (fun (v11 : Int32) => m_lt (m_pI S8 a0 6 v11) (fun S12 => (if p3 = 0 then m_lt (m_pI S12 a0 4 ((S12.1 a0 4) + (0 : Int32))) (fun S15 => some ((), S15)) else m_lt (m_pI S12 a0 4 ((S12.1 a0 4) + (1 : Int32))) (fun S17 => some ((), S17))))) (fun j10 => (if p2 ≤ (S8.1 a0 6) then j10 (S8.1 a0 6) else j10 p2)))) (fun j6 => m_jp (fun (_ : Unit) => j6 p2) (fun j20 => (if (S4.1 a0 5) = (-1 : Int32) then j20 () else (if (S4.1 a0 5) ≤ p2 then j6 (S4.1 a0 5) else j20 ()))))))) (fun j1 => (if p1 < 0 then j1 S else m_gd (m_ok Z a0 2) (m_b1 (S.2.2 a0 8) (fun b25 => m_gd (m_ok Z b25 11) (m_gd (m_in (p1 - p1 / (24 : Int32) * (24 : Int32)) (Z.2.2 b25)) (m_lt (m_pI S b25 (p1 - p1 / (24 : Int32) * (24 : Int32)).toNatClampNeg p2) (fun S29 => j1 S29)))))))
abbrev rm_X2_note : Room := { frames := 0, cells := 0, slots := 0, locals := 0 }
theorem hd_X2_note : yX2_note.cls = RX2 ∧ yX2_note.cls ≠ "java/lang/invoke/MethodHandle" ∧ yX2_note.cls ≠ "java/lang/invoke/VarHandle" ∧ (parseMethodDescriptor yX2_note.desc).map (fun d => d.parameters.length) = some 3 := by decide +kernel
set_option maxHeartbeats 4000000 in
set_option maxRecDepth 100000 in
theorem c_X2_note {l : Launch} (hl : l.stackTraces = false) {Z : m_Z} {S : m_S} {a0 : Nat} {p1 : Int32} {p2 : Int32} {p3 : Int32} {rZ9 : Unit} {SZ9 : m_S} (hf : f_X2_note Z S a0 p1 p2 p3 = some (rZ9, SZ9)) : m_Ct l yX2_note (.code yX2_note cX2_note 4 none :: m_ws) rm_X2_note (fun f => [.ref a0, .int p1, .int p2, .int p3]) Z S (none) SZ9 := by
  unfold f_X2_note at hf
  refine m_ent hl (by decide) (fun _ => Nat.le_of_ble_eq_true rfl) (fun x C F => ?_)
  have C : m_H x l RX2 cX2_note 4 rm_X2_note := C
  show m_G x Z S 4 0 0 0 [(0, .ref a0), (1, .int p1), (2, .int p2), (3, .int p3)] []
  refine r_iload_n (q := 1) C 1 dX2_note_0 rfl rfl ?_
  obtain ⟨j1, ej1, hf⟩ := m_jp_of hf
  have J1 : ∀ (S2 : m_S), j1 S2 = some (rZ9, SZ9) → m_G x Z S2 4 0 0 14 [(0, .ref a0), (2, .int p2), (3, .int p3)] [] := by
    intro S2 hf
    rw [ej1] at hf
    refine r_aload_n (q := 15) C 0 dX2_note_14 rfl rfl ?_
    refine r_dup (q := 16) C dX2_note_15 rfl rfl ?_
    obtain ⟨g3, hf⟩ := m_gd_of hf
    refine gf_X2_34 (q := 19) C dX2_note_16 g3 rfl ?_
    refine r_iload_n (q := 20) C 1 dX2_note_19 rfl rfl ?_
    refine r_i2l (q := 21) C dX2_note_20 rfl ?_
    refine r_ladd (q := 22) C dX2_note_21 rfl ?_
    obtain ⟨S4, e5, hf⟩ := m_lt_of hf
    refine pf_X2_34 (q := 25) C dX2_note_22 g3 e5 rfl ?_
    refine r_aload_n (q := 26) C 0 dX2_note_25 rfl rfl ?_
    refine r_aload_n (q := 27) C 0 dX2_note_26 rfl rfl ?_
    refine gf_X2_28 (q := 30) C dX2_note_27 g3 rfl ?_
    refine r_iconst (q := 31) (v := (-1 : Int32)) C dX2_note_30 (by decide) rfl ?_
    obtain ⟨j6, ej6, hf⟩ := m_jp_of hf
    have J6 : ∀ (v7 : Int32), j6 v7 = some (rZ9, SZ9) → m_G x Z S4 4 0 0 50 [(0, .ref a0), (2, .int p2), (3, .int p3)] [.int v7, .ref a0] := by
      intro v7 hf
      rw [ej6] at hf
      obtain ⟨S8, e9, hf⟩ := m_lt_of hf
      refine pf_X2_28 (q := 53) C dX2_note_50 g3 e9 rfl ?_
      refine r_aload_n (q := 54) C 0 dX2_note_53 rfl rfl ?_
      refine r_iload_n (q := 55) C 1 dX2_note_54 rfl rfl ?_
      refine r_aload_n (q := 56) C 0 dX2_note_55 rfl rfl ?_
      refine gf_X2_31 (q := 59) C dX2_note_56 g3 rfl ?_
      obtain ⟨j10, ej10, hf⟩ := m_jp_of hf
      have J10 : ∀ (v11 : Int32), j10 v11 = some (rZ9, SZ9) → m_G x Z S8 4 0 0 70 [(0, .ref a0), (3, .int p3)] [.int v11, .ref a0] := by
        intro v11 hf
        rw [ej10] at hf
        obtain ⟨S12, e13, hf⟩ := m_lt_of hf
        refine pf_X2_31 (q := 73) C dX2_note_70 g3 e13 rfl ?_
        refine r_aload_n (q := 74) C 0 dX2_note_73 rfl rfl ?_
        refine r_dup (q := 75) C dX2_note_74 rfl rfl ?_
        refine gf_X2_24 (q := 78) C dX2_note_75 g3 rfl ?_
        refine r_iload_n (q := 79) C 1 dX2_note_78 rfl rfl ?_
        refine r_if_eq (t := 86) (q := 82) C dX2_note_79 (by decide) rfl (fun c14 => ?_) (fun c14 => ?_)
        · replace hf := m_if1 hf c14
          refine r_iconst (q := 87) (v := (0 : Int32)) C dX2_note_86 (by decide) rfl ?_
          refine r_iadd (q := 88) C dX2_note_87 rfl ?_
          obtain ⟨S15, e16, hf⟩ := m_lt_of hf
          refine pf_X2_24 (q := 91) C dX2_note_88 g3 e16 rfl ?_
          obtain ⟨rfl, rfl⟩ := m_so2 hf
          exact r_vret C F dX2_note_91
        · replace hf := m_if0 hf c14
          refine r_iconst (q := 83) (v := (1 : Int32)) C dX2_note_82 (by decide) rfl ?_
          refine r_goto (t := 87) C dX2_note_83 (by decide) ?_
          refine r_iadd (q := 88) C dX2_note_87 rfl ?_
          obtain ⟨S17, e18, hf⟩ := m_lt_of hf
          refine pf_X2_24 (q := 91) C dX2_note_88 g3 e18 rfl ?_
          obtain ⟨rfl, rfl⟩ := m_so2 hf
          exact r_vret C F dX2_note_91
      refine r_icmp_le (t := 66) (q := 62) C dX2_note_59 (by decide) rfl (fun c19 => ?_) (fun c19 => ?_)
      · replace hf := m_if1 hf c19
        refine r_aload_n (q := 67) C 0 dX2_note_66 rfl rfl ?_
        refine gf_X2_31 (q := 70) C dX2_note_67 g3 rfl ?_
        refine r_sub [0, 2] rfl ?_
        exact J10 (S8.1 a0 6) hf
      · replace hf := m_if0 hf c19
        refine r_iload_n (q := 63) C 1 dX2_note_62 rfl rfl ?_
        refine r_goto (t := 70) C dX2_note_63 (by decide) ?_
        refine r_sub [0, 2] rfl ?_
        exact J10 p2 hf
    obtain ⟨j20, ej20, hf⟩ := m_jp_of hf
    have J20 : ∀ (_ : Unit), j20 () = some (rZ9, SZ9) → m_G x Z S4 4 0 0 42 [(0, .ref a0), (2, .int p2), (3, .int p3)] [.ref a0] := by
      intro _ hf
      rw [ej20] at hf
      refine r_iload_n (q := 43) C 1 dX2_note_42 rfl rfl ?_
      refine r_goto (t := 50) C dX2_note_43 (by decide) ?_
      exact J6 p2 hf
    refine r_icmp_eq (t := 42) (q := 34) C dX2_note_31 (by decide) rfl (fun c21 => ?_) (fun c21 => ?_)
    · replace hf := m_if1 hf c21
      exact J20 ()  hf
    · replace hf := m_if0 hf c21
      refine r_iload_n (q := 35) C 1 dX2_note_34 rfl rfl ?_
      refine r_aload_n (q := 36) C 0 dX2_note_35 rfl rfl ?_
      refine gf_X2_28 (q := 39) C dX2_note_36 g3 rfl ?_
      refine r_icmp_ge (t := 46) (q := 42) C dX2_note_39 (by decide) rfl (fun c22 => ?_) (fun c22 => ?_)
      · replace hf := m_if1 hf c22
        refine r_aload_n (q := 47) C 0 dX2_note_46 rfl rfl ?_
        refine gf_X2_28 (q := 50) C dX2_note_47 g3 rfl ?_
        exact J6 (S4.1 a0 5) hf
      · replace hf := m_if0 hf c22
        exact J20 ()  hf
  refine r_if_lt (t := 14) (q := 4) C dX2_note_1 (by decide) rfl (fun c23 => ?_) (fun c23 => ?_)
  · replace hf := m_if1 hf c23
    refine r_sub [0, 2, 3] rfl ?_
    exact J1 S hf
  · replace hf := m_if0 hf c23
    refine r_aload_n (q := 5) C 0 dX2_note_4 rfl rfl ?_
    obtain ⟨g24, hf⟩ := m_gd_of hf
    obtain ⟨b25, e26, hf⟩ := m_b1_of hf
    refine gf_X2_37 (q := 8) C dX2_note_5 g24 e26 rfl ?_
    refine r_iload_n (q := 9) C 1 dX2_note_8 rfl rfl ?_
    refine r_bipush (q := 11) (v := (24 : Int32)) C dX2_note_9 (by decide) rfl ?_
    refine r_irem (q := 12) C dX2_note_11 (by decide) rfl ?_
    refine r_iload_n (q := 13) C 2 dX2_note_12 rfl rfl ?_
    obtain ⟨g27, hf⟩ := m_gd_of hf
    obtain ⟨g28, hf⟩ := m_gd_of hf
    obtain ⟨S29, e30, hf⟩ := m_lt_of hf
    refine r_iast (q := 14) C dX2_note_13 ⟨g27, g28⟩ rfl ?_
    rw [← e30]
    refine r_sub [0, 2, 3] rfl ?_
    exact J1 S29 hf
def f_X2_recordOf (Z : m_Z) (S : m_S) (a0 : Nat) (p1 : Int32) : Option (Int32) := (if 0 ≤ p1 then m_gd (m_ok Z a0 2) (m_b1 (S.2.2 a0 8) (fun b3 => m_gd (m_ok Z b3 11) (m_lt (p1 - p1 / (24 : Int32) * (24 : Int32)) (fun v6 => m_gd (m_in v6 (Z.2.2 b3)) (some (S.1 b3 v6.toNatClampNeg)))))) else some (-1 : Int32))
abbrev rm_X2_recordOf : Room := { frames := 0, cells := 0, slots := 0, locals := 0 }
theorem hd_X2_recordOf : yX2_recordOf.cls = RX2 ∧ yX2_recordOf.cls ≠ "java/lang/invoke/MethodHandle" ∧ yX2_recordOf.cls ≠ "java/lang/invoke/VarHandle" ∧ (parseMethodDescriptor yX2_recordOf.desc).map (fun d => d.parameters.length) = some 1 := by decide +kernel
set_option maxHeartbeats 4000000 in
set_option maxRecDepth 100000 in
theorem c_X2_recordOf {l : Launch} (hl : l.stackTraces = false) {Z : m_Z} {S : m_S} {a0 : Nat} {p1 : Int32} {rZ9 : Int32} (hf : f_X2_recordOf Z S a0 p1 = some rZ9) : m_Ct l yX2_recordOf (.code yX2_recordOf cX2_recordOf 2 (some .int) :: m_ws) rm_X2_recordOf (fun f => [.ref a0, .int p1]) Z S (some (.int rZ9)) S := by
  unfold f_X2_recordOf at hf
  refine m_ent hl (by decide) (fun _ => Nat.le_of_ble_eq_true rfl) (fun x C F => ?_)
  have C : m_H x l RX2 cX2_recordOf 2 rm_X2_recordOf := C
  show m_G x Z S 2 0 0 0 [(0, .ref a0), (1, .int p1)] []
  refine r_iload_n (q := 1) C 1 dX2_recordOf_0 rfl rfl ?_
  refine r_if_ge (t := 8) (q := 4) C dX2_recordOf_1 (by decide) rfl (fun c1 => ?_) (fun c1 => ?_)
  · replace hf := m_if1 hf c1
    refine r_aload_n (q := 9) C 0 dX2_recordOf_8 rfl rfl ?_
    obtain ⟨g2, hf⟩ := m_gd_of hf
    obtain ⟨b3, e4, hf⟩ := m_b1_of hf
    refine gf_X2_37 (q := 12) C dX2_recordOf_9 g2 e4 rfl ?_
    refine r_iload_n (q := 13) C 1 dX2_recordOf_12 rfl rfl ?_
    refine r_bipush (q := 15) (v := (24 : Int32)) C dX2_recordOf_13 (by decide) rfl ?_
    refine r_irem (q := 16) C dX2_recordOf_15 (by decide) rfl ?_
    obtain ⟨g5, hf⟩ := m_gd_of hf
    obtain ⟨v6, e7, hf⟩ := m_lt_of hf
    refine r_nm e7 ?_
    obtain ⟨g8, hf⟩ := m_gd_of hf
    refine r_iald (q := 17) C dX2_recordOf_16 ⟨g5, g8⟩ rfl ?_
    obtain rfl := m_so1 hf
    exact r_iret C F dX2_recordOf_17
  · replace hf := m_if0 hf c1
    refine r_iconst (q := 5) (v := (-1 : Int32)) C dX2_recordOf_4 (by decide) rfl ?_
    refine r_goto (t := 17) C dX2_recordOf_5 (by decide) ?_
    obtain rfl := m_so1 hf
    exact r_iret C F dX2_recordOf_17
def F_X2_swingAt_17 (Z : m_Z) (S : m_S) (a0 : Nat) (p1 : Int32) (j9 : (Int32 → Int32 → Option (Int32))) (lp13 : (Int32 × Int32 × Int32) → Option (Int32)) (p37 : (Int32 × Int32 × Int32)) : Option (Int32) := match p37 with
  | (v10, v11, v12) => (if p1 ≤ v12 then j9 v10 v11 else m_b1 (S.2.2 a0 8) (fun b18 => m_gd (m_ok Z b18 11) ((if (Int32.ofNat (Z.2.2 b18)) ≤ v12 then j9 v10 v11 else m_gd (m_in v12 (Z.2.2 b18)) (m_jp (fun (v24 : Int32) => m_b1 (S.2.2 a0 8) (fun b25 => m_gd (m_ok Z b25 11) (m_gd (m_in v12 (Z.2.2 b25)) ((if (S.1 b25 v12.toNatClampNeg) ≤ v11 then m_lt (v12 + (1 : Int32)) (fun v30 => lp13 (v24, v11, v30)) else m_gd (m_in v12 (Z.2.2 b25)) (m_lt (v12 + (1 : Int32)) (fun v33 => lp13 (v24, (S.1 b25 v12.toNatClampNeg), v33)))))))) (fun j23 => (if v10 ≤ (S.1 b18 v12.toNatClampNeg) then j23 v10 else m_gd (m_in v12 (Z.2.2 b18)) (j23 (S.1 b18 v12.toNatClampNeg)))))))))
def f_X2_swingAt (Z : m_Z) (S : m_S) (a0 : Nat) (p1 : Int32) : Option (Int32) := m_gd (m_ok Z a0 2) (m_b1 (S.2.2 a0 8) (fun b2 => m_gd (m_ok Z b2 11) (m_gd (m_in (0 : Int32) (Z.2.2 b2)) (m_gd (m_in (0 : Int32) (Z.2.2 b2)) (m_jp (fun (v7 : Int32) (v8 : Int32) => some (v8 - v7)) (fun j9 => m_fx (F_X2_swingAt_17 Z S a0 p1 j9) 100000 ((S.1 b2 (0 : Int32).toNatClampNeg), (S.1 b2 (0 : Int32).toNatClampNeg), (1 : Int32))))))))
abbrev rm_X2_swingAt : Room := { frames := 0, cells := 0, slots := 0, locals := 0 }
theorem hd_X2_swingAt : yX2_swingAt.cls = RX2 ∧ yX2_swingAt.cls ≠ "java/lang/invoke/MethodHandle" ∧ yX2_swingAt.cls ≠ "java/lang/invoke/VarHandle" ∧ (parseMethodDescriptor yX2_swingAt.desc).map (fun d => d.parameters.length) = some 1 := by decide +kernel
set_option maxHeartbeats 4000000 in
set_option maxRecDepth 100000 in
theorem c_X2_swingAt {l : Launch} (hl : l.stackTraces = false) {Z : m_Z} {S : m_S} {a0 : Nat} {p1 : Int32} {rZ9 : Int32} (hf : f_X2_swingAt Z S a0 p1 = some rZ9) : m_Ct l yX2_swingAt (.code yX2_swingAt cX2_swingAt 5 (some .int) :: m_ws) rm_X2_swingAt (fun f => [.ref a0, .int p1]) Z S (some (.int rZ9)) S := by
  unfold f_X2_swingAt at hf
  refine m_ent hl (by decide) (fun _ => Nat.le_of_ble_eq_true rfl) (fun x C F => ?_)
  have C : m_H x l RX2 cX2_swingAt 5 rm_X2_swingAt := C
  show m_G x Z S 5 0 0 0 [(0, .ref a0), (1, .int p1)] []
  refine r_aload_n (q := 1) C 0 dX2_swingAt_0 rfl rfl ?_
  obtain ⟨g1, hf⟩ := m_gd_of hf
  obtain ⟨b2, e3, hf⟩ := m_b1_of hf
  refine gf_X2_37 (q := 4) C dX2_swingAt_1 g1 e3 rfl ?_
  refine r_iconst (q := 5) (v := (0 : Int32)) C dX2_swingAt_4 (by decide) rfl ?_
  obtain ⟨g4, hf⟩ := m_gd_of hf
  obtain ⟨g5, hf⟩ := m_gd_of hf
  refine r_iald (q := 6) C dX2_swingAt_5 ⟨g4, g5⟩ rfl ?_
  refine r_istore_n (q := 7) (L' := [(2, .int (S.1 b2 (0 : Int32).toNatClampNeg)), (0, .ref a0), (1, .int p1)]) C dX2_swingAt_6 rfl rfl (by decide) rfl ?_
  refine r_aload_n (q := 8) C 1 dX2_swingAt_7 rfl rfl ?_
  refine gf_X2_37 (q := 11) C dX2_swingAt_8 g1 e3 rfl ?_
  refine r_iconst (q := 12) (v := (0 : Int32)) C dX2_swingAt_11 (by decide) rfl ?_
  obtain ⟨g6, hf⟩ := m_gd_of hf
  refine r_iald (q := 13) C dX2_swingAt_12 ⟨g4, g6⟩ rfl ?_
  refine r_istore_n (q := 14) (L' := [(3, .int (S.1 b2 (0 : Int32).toNatClampNeg)), (2, .int (S.1 b2 (0 : Int32).toNatClampNeg)), (0, .ref a0), (1, .int p1)]) C dX2_swingAt_13 rfl rfl (by decide) rfl ?_
  refine r_iconst (q := 15) (v := (1 : Int32)) C dX2_swingAt_14 (by decide) rfl ?_
  refine r_istore (q := 17) (L' := [(4, .int (1 : Int32)), (3, .int (S.1 b2 (0 : Int32).toNatClampNeg)), (2, .int (S.1 b2 (0 : Int32).toNatClampNeg)), (0, .ref a0), (1, .int p1)]) C dX2_swingAt_15 rfl (by decide) rfl ?_
  obtain ⟨j9, ej9, hf⟩ := m_jp_of hf
  have J9 : ∀ (v7 : Int32) (v8 : Int32), j9 v7 v8 = some rZ9 → m_G x Z S 5 0 0 85 [(2, .int v7), (3, .int v8)] [] := by
    intro v7 v8 hf
    rw [ej9] at hf
    refine r_iload_n (q := 86) C 1 dX2_swingAt_85 rfl rfl ?_
    refine r_iload_n (q := 87) C 0 dX2_swingAt_86 rfl rfl ?_
    refine r_isub (q := 88) C dX2_swingAt_87 rfl ?_
    obtain rfl := m_so1 hf
    exact r_iret C F dX2_swingAt_88
  have LL16 : ∀ (fu15 : Nat) (v10 : Int32) (v11 : Int32) (v12 : Int32), m_fx (F_X2_swingAt_17 Z S a0 p1 j9) fu15 (v10, v11, v12) = some rZ9 → m_G x Z S 5 0 0 17 [(0, .ref a0), (1, .int p1), (2, .int v10), (3, .int v11), (4, .int v12)] [] := by
    intro fu15
    induction fu15 with
    | zero => intros; rename_i hf; cases hf
    | succ fu15 ih14 =>
      intro v10 v11 v12 hf
      replace hf : F_X2_swingAt_17 Z S a0 p1 j9 (m_fx (F_X2_swingAt_17 Z S a0 p1 j9) fu15) (v10, v11, v12) = some rZ9 := hf
      unfold F_X2_swingAt_17 at hf
      dsimp only at hf
      refine r_iload (q := 19) C 4 dX2_swingAt_17 rfl rfl ?_
      refine r_iload_n (q := 20) C 1 dX2_swingAt_19 rfl rfl ?_
      refine r_icmp_ge (t := 85) (q := 23) C dX2_swingAt_20 (by decide) rfl (fun c17 => ?_) (fun c17 => ?_)
      · replace hf := m_if1 hf c17
        refine r_sub [2, 3] rfl ?_
        exact J9 v10 v11 hf
      · replace hf := m_if0 hf c17
        refine r_iload (q := 25) C 4 dX2_swingAt_23 rfl rfl ?_
        refine r_aload_n (q := 26) C 0 dX2_swingAt_25 rfl rfl ?_
        obtain ⟨b18, e19, hf⟩ := m_b1_of hf
        refine gf_X2_37 (q := 29) C dX2_swingAt_26 g1 e19 rfl ?_
        obtain ⟨g20, hf⟩ := m_gd_of hf
        refine r_alen (q := 30) 11 1 C dX2_swingAt_29 g20 (by decide) rfl rfl ?_
        refine r_icmp_ge (t := 85) (q := 33) C dX2_swingAt_30 (by decide) rfl (fun c21 => ?_) (fun c21 => ?_)
        · replace hf := m_if1 hf c21
          refine r_sub [2, 3] rfl ?_
          exact J9 v10 v11 hf
        · replace hf := m_if0 hf c21
          refine r_aload_n (q := 34) C 0 dX2_swingAt_33 rfl rfl ?_
          refine gf_X2_37 (q := 37) C dX2_swingAt_34 g1 e19 rfl ?_
          refine r_iload (q := 39) C 4 dX2_swingAt_37 rfl rfl ?_
          obtain ⟨g22, hf⟩ := m_gd_of hf
          refine r_iald (q := 40) C dX2_swingAt_39 ⟨g20, g22⟩ rfl ?_
          refine r_iload_n (q := 41) C 2 dX2_swingAt_40 rfl rfl ?_
          obtain ⟨j23, ej23, hf⟩ := m_jp_of hf
          have J23 : ∀ (v24 : Int32), j23 v24 = some rZ9 → m_G x Z S 5 0 0 55 [(0, .ref a0), (1, .int p1), (3, .int v11), (4, .int v12)] [.int v24] := by
            intro v24 hf
            rw [ej23] at hf
            refine r_istore_n (q := 56) (L' := [(2, .int v24), (0, .ref a0), (1, .int p1), (3, .int v11), (4, .int v12)]) C dX2_swingAt_55 rfl rfl (by decide) rfl ?_
            refine r_aload_n (q := 57) C 1 dX2_swingAt_56 rfl rfl ?_
            obtain ⟨b25, e26, hf⟩ := m_b1_of hf
            refine gf_X2_37 (q := 60) C dX2_swingAt_57 g1 e26 rfl ?_
            refine r_iload (q := 62) C 4 dX2_swingAt_60 rfl rfl ?_
            obtain ⟨g27, hf⟩ := m_gd_of hf
            obtain ⟨g28, hf⟩ := m_gd_of hf
            refine r_iald (q := 63) C dX2_swingAt_62 ⟨g27, g28⟩ rfl ?_
            refine r_iload_n (q := 64) C 3 dX2_swingAt_63 rfl rfl ?_
            refine r_icmp_le (t := 77) (q := 67) C dX2_swingAt_64 (by decide) rfl (fun c29 => ?_) (fun c29 => ?_)
            · replace hf := m_if1 hf c29
              refine r_iload_n (q := 78) C 3 dX2_swingAt_77 rfl rfl ?_
              refine r_istore_n (q := 79) (L' := [(3, .int v11), (2, .int v24), (0, .ref a0), (1, .int p1), (4, .int v12)]) C dX2_swingAt_78 rfl rfl (by decide) rfl ?_
              obtain ⟨v30, e31, hf⟩ := m_lt_of hf
              refine r_iinc (q := 82) (v := v30) (L' := [(4, .int v30), (3, .int v11), (2, .int v24), (0, .ref a0), (1, .int p1)]) C 4 dX2_swingAt_79 rfl (by rw [e31]; rfl) rfl (by decide) rfl ?_
              refine r_goto (t := 17) C dX2_swingAt_82 (by decide) ?_
              refine r_sub [3, 4, 2, 1, 0] rfl ?_
              exact ih14 v24 v11 v30 hf
            · replace hf := m_if0 hf c29
              refine r_aload_n (q := 68) C 1 dX2_swingAt_67 rfl rfl ?_
              refine gf_X2_37 (q := 71) C dX2_swingAt_68 g1 e26 rfl ?_
              refine r_iload (q := 73) C 4 dX2_swingAt_71 rfl rfl ?_
              obtain ⟨g32, hf⟩ := m_gd_of hf
              refine r_iald (q := 74) C dX2_swingAt_73 ⟨g27, g32⟩ rfl ?_
              refine r_goto (t := 78) C dX2_swingAt_74 (by decide) ?_
              refine r_istore_n (q := 79) (L' := [(3, .int (S.1 b25 v12.toNatClampNeg)), (2, .int v24), (0, .ref a0), (1, .int p1), (4, .int v12)]) C dX2_swingAt_78 rfl rfl (by decide) rfl ?_
              obtain ⟨v33, e34, hf⟩ := m_lt_of hf
              refine r_iinc (q := 82) (v := v33) (L' := [(4, .int v33), (3, .int (S.1 b25 v12.toNatClampNeg)), (2, .int v24), (0, .ref a0), (1, .int p1)]) C 4 dX2_swingAt_79 rfl (by rw [e34]; rfl) rfl (by decide) rfl ?_
              refine r_goto (t := 17) C dX2_swingAt_82 (by decide) ?_
              refine r_sub [3, 4, 2, 1, 0] rfl ?_
              exact ih14 v24 (S.1 b25 v12.toNatClampNeg) v33 hf
          refine r_icmp_ge (t := 54) (q := 44) C dX2_swingAt_41 (by decide) rfl (fun c35 => ?_) (fun c35 => ?_)
          · replace hf := m_if1 hf c35
            refine r_iload_n (q := 55) C 2 dX2_swingAt_54 rfl rfl ?_
            refine r_sub [0, 1, 3, 4] rfl ?_
            exact J23 v10 hf
          · replace hf := m_if0 hf c35
            refine r_aload_n (q := 45) C 0 dX2_swingAt_44 rfl rfl ?_
            refine gf_X2_37 (q := 48) C dX2_swingAt_45 g1 e19 rfl ?_
            refine r_iload (q := 50) C 4 dX2_swingAt_48 rfl rfl ?_
            obtain ⟨g36, hf⟩ := m_gd_of hf
            refine r_iald (q := 51) C dX2_swingAt_50 ⟨g20, g36⟩ rfl ?_
            refine r_goto (t := 55) C dX2_swingAt_51 (by decide) ?_
            refine r_sub [0, 1, 3, 4] rfl ?_
            exact J23 (S.1 b18 v12.toNatClampNeg) hf
  refine r_sub [3, 4, 2, 1, 0] rfl ?_
  exact LL16 100000 (S.1 b2 (0 : Int32).toNatClampNeg) (S.1 b2 (0 : Int32).toNatClampNeg) (1 : Int32) hf
def F_X5_clear_32 (Z : m_Z) (a0 : Nat) (j15 : (m_S → Option (Unit × m_S))) (lp18 : (Int32 × m_S) → Option (Unit × m_S)) (p31 : (Int32 × m_S)) : Option (Unit × m_S) := match p31 with
  | (v16, S17) => m_b1 (S17.2.2 a0 5) (fun b22 => m_gd (m_ok Z b22 11) ((if (Int32.ofNat (Z.2.2 b22)) ≤ v16 then j15 S17 else m_gd (m_in v16 (Z.2.2 b22)) (m_lt (m_pI S17 b22 v16.toNatClampNeg (0 : Int32)) (fun S27 => m_lt (v16 + (1 : Int32)) (fun v29 => lp18 (v29, S27)))))))
def f_X5_clear (Z : m_Z) (S : m_S) (a0 : Nat) : Option (Unit × m_S) := m_gd (m_ok Z a0 5) (m_lt (m_pI S a0 0 (0 : Int32)) (fun S2 => m_lt (m_pI S2 a0 1 (0 : Int32)) (fun S4 => m_lt (m_pI S4 a0 2 (0 : Int32)) (fun S6 => m_lt (m_pI S6 a0 6 (0 : Int32)) (fun S8 => m_lt (m_pI S8 a0 8 (0 : Int32)) (fun S10 => m_lt (m_pI S10 a0 10 (0 : Int32)) (fun S12 => m_jp (fun (S14 : m_S) => some ((), S14)) (fun j15 => m_fx (F_X5_clear_32 Z a0 j15) 100000 ((0 : Int32), S12)))))))))
abbrev rm_X5_clear : Room := { frames := 0, cells := 0, slots := 0, locals := 0 }
theorem hd_X5_clear : yX5_clear.cls = RX5 ∧ yX5_clear.cls ≠ "java/lang/invoke/MethodHandle" ∧ yX5_clear.cls ≠ "java/lang/invoke/VarHandle" ∧ (parseMethodDescriptor yX5_clear.desc).map (fun d => d.parameters.length) = some 0 := by decide +kernel
set_option maxHeartbeats 4000000 in
set_option maxRecDepth 100000 in
theorem c_X5_clear {l : Launch} (hl : l.stackTraces = false) {Z : m_Z} {S : m_S} {a0 : Nat} {rZ9 : Unit} {SZ9 : m_S} (hf : f_X5_clear Z S a0 = some (rZ9, SZ9)) : m_Ct l yX5_clear (.code yX5_clear cX5_clear 2 none :: m_ws) rm_X5_clear (fun f => [.ref a0]) Z S (none) SZ9 := by
  unfold f_X5_clear at hf
  refine m_ent hl (by decide) (fun _ => Nat.le_of_ble_eq_true rfl) (fun x C F => ?_)
  have C : m_H x l RX5 cX5_clear 2 rm_X5_clear := C
  show m_G x Z S 2 0 0 0 [(0, .ref a0)] []
  refine r_aload_n (q := 1) C 0 dX5_clear_0 rfl rfl ?_
  refine r_iconst (q := 2) (v := (0 : Int32)) C dX5_clear_1 (by decide) rfl ?_
  obtain ⟨g1, hf⟩ := m_gd_of hf
  obtain ⟨S2, e3, hf⟩ := m_lt_of hf
  refine pf_X5_9 (q := 5) C dX5_clear_2 g1 e3 rfl ?_
  refine r_aload_n (q := 6) C 0 dX5_clear_5 rfl rfl ?_
  refine r_iconst (q := 7) (v := (0 : Int32)) C dX5_clear_6 (by decide) rfl ?_
  obtain ⟨S4, e5, hf⟩ := m_lt_of hf
  refine pf_X5_15 (q := 10) C dX5_clear_7 g1 e5 rfl ?_
  refine r_aload_n (q := 11) C 0 dX5_clear_10 rfl rfl ?_
  refine r_iconst (q := 12) (v := (0 : Int32)) C dX5_clear_11 (by decide) rfl ?_
  obtain ⟨S6, e7, hf⟩ := m_lt_of hf
  refine pf_X5_18 (q := 15) C dX5_clear_12 g1 e7 rfl ?_
  refine r_aload_n (q := 16) C 0 dX5_clear_15 rfl rfl ?_
  refine r_iconst (q := 17) (v := (0 : Int32)) C dX5_clear_16 (by decide) rfl ?_
  obtain ⟨S8, e9, hf⟩ := m_lt_of hf
  refine pf_X5_31 (q := 20) C dX5_clear_17 g1 e9 rfl ?_
  refine r_aload_n (q := 21) C 0 dX5_clear_20 rfl rfl ?_
  refine r_iconst (q := 22) (v := (0 : Int32)) C dX5_clear_21 (by decide) rfl ?_
  obtain ⟨S10, e11, hf⟩ := m_lt_of hf
  refine pf_X5_40 (q := 25) C dX5_clear_22 g1 e11 rfl ?_
  refine r_aload_n (q := 26) C 0 dX5_clear_25 rfl rfl ?_
  refine r_iconst (q := 27) (v := (0 : Int32)) C dX5_clear_26 (by decide) rfl ?_
  obtain ⟨S12, e13, hf⟩ := m_lt_of hf
  refine pf_X5_49 (q := 30) C dX5_clear_27 g1 e13 rfl ?_
  refine r_iconst (q := 31) (v := (0 : Int32)) C dX5_clear_30 (by decide) rfl ?_
  refine r_istore_n (q := 32) (L' := [(1, .int (0 : Int32)), (0, .ref a0)]) C dX5_clear_31 rfl rfl (by decide) rfl ?_
  obtain ⟨j15, ej15, hf⟩ := m_jp_of hf
  have J15 : ∀ (S14 : m_S), j15 S14 = some (rZ9, SZ9) → m_G x Z S14 2 0 0 54 [] [] := by
    intro S14 hf
    rw [ej15] at hf
    obtain ⟨rfl, rfl⟩ := m_so2 hf
    exact r_vret C F dX5_clear_54
  have LL21 : ∀ (fu20 : Nat) (v16 : Int32) (S17 : m_S), m_fx (F_X5_clear_32 Z a0 j15) fu20 (v16, S17) = some (rZ9, SZ9) → m_G x Z S17 2 0 0 32 [(0, .ref a0), (1, .int v16)] [] := by
    intro fu20
    induction fu20 with
    | zero => intros; rename_i hf; cases hf
    | succ fu20 ih19 =>
      intro v16 S17 hf
      replace hf : F_X5_clear_32 Z a0 j15 (m_fx (F_X5_clear_32 Z a0 j15) fu20) (v16, S17) = some (rZ9, SZ9) := hf
      unfold F_X5_clear_32 at hf
      dsimp only at hf
      refine r_iload_n (q := 33) C 1 dX5_clear_32 rfl rfl ?_
      refine r_aload_n (q := 34) C 0 dX5_clear_33 rfl rfl ?_
      obtain ⟨b22, e23, hf⟩ := m_b1_of hf
      refine gf_X5_28 (q := 37) C dX5_clear_34 g1 e23 rfl ?_
      obtain ⟨g24, hf⟩ := m_gd_of hf
      refine r_alen (q := 38) 11 1 C dX5_clear_37 g24 (by decide) rfl rfl ?_
      refine r_icmp_ge (t := 54) (q := 41) C dX5_clear_38 (by decide) rfl (fun c25 => ?_) (fun c25 => ?_)
      · replace hf := m_if1 hf c25
        refine r_sub [] rfl ?_
        exact J15 S17 hf
      · replace hf := m_if0 hf c25
        refine r_aload_n (q := 42) C 0 dX5_clear_41 rfl rfl ?_
        refine gf_X5_28 (q := 45) C dX5_clear_42 g1 e23 rfl ?_
        refine r_iload_n (q := 46) C 1 dX5_clear_45 rfl rfl ?_
        refine r_iconst (q := 47) (v := (0 : Int32)) C dX5_clear_46 (by decide) rfl ?_
        obtain ⟨g26, hf⟩ := m_gd_of hf
        obtain ⟨S27, e28, hf⟩ := m_lt_of hf
        refine r_iast (q := 48) C dX5_clear_47 ⟨g24, g26⟩ rfl ?_
        rw [← e28]
        obtain ⟨v29, e30, hf⟩ := m_lt_of hf
        refine r_iinc (q := 51) (v := v29) (L' := [(1, .int v29), (0, .ref a0)]) C 1 dX5_clear_48 rfl (by rw [e30]; rfl) rfl (by decide) rfl ?_
        refine r_goto (t := 32) C dX5_clear_51 (by decide) ?_
        refine r_sub [1, 0] rfl ?_
        exact ih19 v29 S27 hf
  refine r_sub [1, 0] rfl ?_
  exact LL21 100000 (0 : Int32) S12 hf
def f_X5_nextDay (Z : m_Z) (S : m_S) (a0 : Nat) : Option (Int32) := m_gd (m_ok Z a0 5) (m_lt ((S.1 a0 2) - (1 : Int32)) (fun v2 => (if v2 < 0 then some (0 : Int32) else (if v2 < (12 : Int32) then m_b1 (S.2.2 a0 3) (fun b6 => m_gd (m_ok Z b6 11) (m_gd (m_in v2 (Z.2.2 b6)) (some ((S.1 b6 v2.toNatClampNeg) + (1 : Int32))))) else some (0 : Int32)))))
abbrev rm_X5_nextDay : Room := { frames := 0, cells := 0, slots := 0, locals := 0 }
theorem hd_X5_nextDay : yX5_nextDay.cls = RX5 ∧ yX5_nextDay.cls ≠ "java/lang/invoke/MethodHandle" ∧ yX5_nextDay.cls ≠ "java/lang/invoke/VarHandle" ∧ (parseMethodDescriptor yX5_nextDay.desc).map (fun d => d.parameters.length) = some 0 := by decide +kernel
set_option maxHeartbeats 4000000 in
set_option maxRecDepth 100000 in
theorem c_X5_nextDay {l : Launch} (hl : l.stackTraces = false) {Z : m_Z} {S : m_S} {a0 : Nat} {rZ9 : Int32} (hf : f_X5_nextDay Z S a0 = some rZ9) : m_Ct l yX5_nextDay (.code yX5_nextDay cX5_nextDay 2 (some .int) :: m_ws) rm_X5_nextDay (fun f => [.ref a0]) Z S (some (.int rZ9)) S := by
  unfold f_X5_nextDay at hf
  refine m_ent hl (by decide) (fun _ => Nat.le_of_ble_eq_true rfl) (fun x C F => ?_)
  have C : m_H x l RX5 cX5_nextDay 2 rm_X5_nextDay := C
  show m_G x Z S 2 0 0 0 [(0, .ref a0)] []
  refine r_aload_n (q := 1) C 0 dX5_nextDay_0 rfl rfl ?_
  obtain ⟨g1, hf⟩ := m_gd_of hf
  refine gf_X5_18 (q := 4) C dX5_nextDay_1 g1 rfl ?_
  refine r_iconst (q := 5) (v := (1 : Int32)) C dX5_nextDay_4 (by decide) rfl ?_
  refine r_isub (q := 6) C dX5_nextDay_5 rfl ?_
  obtain ⟨v2, e3, hf⟩ := m_lt_of hf
  refine r_nm e3 ?_
  refine r_istore_n (q := 7) (L' := [(1, .int v2), (0, .ref a0)]) C dX5_nextDay_6 rfl rfl (by decide) rfl ?_
  refine r_iload_n (q := 8) C 0 dX5_nextDay_7 rfl rfl ?_
  refine r_if_lt (t := 17) (q := 11) C dX5_nextDay_8 (by decide) rfl (fun c4 => ?_) (fun c4 => ?_)
  · replace hf := m_if1 hf c4
    refine r_iconst (q := 18) (v := (0 : Int32)) C dX5_nextDay_17 (by decide) rfl ?_
    refine r_goto (t := 29) C dX5_nextDay_18 (by decide) ?_
    obtain rfl := m_so1 hf
    exact r_iret C F dX5_nextDay_29
  · replace hf := m_if0 hf c4
    refine r_iload_n (q := 12) C 0 dX5_nextDay_11 rfl rfl ?_
    refine r_bipush (q := 14) (v := (12 : Int32)) C dX5_nextDay_12 (by decide) rfl ?_
    refine r_icmp_lt (t := 21) (q := 17) C dX5_nextDay_14 (by decide) rfl (fun c5 => ?_) (fun c5 => ?_)
    · replace hf := m_if1 hf c5
      refine r_aload_n (q := 22) C 1 dX5_nextDay_21 rfl rfl ?_
      obtain ⟨b6, e7, hf⟩ := m_b1_of hf
      refine gf_X5_21 (q := 25) C dX5_nextDay_22 g1 e7 rfl ?_
      refine r_iload_n (q := 26) C 0 dX5_nextDay_25 rfl rfl ?_
      obtain ⟨g8, hf⟩ := m_gd_of hf
      obtain ⟨g9, hf⟩ := m_gd_of hf
      refine r_iald (q := 27) C dX5_nextDay_26 ⟨g8, g9⟩ rfl ?_
      refine r_iconst (q := 28) (v := (1 : Int32)) C dX5_nextDay_27 (by decide) rfl ?_
      refine r_iadd (q := 29) C dX5_nextDay_28 rfl ?_
      obtain rfl := m_so1 hf
      exact r_iret C F dX5_nextDay_29
    · replace hf := m_if0 hf c5
      refine r_iconst (q := 18) (v := (0 : Int32)) C dX5_nextDay_17 (by decide) rfl ?_
      refine r_goto (t := 29) C dX5_nextDay_18 (by decide) ?_
      obtain rfl := m_so1 hf
      exact r_iret C F dX5_nextDay_29
def f_X5_addSeason (Z : m_Z) (S : m_S) (a0 : Nat) (p1 : Int32) (p2 : Int32) : Option (Unit × m_S) := m_gd (m_ok Z a0 5) ((if (12 : Int32) ≤ (S.1 a0 2) then some ((), S) else m_b1 (S.2.2 a0 3) (fun b3 => m_gd (m_ok Z b3 11) (m_gd (m_in (S.1 a0 2) (Z.2.2 b3)) (m_lt (m_pI S b3 (S.1 a0 2).toNatClampNeg p1) (fun S7 => m_b1 (S7.2.2 a0 4) (fun b9 => m_gd (m_ok Z b9 11) (m_gd (m_in (S7.1 a0 2) (Z.2.2 b9)) (m_lt (m_pI S7 b9 (S7.1 a0 2).toNatClampNeg p2) (fun S13 => m_lt (m_pI S13 a0 2 ((S13.1 a0 2) + (1 : Int32))) (fun S15 => some ((), S15))))))))))))
abbrev rm_X5_addSeason : Room := { frames := 0, cells := 0, slots := 0, locals := 0 }
theorem hd_X5_addSeason : yX5_addSeason.cls = RX5 ∧ yX5_addSeason.cls ≠ "java/lang/invoke/MethodHandle" ∧ yX5_addSeason.cls ≠ "java/lang/invoke/VarHandle" ∧ (parseMethodDescriptor yX5_addSeason.desc).map (fun d => d.parameters.length) = some 2 := by decide +kernel
set_option maxHeartbeats 4000000 in
set_option maxRecDepth 100000 in
theorem c_X5_addSeason {l : Launch} (hl : l.stackTraces = false) {Z : m_Z} {S : m_S} {a0 : Nat} {p1 : Int32} {p2 : Int32} {rZ9 : Unit} {SZ9 : m_S} (hf : f_X5_addSeason Z S a0 p1 p2 = some (rZ9, SZ9)) : m_Ct l yX5_addSeason (.code yX5_addSeason cX5_addSeason 3 none :: m_ws) rm_X5_addSeason (fun f => [.ref a0, .int p1, .int p2]) Z S (none) SZ9 := by
  unfold f_X5_addSeason at hf
  refine m_ent hl (by decide) (fun _ => Nat.le_of_ble_eq_true rfl) (fun x C F => ?_)
  have C : m_H x l RX5 cX5_addSeason 3 rm_X5_addSeason := C
  show m_G x Z S 3 0 0 0 [(0, .ref a0), (1, .int p1), (2, .int p2)] []
  refine r_aload_n (q := 1) C 0 dX5_addSeason_0 rfl rfl ?_
  obtain ⟨g1, hf⟩ := m_gd_of hf
  refine gf_X5_18 (q := 4) C dX5_addSeason_1 g1 rfl ?_
  refine r_bipush (q := 6) (v := (12 : Int32)) C dX5_addSeason_4 (by decide) rfl ?_
  refine r_icmp_ge (t := 39) (q := 9) C dX5_addSeason_6 (by decide) rfl (fun c2 => ?_) (fun c2 => ?_)
  · replace hf := m_if1 hf c2
    obtain ⟨rfl, rfl⟩ := m_so2 hf
    exact r_vret C F dX5_addSeason_39
  · replace hf := m_if0 hf c2
    refine r_aload_n (q := 10) C 0 dX5_addSeason_9 rfl rfl ?_
    obtain ⟨b3, e4, hf⟩ := m_b1_of hf
    refine gf_X5_21 (q := 13) C dX5_addSeason_10 g1 e4 rfl ?_
    refine r_aload_n (q := 14) C 0 dX5_addSeason_13 rfl rfl ?_
    refine gf_X5_18 (q := 17) C dX5_addSeason_14 g1 rfl ?_
    refine r_iload_n (q := 18) C 1 dX5_addSeason_17 rfl rfl ?_
    obtain ⟨g5, hf⟩ := m_gd_of hf
    obtain ⟨g6, hf⟩ := m_gd_of hf
    obtain ⟨S7, e8, hf⟩ := m_lt_of hf
    refine r_iast (q := 19) C dX5_addSeason_18 ⟨g5, g6⟩ rfl ?_
    rw [← e8]
    refine r_aload_n (q := 20) C 0 dX5_addSeason_19 rfl rfl ?_
    obtain ⟨b9, e10, hf⟩ := m_b1_of hf
    refine gf_X5_25 (q := 23) C dX5_addSeason_20 g1 e10 rfl ?_
    refine r_aload_n (q := 24) C 0 dX5_addSeason_23 rfl rfl ?_
    refine gf_X5_18 (q := 27) C dX5_addSeason_24 g1 rfl ?_
    refine r_iload_n (q := 28) C 2 dX5_addSeason_27 rfl rfl ?_
    obtain ⟨g11, hf⟩ := m_gd_of hf
    obtain ⟨g12, hf⟩ := m_gd_of hf
    obtain ⟨S13, e14, hf⟩ := m_lt_of hf
    refine r_iast (q := 29) C dX5_addSeason_28 ⟨g11, g12⟩ rfl ?_
    rw [← e14]
    refine r_aload_n (q := 30) C 0 dX5_addSeason_29 rfl rfl ?_
    refine r_dup (q := 31) C dX5_addSeason_30 rfl rfl ?_
    refine gf_X5_18 (q := 34) C dX5_addSeason_31 g1 rfl ?_
    refine r_iconst (q := 35) (v := (1 : Int32)) C dX5_addSeason_34 (by decide) rfl ?_
    refine r_iadd (q := 36) C dX5_addSeason_35 rfl ?_
    obtain ⟨S15, e16, hf⟩ := m_lt_of hf
    refine pf_X5_18 (q := 39) C dX5_addSeason_36 g1 e16 rfl ?_
    obtain ⟨rfl, rfl⟩ := m_so2 hf
    exact r_vret C F dX5_addSeason_39
def F_X5_addVisitors_3 (Z : m_Z) (a0 : Nat) (p2 : Int32) (p3 : Int32) (j2 : (m_S → Option (Unit × m_S))) (lp5 : (Int32 × m_S) → Option (Unit × m_S)) (p21 : (Int32 × m_S)) : Option (Unit × m_S) := match p21 with
  | (v3, S4) => (if p2 < v3 then j2 S4 else m_gd (m_ok Z a0 5) (m_b1 (S4.2.2 a0 5) (fun b11 => m_gd (m_ok Z b11 11) ((if (Int32.ofNat (Z.2.2 b11)) ≤ v3 then j2 S4 else m_gd (m_in v3 (Z.2.2 b11)) (m_gd (m_in v3 (Z.2.2 b11)) (m_lt (m_pI S4 b11 v3.toNatClampNeg ((S4.1 b11 v3.toNatClampNeg) + p3)) (fun S17 => m_lt (v3 + (1 : Int32)) (fun v19 => lp5 (v19, S17))))))))))
def f_X5_addVisitors (Z : m_Z) (S : m_S) (a0 : Nat) (p1 : Int32) (p2 : Int32) (p3 : Int32) : Option (Unit × m_S) := m_jp (fun (S1 : m_S) => some ((), S1)) (fun j2 => m_fx (F_X5_addVisitors_3 Z a0 p2 p3 j2) 100000 (p1, S))
abbrev rm_X5_addVisitors : Room := { frames := 0, cells := 0, slots := 0, locals := 0 }
theorem hd_X5_addVisitors : yX5_addVisitors.cls = RX5 ∧ yX5_addVisitors.cls ≠ "java/lang/invoke/MethodHandle" ∧ yX5_addVisitors.cls ≠ "java/lang/invoke/VarHandle" ∧ (parseMethodDescriptor yX5_addVisitors.desc).map (fun d => d.parameters.length) = some 3 := by decide +kernel
set_option maxHeartbeats 4000000 in
set_option maxRecDepth 100000 in
theorem c_X5_addVisitors {l : Launch} (hl : l.stackTraces = false) {Z : m_Z} {S : m_S} {a0 : Nat} {p1 : Int32} {p2 : Int32} {p3 : Int32} {rZ9 : Unit} {SZ9 : m_S} (hf : f_X5_addVisitors Z S a0 p1 p2 p3 = some (rZ9, SZ9)) : m_Ct l yX5_addVisitors (.code yX5_addVisitors cX5_addVisitors 5 none :: m_ws) rm_X5_addVisitors (fun f => [.ref a0, .int p1, .int p2, .int p3]) Z S (none) SZ9 := by
  unfold f_X5_addVisitors at hf
  refine m_ent hl (by decide) (fun _ => Nat.le_of_ble_eq_true rfl) (fun x C F => ?_)
  have C : m_H x l RX5 cX5_addVisitors 5 rm_X5_addVisitors := C
  show m_G x Z S 5 0 0 0 [(0, .ref a0), (1, .int p1), (2, .int p2), (3, .int p3)] []
  refine r_iload_n (q := 1) C 1 dX5_addVisitors_0 rfl rfl ?_
  refine r_istore (q := 3) (L' := [(4, .int p1), (0, .ref a0), (1, .int p1), (2, .int p2), (3, .int p3)]) C dX5_addVisitors_1 rfl (by decide) rfl ?_
  obtain ⟨j2, ej2, hf⟩ := m_jp_of hf
  have J2 : ∀ (S1 : m_S), j2 S1 = some (rZ9, SZ9) → m_G x Z S1 5 0 0 36 [] [] := by
    intro S1 hf
    rw [ej2] at hf
    obtain ⟨rfl, rfl⟩ := m_so2 hf
    exact r_vret C F dX5_addVisitors_36
  have LL8 : ∀ (fu7 : Nat) (v3 : Int32) (S4 : m_S), m_fx (F_X5_addVisitors_3 Z a0 p2 p3 j2) fu7 (v3, S4) = some (rZ9, SZ9) → m_G x Z S4 5 0 0 3 [(0, .ref a0), (2, .int p2), (3, .int p3), (4, .int v3)] [] := by
    intro fu7
    induction fu7 with
    | zero => intros; rename_i hf; cases hf
    | succ fu7 ih6 =>
      intro v3 S4 hf
      replace hf : F_X5_addVisitors_3 Z a0 p2 p3 j2 (m_fx (F_X5_addVisitors_3 Z a0 p2 p3 j2) fu7) (v3, S4) = some (rZ9, SZ9) := hf
      unfold F_X5_addVisitors_3 at hf
      dsimp only at hf
      refine r_iload (q := 5) C 3 dX5_addVisitors_3 rfl rfl ?_
      refine r_iload_n (q := 6) C 1 dX5_addVisitors_5 rfl rfl ?_
      refine r_icmp_gt (t := 36) (q := 9) C dX5_addVisitors_6 (by decide) rfl (fun c9 => ?_) (fun c9 => ?_)
      · replace hf := m_if1 hf c9
        refine r_sub [] rfl ?_
        exact J2 S4 hf
      · replace hf := m_if0 hf c9
        refine r_iload (q := 11) C 3 dX5_addVisitors_9 rfl rfl ?_
        refine r_aload_n (q := 12) C 0 dX5_addVisitors_11 rfl rfl ?_
        obtain ⟨g10, hf⟩ := m_gd_of hf
        obtain ⟨b11, e12, hf⟩ := m_b1_of hf
        refine gf_X5_28 (q := 15) C dX5_addVisitors_12 g10 e12 rfl ?_
        obtain ⟨g13, hf⟩ := m_gd_of hf
        refine r_alen (q := 16) 11 1 C dX5_addVisitors_15 g13 (by decide) rfl rfl ?_
        refine r_icmp_ge (t := 36) (q := 19) C dX5_addVisitors_16 (by decide) rfl (fun c14 => ?_) (fun c14 => ?_)
        · replace hf := m_if1 hf c14
          refine r_sub [] rfl ?_
          exact J2 S4 hf
        · replace hf := m_if0 hf c14
          refine r_aload_n (q := 20) C 0 dX5_addVisitors_19 rfl rfl ?_
          refine gf_X5_28 (q := 23) C dX5_addVisitors_20 g10 e12 rfl ?_
          refine r_iload (q := 25) C 3 dX5_addVisitors_23 rfl rfl ?_
          refine r_dup2 (q := 26) C dX5_addVisitors_25 rfl rfl rfl ?_
          obtain ⟨g15, hf⟩ := m_gd_of hf
          refine r_iald (q := 27) C dX5_addVisitors_26 ⟨g13, g15⟩ rfl ?_
          refine r_iload_n (q := 28) C 2 dX5_addVisitors_27 rfl rfl ?_
          refine r_iadd (q := 29) C dX5_addVisitors_28 rfl ?_
          obtain ⟨g16, hf⟩ := m_gd_of hf
          obtain ⟨S17, e18, hf⟩ := m_lt_of hf
          refine r_iast (q := 30) C dX5_addVisitors_29 ⟨g13, g16⟩ rfl ?_
          rw [← e18]
          obtain ⟨v19, e20, hf⟩ := m_lt_of hf
          refine r_iinc (q := 33) (v := v19) (L' := [(4, .int v19), (0, .ref a0), (2, .int p2), (3, .int p3)]) C 3 dX5_addVisitors_30 rfl (by rw [e20]; rfl) rfl (by decide) rfl ?_
          refine r_goto (t := 3) C dX5_addVisitors_33 (by decide) ?_
          refine r_sub [1, 2, 3, 0] rfl ?_
          exact ih6 v19 S17 hf
  refine r_sub [1, 3, 4, 0] rfl ?_
  exact LL8 100000 p1 S hf
def f_X4_begin (Z : m_Z) (S : m_S) (a0 : Nat) : Option (Unit × m_S) := m_gd (m_ok Z a0 4) (m_lt (m_pI S a0 0 (0 : Int32)) (fun S2 => m_lt (m_pI S2 a0 1 (0 : Int32)) (fun S4 => m_lt (m_pI S4 a0 2 (0 : Int32)) (fun S6 => some ((), S6)))))
abbrev rm_X4_begin : Room := { frames := 0, cells := 0, slots := 0, locals := 0 }
theorem hd_X4_begin : yX4_begin.cls = RX4 ∧ yX4_begin.cls ≠ "java/lang/invoke/MethodHandle" ∧ yX4_begin.cls ≠ "java/lang/invoke/VarHandle" ∧ (parseMethodDescriptor yX4_begin.desc).map (fun d => d.parameters.length) = some 0 := by decide +kernel
set_option maxHeartbeats 4000000 in
set_option maxRecDepth 100000 in
theorem c_X4_begin {l : Launch} (hl : l.stackTraces = false) {Z : m_Z} {S : m_S} {a0 : Nat} {rZ9 : Unit} {SZ9 : m_S} (hf : f_X4_begin Z S a0 = some (rZ9, SZ9)) : m_Ct l yX4_begin (.code yX4_begin cX4_begin 1 none :: m_ws) rm_X4_begin (fun f => [.ref a0]) Z S (none) SZ9 := by
  unfold f_X4_begin at hf
  refine m_ent hl (by decide) (fun _ => Nat.le_of_ble_eq_true rfl) (fun x C F => ?_)
  have C : m_H x l RX4 cX4_begin 1 rm_X4_begin := C
  show m_G x Z S 1 0 0 0 [(0, .ref a0)] []
  refine r_aload_n (q := 1) C 0 dX4_begin_0 rfl rfl ?_
  refine r_iconst (q := 2) (v := (0 : Int32)) C dX4_begin_1 (by decide) rfl ?_
  obtain ⟨g1, hf⟩ := m_gd_of hf
  obtain ⟨S2, e3, hf⟩ := m_lt_of hf
  refine pf_X4_9 (q := 5) C dX4_begin_2 g1 e3 rfl ?_
  refine r_aload_n (q := 6) C 0 dX4_begin_5 rfl rfl ?_
  refine r_iconst (q := 7) (v := (0 : Int32)) C dX4_begin_6 (by decide) rfl ?_
  obtain ⟨S4, e5, hf⟩ := m_lt_of hf
  refine pf_X4_15 (q := 10) C dX4_begin_7 g1 e5 rfl ?_
  refine r_aload_n (q := 11) C 0 dX4_begin_10 rfl rfl ?_
  refine r_iconst (q := 12) (v := (0 : Int32)) C dX4_begin_11 (by decide) rfl ?_
  obtain ⟨S6, e7, hf⟩ := m_lt_of hf
  refine pf_X4_18 (q := 15) C dX4_begin_12 g1 e7 rfl ?_
  obtain ⟨rfl, rfl⟩ := m_so2 hf
  exact r_vret C F dX4_begin_15
def f_X4_copyFrom (Z : m_Z) (S : m_S) (a0 : Nat) (p1 : Nat) : Option (Unit × m_S) := m_gd (m_ok Z p1 4) (m_gd (m_ok Z a0 4) (m_lt (m_pI S a0 0 (S.1 p1 0)) (fun S3 => m_lt (m_pI S3 a0 1 (S3.1 p1 1)) (fun S5 => m_lt (m_pI S5 a0 2 (S5.1 p1 2)) (fun S7 => some ((), S7))))))
abbrev rm_X4_copyFrom : Room := { frames := 0, cells := 0, slots := 0, locals := 0 }
theorem hd_X4_copyFrom : yX4_copyFrom.cls = RX4 ∧ yX4_copyFrom.cls ≠ "java/lang/invoke/MethodHandle" ∧ yX4_copyFrom.cls ≠ "java/lang/invoke/VarHandle" ∧ (parseMethodDescriptor yX4_copyFrom.desc).map (fun d => d.parameters.length) = some 1 := by decide +kernel
set_option maxHeartbeats 4000000 in
set_option maxRecDepth 100000 in
theorem c_X4_copyFrom {l : Launch} (hl : l.stackTraces = false) {Z : m_Z} {S : m_S} {a0 : Nat} {p1 : Nat} {rZ9 : Unit} {SZ9 : m_S} (hf : f_X4_copyFrom Z S a0 p1 = some (rZ9, SZ9)) : m_Ct l yX4_copyFrom (.code yX4_copyFrom cX4_copyFrom 2 none :: m_ws) rm_X4_copyFrom (fun f => [.ref a0, .ref p1]) Z S (none) SZ9 := by
  unfold f_X4_copyFrom at hf
  refine m_ent hl (by decide) (fun _ => Nat.le_of_ble_eq_true rfl) (fun x C F => ?_)
  have C : m_H x l RX4 cX4_copyFrom 2 rm_X4_copyFrom := C
  show m_G x Z S 2 0 0 0 [(0, .ref a0), (1, .ref p1)] []
  refine r_aload_n (q := 1) C 0 dX4_copyFrom_0 rfl rfl ?_
  refine r_aload_n (q := 2) C 1 dX4_copyFrom_1 rfl rfl ?_
  obtain ⟨g1, hf⟩ := m_gd_of hf
  refine gf_X4_9 (q := 5) C dX4_copyFrom_2 g1 rfl ?_
  obtain ⟨g2, hf⟩ := m_gd_of hf
  obtain ⟨S3, e4, hf⟩ := m_lt_of hf
  refine pf_X4_9 (q := 8) C dX4_copyFrom_5 g2 e4 rfl ?_
  refine r_aload_n (q := 9) C 0 dX4_copyFrom_8 rfl rfl ?_
  refine r_aload_n (q := 10) C 1 dX4_copyFrom_9 rfl rfl ?_
  refine gf_X4_15 (q := 13) C dX4_copyFrom_10 g1 rfl ?_
  obtain ⟨S5, e6, hf⟩ := m_lt_of hf
  refine pf_X4_15 (q := 16) C dX4_copyFrom_13 g2 e6 rfl ?_
  refine r_aload_n (q := 17) C 0 dX4_copyFrom_16 rfl rfl ?_
  refine r_aload_n (q := 18) C 1 dX4_copyFrom_17 rfl rfl ?_
  refine gf_X4_18 (q := 21) C dX4_copyFrom_18 g1 rfl ?_
  obtain ⟨S7, e8, hf⟩ := m_lt_of hf
  refine pf_X4_18 (q := 24) C dX4_copyFrom_21 g2 e8 rfl ?_
  obtain ⟨rfl, rfl⟩ := m_so2 hf
  exact r_vret C F dX4_copyFrom_24
def f_X4_day (Z : m_Z) (S : m_S) (a0 : Nat) : Option (Int32) := m_gd (m_ok Z a0 4) (some (((S.1 a0 0) / (24 : Int32)) - ((S.1 a0 0) / (24 : Int32)) / (365 : Int32) * (365 : Int32)))
abbrev rm_X4_day : Room := { frames := 0, cells := 0, slots := 0, locals := 0 }
theorem hd_X4_day : yX4_day.cls = RX4 ∧ yX4_day.cls ≠ "java/lang/invoke/MethodHandle" ∧ yX4_day.cls ≠ "java/lang/invoke/VarHandle" ∧ (parseMethodDescriptor yX4_day.desc).map (fun d => d.parameters.length) = some 0 := by decide +kernel
set_option maxHeartbeats 4000000 in
set_option maxRecDepth 100000 in
theorem c_X4_day {l : Launch} (hl : l.stackTraces = false) {Z : m_Z} {S : m_S} {a0 : Nat} {rZ9 : Int32} (hf : f_X4_day Z S a0 = some rZ9) : m_Ct l yX4_day (.code yX4_day cX4_day 1 (some .int) :: m_ws) rm_X4_day (fun f => [.ref a0]) Z S (some (.int rZ9)) S := by
  unfold f_X4_day at hf
  refine m_ent hl (by decide) (fun _ => Nat.le_of_ble_eq_true rfl) (fun x C F => ?_)
  have C : m_H x l RX4 cX4_day 1 rm_X4_day := C
  show m_G x Z S 1 0 0 0 [(0, .ref a0)] []
  refine r_aload_n (q := 1) C 0 dX4_day_0 rfl rfl ?_
  obtain ⟨g1, hf⟩ := m_gd_of hf
  refine gf_X4_9 (q := 4) C dX4_day_1 g1 rfl ?_
  refine r_bipush (q := 6) (v := (24 : Int32)) C dX4_day_4 (by decide) rfl ?_
  refine r_idiv (q := 7) C dX4_day_6 (by decide) rfl ?_
  refine r_sipush (q := 10) (v := (365 : Int32)) C dX4_day_7 (by decide) rfl ?_
  refine r_irem (q := 11) C dX4_day_10 (by decide) rfl ?_
  obtain rfl := m_so1 hf
  exact r_iret C F dX4_day_11
def f_X4_hourOfDay (Z : m_Z) (S : m_S) (a0 : Nat) : Option (Int32) := m_gd (m_ok Z a0 4) (some ((S.1 a0 0) - (S.1 a0 0) / (24 : Int32) * (24 : Int32)))
abbrev rm_X4_hourOfDay : Room := { frames := 0, cells := 0, slots := 0, locals := 0 }
theorem hd_X4_hourOfDay : yX4_hourOfDay.cls = RX4 ∧ yX4_hourOfDay.cls ≠ "java/lang/invoke/MethodHandle" ∧ yX4_hourOfDay.cls ≠ "java/lang/invoke/VarHandle" ∧ (parseMethodDescriptor yX4_hourOfDay.desc).map (fun d => d.parameters.length) = some 0 := by decide +kernel
set_option maxHeartbeats 4000000 in
set_option maxRecDepth 100000 in
theorem c_X4_hourOfDay {l : Launch} (hl : l.stackTraces = false) {Z : m_Z} {S : m_S} {a0 : Nat} {rZ9 : Int32} (hf : f_X4_hourOfDay Z S a0 = some rZ9) : m_Ct l yX4_hourOfDay (.code yX4_hourOfDay cX4_hourOfDay 1 (some .int) :: m_ws) rm_X4_hourOfDay (fun f => [.ref a0]) Z S (some (.int rZ9)) S := by
  unfold f_X4_hourOfDay at hf
  refine m_ent hl (by decide) (fun _ => Nat.le_of_ble_eq_true rfl) (fun x C F => ?_)
  have C : m_H x l RX4 cX4_hourOfDay 1 rm_X4_hourOfDay := C
  show m_G x Z S 1 0 0 0 [(0, .ref a0)] []
  refine r_aload_n (q := 1) C 0 dX4_hourOfDay_0 rfl rfl ?_
  obtain ⟨g1, hf⟩ := m_gd_of hf
  refine gf_X4_9 (q := 4) C dX4_hourOfDay_1 g1 rfl ?_
  refine r_bipush (q := 6) (v := (24 : Int32)) C dX4_hourOfDay_4 (by decide) rfl ?_
  refine r_irem (q := 7) C dX4_hourOfDay_6 (by decide) rfl ?_
  obtain rfl := m_so1 hf
  exact r_iret C F dX4_hourOfDay_7
def F_X5_setPointOf_26 (Z : m_Z) (S : m_S) (a0 : Nat) (p1 : Int32) (v2 : Int32) (j37 : (Int32 → Option (Int32))) (lp40 : (Int32 × Int32) → Option (Int32)) (p54 : (Int32 × Int32)) : Option (Int32) := match p54 with
  | (v38, v39) => (if v2 < v39 then j37 v38 else m_b1 (S.2.2 a0 3) (fun b45 => m_gd (m_ok Z b45 11) (m_gd (m_in v39 (Z.2.2 b45)) ((if p1 < (S.1 b45 v39.toNatClampNeg) then m_lt (v39 + (1 : Int32)) (fun v50 => lp40 (v38, v50)) else m_lt (v39 + (1 : Int32)) (fun v52 => lp40 (v39, v52)))))))
def f_X5_setPointOf (Z : m_Z) (S : m_S) (a0 : Nat) (p1 : Int32) : Option (Int32) := m_gd (m_ok Z a0 5) (m_lt ((S.1 a0 2) - (1 : Int32)) (fun v2 => (if v2 < 0 then some (500 : Int32) else (if v2 < (12 : Int32) then m_jp (fun (v6 : Int32) => m_jp (fun (v8 : Int32) => m_b1 (S.2.2 a0 3) (fun b9 => m_gd (m_ok Z b9 11) (m_gd (m_in v8 (Z.2.2 b9)) (m_gd (m_in v6 (Z.2.2 b9)) (m_jp (fun (v15 : Int32) => m_lt (((S.1 b9 v8.toNatClampNeg) - (S.1 b9 v6.toNatClampNeg)) + v15) (fun v16 => m_b1 (S.2.2 a0 3) (fun b18 => m_gd (m_ok Z b18 11) (m_gd (m_in v6 (Z.2.2 b18)) (m_gd (m_in v6 (Z.2.2 b18)) (m_jp (fun (v24 : Int32) => m_lt ((p1 - (S.1 b18 v6.toNatClampNeg)) + v24) (fun v25 => m_b1 (S.2.2 a0 4) (fun b27 => m_gd (m_ok Z b27 11) (m_gd (m_in v6 (Z.2.2 b27)) (m_gd (m_in v8 (Z.2.2 b27)) (m_b1 (f_X8_onLine Z S (S.1 b27 v6.toNatClampNeg) (S.1 b27 v8.toNatClampNeg) v25 v16) (fun v33 => some v33))))))) (fun j23 => (if (S.1 b18 v6.toNatClampNeg) ≤ p1 then j23 (0 : Int32) else j23 (365 : Int32))))))))) (fun j14 => (if ¬ v6 = v2 then j14 (0 : Int32) else j14 (365 : Int32)))))))) (fun j7 => (if ¬ v6 = v2 then j7 (v6 + (1 : Int32)) else j7 (0 : Int32)))) (fun j37 => m_fx (F_X5_setPointOf_26 Z S a0 p1 v2 j37) 100000 (v2, (0 : Int32))) else some (500 : Int32)))))
abbrev rm_X5_setPointOf : Room := { frames := 1, cells := 0, slots := 0, locals := 23 }
theorem hd_X5_setPointOf : yX5_setPointOf.cls = RX5 ∧ yX5_setPointOf.cls ≠ "java/lang/invoke/MethodHandle" ∧ yX5_setPointOf.cls ≠ "java/lang/invoke/VarHandle" ∧ (parseMethodDescriptor yX5_setPointOf.desc).map (fun d => d.parameters.length) = some 1 := by decide +kernel
set_option maxHeartbeats 4000000 in
set_option maxRecDepth 100000 in
theorem c_X5_setPointOf {l : Launch} (hl : l.stackTraces = false) {Z : m_Z} {S : m_S} {a0 : Nat} {p1 : Int32} {rZ9 : Int32} (hf : f_X5_setPointOf Z S a0 p1 = some rZ9) : m_Ct l yX5_setPointOf (.code yX5_setPointOf cX5_setPointOf 7 (some .int) :: m_ws) rm_X5_setPointOf (fun f => [.ref a0, .int p1]) Z S (some (.int rZ9)) S := by
  unfold f_X5_setPointOf at hf
  refine m_ent hl (by decide) (fun _ => Nat.le_of_ble_eq_true rfl) (fun x C F => ?_)
  have C : m_H x l RX5 cX5_setPointOf 7 rm_X5_setPointOf := C
  show m_G x Z S 7 0 0 0 [(0, .ref a0), (1, .int p1)] []
  refine r_aload_n (q := 1) C 0 dX5_setPointOf_0 rfl rfl ?_
  obtain ⟨g1, hf⟩ := m_gd_of hf
  refine gf_X5_18 (q := 4) C dX5_setPointOf_1 g1 rfl ?_
  refine r_iconst (q := 5) (v := (1 : Int32)) C dX5_setPointOf_4 (by decide) rfl ?_
  refine r_isub (q := 6) C dX5_setPointOf_5 rfl ?_
  obtain ⟨v2, e3, hf⟩ := m_lt_of hf
  refine r_nm e3 ?_
  refine r_istore_n (q := 7) (L' := [(2, .int v2), (0, .ref a0), (1, .int p1)]) C dX5_setPointOf_6 rfl rfl (by decide) rfl ?_
  refine r_iload_n (q := 8) C 0 dX5_setPointOf_7 rfl rfl ?_
  refine r_if_lt (t := 17) (q := 11) C dX5_setPointOf_8 (by decide) rfl (fun c4 => ?_) (fun c4 => ?_)
  · replace hf := m_if1 hf c4
    refine r_sipush (q := 20) (v := (500 : Int32)) C dX5_setPointOf_17 (by decide) rfl ?_
    obtain rfl := m_so1 hf
    exact r_iret C F dX5_setPointOf_20
  · replace hf := m_if0 hf c4
    refine r_iload_n (q := 12) C 0 dX5_setPointOf_11 rfl rfl ?_
    refine r_bipush (q := 14) (v := (12 : Int32)) C dX5_setPointOf_12 (by decide) rfl ?_
    refine r_icmp_lt (t := 21) (q := 17) C dX5_setPointOf_14 (by decide) rfl (fun c5 => ?_) (fun c5 => ?_)
    · replace hf := m_if1 hf c5
      refine r_iload_n (q := 22) C 0 dX5_setPointOf_21 rfl rfl ?_
      refine r_istore_n (q := 23) (L' := [(3, .int v2), (2, .int v2), (0, .ref a0), (1, .int p1)]) C dX5_setPointOf_22 rfl rfl (by decide) rfl ?_
      refine r_iconst (q := 24) (v := (0 : Int32)) C dX5_setPointOf_23 (by decide) rfl ?_
      refine r_istore (q := 26) (L' := [(4, .int (0 : Int32)), (3, .int v2), (2, .int v2), (0, .ref a0), (1, .int p1)]) C dX5_setPointOf_24 rfl (by decide) rfl ?_
      obtain ⟨j37, ej37, hf⟩ := m_jp_of hf
      have J37 : ∀ (v6 : Int32), j37 v6 = some rZ9 → m_G x Z S 7 0 0 52 [(0, .ref a0), (1, .int p1), (2, .int v2), (3, .int v6)] [] := by
        intro v6 hf
        rw [ej37] at hf
        refine r_iload_n (q := 53) C 3 dX5_setPointOf_52 rfl rfl ?_
        refine r_iload_n (q := 54) C 2 dX5_setPointOf_53 rfl rfl ?_
        obtain ⟨j7, ej7, hf⟩ := m_jp_of hf
        have J7 : ∀ (v8 : Int32), j7 v8 = some rZ9 → m_G x Z S 7 0 0 64 [(0, .ref a0), (1, .int p1), (2, .int v2), (3, .int v6)] [.int v8] := by
          intro v8 hf
          rw [ej7] at hf
          refine r_istore (q := 66) (L' := [(4, .int v8), (0, .ref a0), (1, .int p1), (2, .int v2), (3, .int v6)]) C dX5_setPointOf_64 rfl (by decide) rfl ?_
          refine r_aload_n (q := 67) C 1 dX5_setPointOf_66 rfl rfl ?_
          obtain ⟨b9, e10, hf⟩ := m_b1_of hf
          refine gf_X5_21 (q := 70) C dX5_setPointOf_67 g1 e10 rfl ?_
          refine r_iload (q := 72) C 0 dX5_setPointOf_70 rfl rfl ?_
          obtain ⟨g11, hf⟩ := m_gd_of hf
          obtain ⟨g12, hf⟩ := m_gd_of hf
          refine r_iald (q := 73) C dX5_setPointOf_72 ⟨g11, g12⟩ rfl ?_
          refine r_aload_n (q := 74) C 1 dX5_setPointOf_73 rfl rfl ?_
          refine gf_X5_21 (q := 77) C dX5_setPointOf_74 g1 e10 rfl ?_
          refine r_iload_n (q := 78) C 4 dX5_setPointOf_77 rfl rfl ?_
          obtain ⟨g13, hf⟩ := m_gd_of hf
          refine r_iald (q := 79) C dX5_setPointOf_78 ⟨g11, g13⟩ rfl ?_
          refine r_isub (q := 80) C dX5_setPointOf_79 rfl ?_
          refine r_iload_n (q := 81) C 4 dX5_setPointOf_80 rfl rfl ?_
          refine r_iload_n (q := 82) C 3 dX5_setPointOf_81 rfl rfl ?_
          obtain ⟨j14, ej14, hf⟩ := m_jp_of hf
          have J14 : ∀ (v15 : Int32), j14 v15 = some rZ9 → m_G x Z S 7 0 0 92 [(0, .ref a0), (1, .int p1), (3, .int v6), (4, .int v8)] [.int v15, .int ((S.1 b9 v8.toNatClampNeg) - (S.1 b9 v6.toNatClampNeg))] := by
            intro v15 hf
            rw [ej14] at hf
            refine r_iadd (q := 93) C dX5_setPointOf_92 rfl ?_
            obtain ⟨v16, e17, hf⟩ := m_lt_of hf
            refine r_nm e17 ?_
            refine r_istore (q := 95) (L' := [(5, .int v16), (0, .ref a0), (1, .int p1), (3, .int v6), (4, .int v8)]) C dX5_setPointOf_93 rfl (by decide) rfl ?_
            refine r_iload_n (q := 96) C 2 dX5_setPointOf_95 rfl rfl ?_
            refine r_aload_n (q := 97) C 1 dX5_setPointOf_96 rfl rfl ?_
            obtain ⟨b18, e19, hf⟩ := m_b1_of hf
            refine gf_X5_21 (q := 100) C dX5_setPointOf_97 g1 e19 rfl ?_
            refine r_iload_n (q := 101) C 3 dX5_setPointOf_100 rfl rfl ?_
            obtain ⟨g20, hf⟩ := m_gd_of hf
            obtain ⟨g21, hf⟩ := m_gd_of hf
            refine r_iald (q := 102) C dX5_setPointOf_101 ⟨g20, g21⟩ rfl ?_
            refine r_isub (q := 103) C dX5_setPointOf_102 rfl ?_
            refine r_iload_n (q := 104) C 2 dX5_setPointOf_103 rfl rfl ?_
            refine r_aload_n (q := 105) C 1 dX5_setPointOf_104 rfl rfl ?_
            refine gf_X5_21 (q := 108) C dX5_setPointOf_105 g1 e19 rfl ?_
            refine r_iload_n (q := 109) C 3 dX5_setPointOf_108 rfl rfl ?_
            obtain ⟨g22, hf⟩ := m_gd_of hf
            refine r_iald (q := 110) C dX5_setPointOf_109 ⟨g20, g22⟩ rfl ?_
            obtain ⟨j23, ej23, hf⟩ := m_jp_of hf
            have J23 : ∀ (v24 : Int32), j23 v24 = some rZ9 → m_G x Z S 7 0 0 120 [(0, .ref a0), (3, .int v6), (4, .int v8), (5, .int v16)] [.int v24, .int (p1 - (S.1 b18 v6.toNatClampNeg))] := by
              intro v24 hf
              rw [ej23] at hf
              refine r_iadd (q := 121) C dX5_setPointOf_120 rfl ?_
              obtain ⟨v25, e26, hf⟩ := m_lt_of hf
              refine r_nm e26 ?_
              refine r_istore (q := 123) (L' := [(6, .int v25), (0, .ref a0), (3, .int v6), (4, .int v8), (5, .int v16)]) C dX5_setPointOf_121 rfl (by decide) rfl ?_
              refine r_aload_n (q := 124) C 1 dX5_setPointOf_123 rfl rfl ?_
              obtain ⟨b27, e28, hf⟩ := m_b1_of hf
              refine gf_X5_25 (q := 127) C dX5_setPointOf_124 g1 e28 rfl ?_
              refine r_iload_n (q := 128) C 2 dX5_setPointOf_127 rfl rfl ?_
              obtain ⟨g29, hf⟩ := m_gd_of hf
              obtain ⟨g30, hf⟩ := m_gd_of hf
              refine r_iald (q := 129) C dX5_setPointOf_128 ⟨g29, g30⟩ rfl ?_
              refine r_aload_n (q := 130) C 1 dX5_setPointOf_129 rfl rfl ?_
              refine gf_X5_25 (q := 133) C dX5_setPointOf_130 g1 e28 rfl ?_
              refine r_iload (q := 135) C 3 dX5_setPointOf_133 rfl rfl ?_
              obtain ⟨g31, hf⟩ := m_gd_of hf
              refine r_iald (q := 136) C dX5_setPointOf_135 ⟨g29, g31⟩ rfl ?_
              refine r_iload (q := 138) C 0 dX5_setPointOf_136 rfl rfl ?_
              refine r_iload (q := 140) C 4 dX5_setPointOf_138 rfl rfl ?_
              obtain ⟨v33, h32, hf⟩ := m_b1_of hf
              refine r_callSN (mc := 0) (ms := 0) (q := 143) (st1 := [.int v33]) C (c_X8_onLine hl h32) rfl (by decide +kernel) w_486 w_2 w_487 hd_X8_onLine rfl rfl rfl ⟨(Nat.le_of_ble_eq_true rfl), (Nat.le_of_ble_eq_true rfl)⟩ (Nat.le_of_ble_eq_true rfl) ⟨(Nat.le_of_ble_eq_true rfl), (Nat.le_of_ble_eq_true rfl)⟩ dX5_setPointOf_140 rfl rfl ?_
              obtain rfl := m_so1 hf
              exact r_iret C F dX5_setPointOf_143
            refine r_icmp_ge (t := 119) (q := 113) C dX5_setPointOf_110 (by decide) rfl (fun c34 => ?_) (fun c34 => ?_)
            · replace hf := m_if1 hf c34
              refine r_iconst (q := 120) (v := (0 : Int32)) C dX5_setPointOf_119 (by decide) rfl ?_
              refine r_sub [1, 3, 4, 0] rfl ?_
              exact J23 (0 : Int32) hf
            · replace hf := m_if0 hf c34
              refine r_sipush (q := 116) (v := (365 : Int32)) C dX5_setPointOf_113 (by decide) rfl ?_
              refine r_goto (t := 120) C dX5_setPointOf_116 (by decide) ?_
              refine r_sub [1, 3, 4, 0] rfl ?_
              exact J23 (365 : Int32) hf
          refine r_icmp_ne (t := 91) (q := 85) C dX5_setPointOf_82 (by decide) rfl (fun c35 => ?_) (fun c35 => ?_)
          · replace hf := m_if1 hf c35
            refine r_iconst (q := 92) (v := (0 : Int32)) C dX5_setPointOf_91 (by decide) rfl ?_
            refine r_sub [1, 2, 4, 0] rfl ?_
            exact J14 (0 : Int32) hf
          · replace hf := m_if0 hf (fun z => z c35)
            refine r_sipush (q := 88) (v := (365 : Int32)) C dX5_setPointOf_85 (by decide) rfl ?_
            refine r_goto (t := 92) C dX5_setPointOf_88 (by decide) ?_
            refine r_sub [1, 2, 4, 0] rfl ?_
            exact J14 (365 : Int32) hf
        refine r_icmp_ne (t := 61) (q := 57) C dX5_setPointOf_54 (by decide) rfl (fun c36 => ?_) (fun c36 => ?_)
        · replace hf := m_if1 hf c36
          refine r_iload_n (q := 62) C 3 dX5_setPointOf_61 rfl rfl ?_
          refine r_iconst (q := 63) (v := (1 : Int32)) C dX5_setPointOf_62 (by decide) rfl ?_
          refine r_iadd (q := 64) C dX5_setPointOf_63 rfl ?_
          exact J7 (v6 + (1 : Int32)) hf
        · replace hf := m_if0 hf (fun z => z c36)
          refine r_iconst (q := 58) (v := (0 : Int32)) C dX5_setPointOf_57 (by decide) rfl ?_
          refine r_goto (t := 64) C dX5_setPointOf_58 (by decide) ?_
          exact J7 (0 : Int32) hf
      have LL43 : ∀ (fu42 : Nat) (v38 : Int32) (v39 : Int32), m_fx (F_X5_setPointOf_26 Z S a0 p1 v2 j37) fu42 (v38, v39) = some rZ9 → m_G x Z S 7 0 0 26 [(0, .ref a0), (1, .int p1), (2, .int v2), (3, .int v38), (4, .int v39)] [] := by
        intro fu42
        induction fu42 with
        | zero => intros; rename_i hf; cases hf
        | succ fu42 ih41 =>
          intro v38 v39 hf
          replace hf : F_X5_setPointOf_26 Z S a0 p1 v2 j37 (m_fx (F_X5_setPointOf_26 Z S a0 p1 v2 j37) fu42) (v38, v39) = some rZ9 := hf
          unfold F_X5_setPointOf_26 at hf
          dsimp only at hf
          refine r_iload (q := 28) C 4 dX5_setPointOf_26 rfl rfl ?_
          refine r_iload_n (q := 29) C 2 dX5_setPointOf_28 rfl rfl ?_
          refine r_icmp_gt (t := 52) (q := 32) C dX5_setPointOf_29 (by decide) rfl (fun c44 => ?_) (fun c44 => ?_)
          · replace hf := m_if1 hf c44
            refine r_sub [0, 1, 2, 3] rfl ?_
            exact J37 v38 hf
          · replace hf := m_if0 hf c44
            refine r_aload_n (q := 33) C 0 dX5_setPointOf_32 rfl rfl ?_
            obtain ⟨b45, e46, hf⟩ := m_b1_of hf
            refine gf_X5_21 (q := 36) C dX5_setPointOf_33 g1 e46 rfl ?_
            refine r_iload (q := 38) C 4 dX5_setPointOf_36 rfl rfl ?_
            obtain ⟨g47, hf⟩ := m_gd_of hf
            obtain ⟨g48, hf⟩ := m_gd_of hf
            refine r_iald (q := 39) C dX5_setPointOf_38 ⟨g47, g48⟩ rfl ?_
            refine r_iload_n (q := 40) C 1 dX5_setPointOf_39 rfl rfl ?_
            refine r_icmp_gt (t := 46) (q := 43) C dX5_setPointOf_40 (by decide) rfl (fun c49 => ?_) (fun c49 => ?_)
            · replace hf := m_if1 hf c49
              obtain ⟨v50, e51, hf⟩ := m_lt_of hf
              refine r_iinc (q := 49) (v := v50) (L' := [(4, .int v50), (0, .ref a0), (1, .int p1), (2, .int v2), (3, .int v38)]) C 4 dX5_setPointOf_46 rfl (by rw [e51]; rfl) rfl (by decide) rfl ?_
              refine r_goto (t := 26) C dX5_setPointOf_49 (by decide) ?_
              refine r_sub [1, 2, 3, 4, 0] rfl ?_
              exact ih41 v38 v50 hf
            · replace hf := m_if0 hf c49
              refine r_iload (q := 45) C 4 dX5_setPointOf_43 rfl rfl ?_
              refine r_istore_n (q := 46) (L' := [(3, .int v39), (0, .ref a0), (1, .int p1), (2, .int v2), (4, .int v39)]) C dX5_setPointOf_45 rfl rfl (by decide) rfl ?_
              obtain ⟨v52, e53, hf⟩ := m_lt_of hf
              refine r_iinc (q := 49) (v := v52) (L' := [(4, .int v52), (3, .int v39), (0, .ref a0), (1, .int p1), (2, .int v2)]) C 4 dX5_setPointOf_46 rfl (by rw [e53]; rfl) rfl (by decide) rfl ?_
              refine r_goto (t := 26) C dX5_setPointOf_49 (by decide) ?_
              refine r_sub [2, 3, 4, 1, 0] rfl ?_
              exact ih41 v39 v52 hf
      refine r_sub [3, 4, 2, 1, 0] rfl ?_
      exact LL43 100000 v2 (0 : Int32) hf
    · replace hf := m_if0 hf c5
      refine r_sipush (q := 20) (v := (500 : Int32)) C dX5_setPointOf_17 (by decide) rfl ?_
      obtain rfl := m_so1 hf
      exact r_iret C F dX5_setPointOf_20
def f_X4_humidity (Z : m_Z) (S : m_S) (a0 : Nat) (p1 : Nat) : Option (Int32) := m_gd (m_ok Z a0 4) (m_b1 (f_X4_day Z S a0) (fun v3 => m_gd (m_ok Z p1 5) (m_b1 (f_X5_setPointOf Z S p1 v3) (fun v6 => m_lt (v6 + (S.1 a0 1)) (fun v7 => (if 0 ≤ v7 then (if v7 ≤ (1000 : Int32) then some v7 else some (1000 : Int32)) else some (0 : Int32)))))))
abbrev rm_X4_humidity : Room := { frames := 2, cells := 0, slots := 0, locals := 49 }
theorem hd_X4_humidity : yX4_humidity.cls = RX4 ∧ yX4_humidity.cls ≠ "java/lang/invoke/MethodHandle" ∧ yX4_humidity.cls ≠ "java/lang/invoke/VarHandle" ∧ (parseMethodDescriptor yX4_humidity.desc).map (fun d => d.parameters.length) = some 1 := by decide +kernel
set_option maxHeartbeats 4000000 in
set_option maxRecDepth 100000 in
theorem c_X4_humidity {l : Launch} (hl : l.stackTraces = false) {Z : m_Z} {S : m_S} {a0 : Nat} {p1 : Nat} {rZ9 : Int32} (hf : f_X4_humidity Z S a0 p1 = some rZ9) : m_Ct l yX4_humidity (.code yX4_humidity cX4_humidity 3 (some .int) :: m_ws) rm_X4_humidity (fun f => [.ref a0, .ref p1]) Z S (some (.int rZ9)) S := by
  unfold f_X4_humidity at hf
  refine m_ent hl (by decide) (fun _ => Nat.le_of_ble_eq_true rfl) (fun x C F => ?_)
  have C : m_H x l RX4 cX4_humidity 3 rm_X4_humidity := C
  show m_G x Z S 3 0 0 0 [(0, .ref a0), (1, .ref p1)] []
  refine r_aload_n (q := 1) C 1 dX4_humidity_0 rfl rfl ?_
  refine r_aload_n (q := 2) C 0 dX4_humidity_1 rfl rfl ?_
  obtain ⟨g1, hf⟩ := m_gd_of hf
  obtain ⟨v3, h2, hf⟩ := m_b1_of hf
  refine r_callV (mc := 0) (ms := 0) (q := 5) (st1 := [.int v3, .ref p1]) C (c_X4_day hl h2) rfl w_548 w_533 w_534 w_9 w_535 hd_X4_day rfl (by decide) g1 rfl rfl rfl ⟨(Nat.le_of_ble_eq_true rfl), (Nat.le_of_ble_eq_true rfl)⟩ (Nat.le_of_ble_eq_true rfl) ⟨(Nat.le_of_ble_eq_true rfl), (Nat.le_of_ble_eq_true rfl)⟩ dX4_humidity_2 rfl rfl ?_
  obtain ⟨g4, hf⟩ := m_gd_of hf
  obtain ⟨v6, h5, hf⟩ := m_b1_of hf
  refine r_callV (mc := 0) (ms := 0) (q := 8) (st1 := [.int v6]) C (c_X5_setPointOf hl h5) rfl w_549 w_550 w_551 w_4 w_552 hd_X5_setPointOf rfl (by decide) g4 rfl rfl rfl ⟨(Nat.le_of_ble_eq_true rfl), (Nat.le_of_ble_eq_true rfl)⟩ (Nat.le_of_ble_eq_true rfl) ⟨(Nat.le_of_ble_eq_true rfl), (Nat.le_of_ble_eq_true rfl)⟩ dX4_humidity_5 rfl rfl ?_
  refine r_aload_n (q := 9) C 0 dX4_humidity_8 rfl rfl ?_
  refine gf_X4_15 (q := 12) C dX4_humidity_9 g1 rfl ?_
  refine r_iadd (q := 13) C dX4_humidity_12 rfl ?_
  obtain ⟨v7, e8, hf⟩ := m_lt_of hf
  refine r_nm e8 ?_
  refine r_istore_n (q := 14) (L' := [(2, .int v7), (0, .ref a0), (1, .ref p1)]) C dX4_humidity_13 rfl rfl (by decide) rfl ?_
  refine r_iload_n (q := 15) C 0 dX4_humidity_14 rfl rfl ?_
  refine r_if_ge (t := 20) (q := 18) C dX4_humidity_15 (by decide) rfl (fun c9 => ?_) (fun c9 => ?_)
  · replace hf := m_if1 hf c9
    refine r_iload_n (q := 21) C 0 dX4_humidity_20 rfl rfl ?_
    refine r_sipush (q := 24) (v := (1000 : Int32)) C dX4_humidity_21 (by decide) rfl ?_
    refine r_icmp_le (t := 33) (q := 27) C dX4_humidity_24 (by decide) rfl (fun c10 => ?_) (fun c10 => ?_)
    · replace hf := m_if1 hf c10
      refine r_iload_n (q := 34) C 0 dX4_humidity_33 rfl rfl ?_
      obtain rfl := m_so1 hf
      exact r_iret C F dX4_humidity_34
    · replace hf := m_if0 hf c10
      refine r_sipush (q := 30) (v := (1000 : Int32)) C dX4_humidity_27 (by decide) rfl ?_
      refine r_goto (t := 34) C dX4_humidity_30 (by decide) ?_
      obtain rfl := m_so1 hf
      exact r_iret C F dX4_humidity_34
  · replace hf := m_if0 hf c9
    refine r_iconst (q := 19) (v := (0 : Int32)) C dX4_humidity_18 (by decide) rfl ?_
    obtain rfl := m_so1 hf
    exact r_iret C F dX4_humidity_19
def f_X5_visitorsAt (Z : m_Z) (S : m_S) (a0 : Nat) (p1 : Int32) : Option (Int32) := (if p1 < 0 then some (0 : Int32) else m_gd (m_ok Z a0 5) (m_b1 (S.2.2 a0 5) (fun b3 => m_gd (m_ok Z b3 11) ((if p1 < (Int32.ofNat (Z.2.2 b3)) then m_gd (m_in p1 (Z.2.2 b3)) (some (S.1 b3 p1.toNatClampNeg)) else some (0 : Int32))))))
abbrev rm_X5_visitorsAt : Room := { frames := 0, cells := 0, slots := 0, locals := 0 }
theorem hd_X5_visitorsAt : yX5_visitorsAt.cls = RX5 ∧ yX5_visitorsAt.cls ≠ "java/lang/invoke/MethodHandle" ∧ yX5_visitorsAt.cls ≠ "java/lang/invoke/VarHandle" ∧ (parseMethodDescriptor yX5_visitorsAt.desc).map (fun d => d.parameters.length) = some 1 := by decide +kernel
set_option maxHeartbeats 4000000 in
set_option maxRecDepth 100000 in
theorem c_X5_visitorsAt {l : Launch} (hl : l.stackTraces = false) {Z : m_Z} {S : m_S} {a0 : Nat} {p1 : Int32} {rZ9 : Int32} (hf : f_X5_visitorsAt Z S a0 p1 = some rZ9) : m_Ct l yX5_visitorsAt (.code yX5_visitorsAt cX5_visitorsAt 2 (some .int) :: m_ws) rm_X5_visitorsAt (fun f => [.ref a0, .int p1]) Z S (some (.int rZ9)) S := by
  unfold f_X5_visitorsAt at hf
  refine m_ent hl (by decide) (fun _ => Nat.le_of_ble_eq_true rfl) (fun x C F => ?_)
  have C : m_H x l RX5 cX5_visitorsAt 2 rm_X5_visitorsAt := C
  show m_G x Z S 2 0 0 0 [(0, .ref a0), (1, .int p1)] []
  refine r_iload_n (q := 1) C 1 dX5_visitorsAt_0 rfl rfl ?_
  refine r_if_lt (t := 13) (q := 4) C dX5_visitorsAt_1 (by decide) rfl (fun c1 => ?_) (fun c1 => ?_)
  · replace hf := m_if1 hf c1
    refine r_iconst (q := 14) (v := (0 : Int32)) C dX5_visitorsAt_13 (by decide) rfl ?_
    refine r_goto (t := 23) C dX5_visitorsAt_14 (by decide) ?_
    obtain rfl := m_so1 hf
    exact r_iret C F dX5_visitorsAt_23
  · replace hf := m_if0 hf c1
    refine r_iload_n (q := 5) C 1 dX5_visitorsAt_4 rfl rfl ?_
    refine r_aload_n (q := 6) C 0 dX5_visitorsAt_5 rfl rfl ?_
    obtain ⟨g2, hf⟩ := m_gd_of hf
    obtain ⟨b3, e4, hf⟩ := m_b1_of hf
    refine gf_X5_28 (q := 9) C dX5_visitorsAt_6 g2 e4 rfl ?_
    obtain ⟨g5, hf⟩ := m_gd_of hf
    refine r_alen (q := 10) 11 1 C dX5_visitorsAt_9 g5 (by decide) rfl rfl ?_
    refine r_icmp_lt (t := 17) (q := 13) C dX5_visitorsAt_10 (by decide) rfl (fun c6 => ?_) (fun c6 => ?_)
    · replace hf := m_if1 hf c6
      refine r_aload_n (q := 18) C 0 dX5_visitorsAt_17 rfl rfl ?_
      refine gf_X5_28 (q := 21) C dX5_visitorsAt_18 g2 e4 rfl ?_
      refine r_iload_n (q := 22) C 1 dX5_visitorsAt_21 rfl rfl ?_
      obtain ⟨g7, hf⟩ := m_gd_of hf
      refine r_iald (q := 23) C dX5_visitorsAt_22 ⟨g5, g7⟩ rfl ?_
      obtain rfl := m_so1 hf
      exact r_iret C F dX5_visitorsAt_23
    · replace hf := m_if0 hf c6
      refine r_iconst (q := 14) (v := (0 : Int32)) C dX5_visitorsAt_13 (by decide) rfl ?_
      refine r_goto (t := 23) C dX5_visitorsAt_14 (by decide) ?_
      obtain rfl := m_so1 hf
      exact r_iret C F dX5_visitorsAt_23
def f_X4_passHour (Z : m_Z) (S : m_S) (a0 : Nat) (p1 : Nat) : Option (Int32 × m_S) := m_gd (m_ok Z a0 4) (m_b1 (f_X4_hourOfDay Z S a0) (fun v3 => m_gd (m_ok Z p1 5) (m_b1 (f_X5_visitorsAt Z S p1 v3) (fun v6 => m_lt (v6 + (S.1 a0 2)) (fun v7 => m_lt (m_pI S a0 1 ((((S.1 a0 1).toInt64 * (S.1 p1 0).toInt64) / (1000 : Int64)).toInt32 + ((S.1 p1 1) * v7))) (fun S9 => m_lt (m_pI S9 a0 2 (0 : Int32)) (fun S11 => m_b1 (f_X4_humidity Z S11 a0 p1) (fun v14 => m_lt (m_pI S11 a0 0 ((S11.1 a0 0) + (1 : Int32))) (fun S15 => some (v14, S15))))))))))
abbrev rm_X4_passHour : Room := { frames := 3, cells := 0, slots := 0, locals := 71 }
theorem hd_X4_passHour : yX4_passHour.cls = RX4 ∧ yX4_passHour.cls ≠ "java/lang/invoke/MethodHandle" ∧ yX4_passHour.cls ≠ "java/lang/invoke/VarHandle" ∧ (parseMethodDescriptor yX4_passHour.desc).map (fun d => d.parameters.length) = some 1 := by decide +kernel
set_option maxHeartbeats 4000000 in
set_option maxRecDepth 100000 in
theorem c_X4_passHour {l : Launch} (hl : l.stackTraces = false) {Z : m_Z} {S : m_S} {a0 : Nat} {p1 : Nat} {rZ9 : Int32} {SZ9 : m_S} (hf : f_X4_passHour Z S a0 p1 = some (rZ9, SZ9)) : m_Ct l yX4_passHour (.code yX4_passHour cX4_passHour 4 (some .int) :: m_ws) rm_X4_passHour (fun f => [.ref a0, .ref p1]) Z S (some (.int rZ9)) SZ9 := by
  unfold f_X4_passHour at hf
  refine m_ent hl (by decide) (fun _ => Nat.le_of_ble_eq_true rfl) (fun x C F => ?_)
  have C : m_H x l RX4 cX4_passHour 4 rm_X4_passHour := C
  show m_G x Z S 4 0 0 0 [(0, .ref a0), (1, .ref p1)] []
  refine r_aload_n (q := 1) C 1 dX4_passHour_0 rfl rfl ?_
  refine r_aload_n (q := 2) C 0 dX4_passHour_1 rfl rfl ?_
  obtain ⟨g1, hf⟩ := m_gd_of hf
  obtain ⟨v3, h2, hf⟩ := m_b1_of hf
  refine r_callV (mc := 0) (ms := 0) (q := 5) (st1 := [.int v3, .ref p1]) C (c_X4_hourOfDay hl h2) rfl w_807 w_537 w_538 w_9 w_539 hd_X4_hourOfDay rfl (by decide) g1 rfl rfl rfl ⟨(Nat.le_of_ble_eq_true rfl), (Nat.le_of_ble_eq_true rfl)⟩ (Nat.le_of_ble_eq_true rfl) ⟨(Nat.le_of_ble_eq_true rfl), (Nat.le_of_ble_eq_true rfl)⟩ dX4_passHour_2 rfl rfl ?_
  obtain ⟨g4, hf⟩ := m_gd_of hf
  obtain ⟨v6, h5, hf⟩ := m_b1_of hf
  refine r_callV (mc := 0) (ms := 0) (q := 8) (st1 := [.int v6]) C (c_X5_visitorsAt hl h5) rfl w_808 w_571 w_572 w_4 w_573 hd_X5_visitorsAt rfl (by decide) g4 rfl rfl rfl ⟨(Nat.le_of_ble_eq_true rfl), (Nat.le_of_ble_eq_true rfl)⟩ (Nat.le_of_ble_eq_true rfl) ⟨(Nat.le_of_ble_eq_true rfl), (Nat.le_of_ble_eq_true rfl)⟩ dX4_passHour_5 rfl rfl ?_
  refine r_aload_n (q := 9) C 0 dX4_passHour_8 rfl rfl ?_
  refine gf_X4_18 (q := 12) C dX4_passHour_9 g1 rfl ?_
  refine r_iadd (q := 13) C dX4_passHour_12 rfl ?_
  obtain ⟨v7, e8, hf⟩ := m_lt_of hf
  refine r_nm e8 ?_
  refine r_istore_n (q := 14) (L' := [(2, .int v7), (0, .ref a0), (1, .ref p1)]) C dX4_passHour_13 rfl rfl (by decide) rfl ?_
  refine r_aload_n (q := 15) C 1 dX4_passHour_14 rfl rfl ?_
  refine r_aload_n (q := 16) C 1 dX4_passHour_15 rfl rfl ?_
  refine gf_X4_15 (q := 19) C dX4_passHour_16 g1 rfl ?_
  refine r_i2l (q := 20) C dX4_passHour_19 rfl ?_
  refine r_aload_n (q := 21) C 2 dX4_passHour_20 rfl rfl ?_
  refine gf_X4_37 (q := 24) C dX4_passHour_21 g4 rfl ?_
  refine r_i2l (q := 25) C dX4_passHour_24 rfl ?_
  refine r_lmul (q := 26) C dX4_passHour_25 rfl ?_
  refine r_ldc2 (q := 29) C dX4_passHour_26 w_809 rfl ?_
  refine r_ldiv (q := 30) C dX4_passHour_29 (by decide) rfl ?_
  refine r_l2i (q := 31) C dX4_passHour_30 rfl ?_
  refine r_aload_n (q := 32) C 2 dX4_passHour_31 rfl rfl ?_
  refine gf_X4_42 (q := 35) C dX4_passHour_32 g4 rfl ?_
  refine r_iload_n (q := 36) C 0 dX4_passHour_35 rfl rfl ?_
  refine r_imul (q := 37) C dX4_passHour_36 rfl ?_
  refine r_iadd (q := 38) C dX4_passHour_37 rfl ?_
  obtain ⟨S9, e10, hf⟩ := m_lt_of hf
  refine pf_X4_15 (q := 41) C dX4_passHour_38 g1 e10 rfl ?_
  refine r_aload_n (q := 42) C 1 dX4_passHour_41 rfl rfl ?_
  refine r_iconst (q := 43) (v := (0 : Int32)) C dX4_passHour_42 (by decide) rfl ?_
  obtain ⟨S11, e12, hf⟩ := m_lt_of hf
  refine pf_X4_18 (q := 46) C dX4_passHour_43 g1 e12 rfl ?_
  refine r_aload_n (q := 47) C 1 dX4_passHour_46 rfl rfl ?_
  refine r_aload_n (q := 48) C 2 dX4_passHour_47 rfl rfl ?_
  obtain ⟨v14, h13, hf⟩ := m_b1_of hf
  refine r_callV (mc := 0) (ms := 0) (q := 51) (st1 := [.int v14]) C (c_X4_humidity hl h13) rfl w_810 w_545 w_546 w_9 w_547 hd_X4_humidity rfl (by decide) g1 rfl rfl rfl ⟨(Nat.le_of_ble_eq_true rfl), (Nat.le_of_ble_eq_true rfl)⟩ (Nat.le_of_ble_eq_true rfl) ⟨(Nat.le_of_ble_eq_true rfl), (Nat.le_of_ble_eq_true rfl)⟩ dX4_passHour_48 rfl rfl ?_
  refine r_istore_n (q := 52) (L' := [(3, .int v14), (2, .int v7), (0, .ref a0), (1, .ref p1)]) C dX4_passHour_51 rfl rfl (by decide) rfl ?_
  refine r_aload_n (q := 53) C 2 dX4_passHour_52 rfl rfl ?_
  refine r_dup (q := 54) C dX4_passHour_53 rfl rfl ?_
  refine gf_X4_9 (q := 57) C dX4_passHour_54 g1 rfl ?_
  refine r_iconst (q := 58) (v := (1 : Int32)) C dX4_passHour_57 (by decide) rfl ?_
  refine r_iadd (q := 59) C dX4_passHour_58 rfl ?_
  obtain ⟨S15, e16, hf⟩ := m_lt_of hf
  refine pf_X4_9 (q := 62) C dX4_passHour_59 g1 e16 rfl ?_
  refine r_iload_n (q := 63) C 0 dX4_passHour_62 rfl rfl ?_
  obtain ⟨rfl, rfl⟩ := m_so2 hf
  exact r_iret C F dX4_passHour_63
