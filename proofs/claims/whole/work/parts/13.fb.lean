def f_X7_airAt (Z : m_Z) (S : m_S) (a0 : Nat) (p1 : Int32) : Option (Int32) := m_gd (m_ok Z a0 7) (some (((S.1 a0 0) * p1) / (1000 : Int32)))
abbrev rm_X7_airAt : Room := { frames := 0, cells := 0, slots := 0, locals := 0 }
theorem hd_X7_airAt : yX7_airAt.cls = RX7 ∧ yX7_airAt.cls ≠ "java/lang/invoke/MethodHandle" ∧ yX7_airAt.cls ≠ "java/lang/invoke/VarHandle" ∧ (parseMethodDescriptor yX7_airAt.desc).map (fun d => d.parameters.length) = some 1 := by decide +kernel
set_option maxHeartbeats 4000000 in
set_option maxRecDepth 100000 in
theorem c_X7_airAt {l : Launch} (hl : l.stackTraces = false) {Z : m_Z} {S : m_S} {a0 : Nat} {p1 : Int32} {rZ9 : Int32} (hf : f_X7_airAt Z S a0 p1 = some rZ9) : m_Ct l yX7_airAt (.code yX7_airAt cX7_airAt 2 (some .int) :: m_ws) rm_X7_airAt (fun f => [.ref a0, .int p1]) Z S (some (.int rZ9)) S := by
  unfold f_X7_airAt at hf
  refine m_ent hl (by decide) (fun _ => Nat.le_of_ble_eq_true rfl) (fun x C F => ?_)
  have C : m_H x l RX7 cX7_airAt 2 rm_X7_airAt := C
  show m_G x Z S 2 0 0 0 [(0, .ref a0), (1, .int p1)] []
  refine r_aload_n (q := 1) C 0 dX7_airAt_0 rfl rfl ?_
  obtain ⟨g1, hf⟩ := m_gd_of hf
  refine gf_X7_9 (q := 4) C dX7_airAt_1 g1 rfl ?_
  refine r_iload_n (q := 5) C 1 dX7_airAt_4 rfl rfl ?_
  refine r_imul (q := 6) C dX7_airAt_5 rfl ?_
  refine r_sipush (q := 9) (v := (1000 : Int32)) C dX7_airAt_6 (by decide) rfl ?_
  refine r_idiv (q := 10) C dX7_airAt_9 (by decide) rfl ?_
  obtain rfl := m_so1 hf
  exact r_iret C F dX7_airAt_10
def f_X7_fillAir (Z : m_Z) (S : m_S) (a0 : Nat) (p1 : Int32) : Option (Unit × m_S) := m_gd (m_ok Z a0 7) (m_b1 (f_X7_airAt Z S a0 p1) (fun v3 => m_lt (m_pI S a0 4 v3) (fun S4 => some ((), S4))))
abbrev rm_X7_fillAir : Room := { frames := 1, cells := 0, slots := 0, locals := 21 }
theorem hd_X7_fillAir : yX7_fillAir.cls = RX7 ∧ yX7_fillAir.cls ≠ "java/lang/invoke/MethodHandle" ∧ yX7_fillAir.cls ≠ "java/lang/invoke/VarHandle" ∧ (parseMethodDescriptor yX7_fillAir.desc).map (fun d => d.parameters.length) = some 1 := by decide +kernel
set_option maxHeartbeats 4000000 in
set_option maxRecDepth 100000 in
theorem c_X7_fillAir {l : Launch} (hl : l.stackTraces = false) {Z : m_Z} {S : m_S} {a0 : Nat} {p1 : Int32} {rZ9 : Unit} {SZ9 : m_S} (hf : f_X7_fillAir Z S a0 p1 = some (rZ9, SZ9)) : m_Ct l yX7_fillAir (.code yX7_fillAir cX7_fillAir 2 none :: m_ws) rm_X7_fillAir (fun f => [.ref a0, .int p1]) Z S (none) SZ9 := by
  unfold f_X7_fillAir at hf
  refine m_ent hl (by decide) (fun _ => Nat.le_of_ble_eq_true rfl) (fun x C F => ?_)
  have C : m_H x l RX7 cX7_fillAir 2 rm_X7_fillAir := C
  show m_G x Z S 2 0 0 0 [(0, .ref a0), (1, .int p1)] []
  refine r_aload_n (q := 1) C 0 dX7_fillAir_0 rfl rfl ?_
  refine r_aload_n (q := 2) C 0 dX7_fillAir_1 rfl rfl ?_
  refine r_iload_n (q := 3) C 1 dX7_fillAir_2 rfl rfl ?_
  obtain ⟨g1, hf⟩ := m_gd_of hf
  obtain ⟨v3, h2, hf⟩ := m_b1_of hf
  refine r_callV (mc := 0) (ms := 0) (q := 6) (st1 := [.int v3, .ref a0]) C (c_X7_airAt hl h2) rfl w_464 w_465 w_466 w_6 w_467 hd_X7_airAt rfl (by decide) g1 rfl rfl rfl ⟨(Nat.le_of_ble_eq_true rfl), (Nat.le_of_ble_eq_true rfl)⟩ (Nat.le_of_ble_eq_true rfl) ⟨(Nat.le_of_ble_eq_true rfl), (Nat.le_of_ble_eq_true rfl)⟩ dX7_fillAir_3 rfl rfl ?_
  obtain ⟨S4, e5, hf⟩ := m_lt_of hf
  refine pf_X7_24 (q := 9) C dX7_fillAir_6 g1 e5 rfl ?_
  obtain ⟨rfl, rfl⟩ := m_so2 hf
  exact r_vret C F dX7_fillAir_9
def f_X7_begin (Z : m_Z) (S : m_S) (a0 : Nat) (p1 : Int32) (p2 : Int32) (p3 : Int32) : Option (Unit × m_S) := m_gd (m_ok Z a0 7) (m_lt (m_pI S a0 0 p1) (fun S2 => m_lt (m_pI S2 a0 1 p2) (fun S4 => m_lt (m_pI S4 a0 2 (0 : Int32)) (fun S6 => m_lt (m_pI S6 a0 3 (1000 : Int32)) (fun S8 => m_lt (m_pI S8 a0 5 (0 : Int32)) (fun S10 => m_bw (f_X7_fillAir Z S10 a0 p3) (fun _u S13 => some ((), S13))))))))
abbrev rm_X7_begin : Room := { frames := 2, cells := 0, slots := 0, locals := 42 }
theorem hd_X7_begin : yX7_begin.cls = RX7 ∧ yX7_begin.cls ≠ "java/lang/invoke/MethodHandle" ∧ yX7_begin.cls ≠ "java/lang/invoke/VarHandle" ∧ (parseMethodDescriptor yX7_begin.desc).map (fun d => d.parameters.length) = some 3 := by decide +kernel
set_option maxHeartbeats 4000000 in
set_option maxRecDepth 100000 in
theorem c_X7_begin {l : Launch} (hl : l.stackTraces = false) {Z : m_Z} {S : m_S} {a0 : Nat} {p1 : Int32} {p2 : Int32} {p3 : Int32} {rZ9 : Unit} {SZ9 : m_S} (hf : f_X7_begin Z S a0 p1 p2 p3 = some (rZ9, SZ9)) : m_Ct l yX7_begin (.code yX7_begin cX7_begin 4 none :: m_ws) rm_X7_begin (fun f => [.ref a0, .int p1, .int p2, .int p3]) Z S (none) SZ9 := by
  unfold f_X7_begin at hf
  refine m_ent hl (by decide) (fun _ => Nat.le_of_ble_eq_true rfl) (fun x C F => ?_)
  have C : m_H x l RX7 cX7_begin 4 rm_X7_begin := C
  show m_G x Z S 4 0 0 0 [(0, .ref a0), (1, .int p1), (2, .int p2), (3, .int p3)] []
  refine r_aload_n (q := 1) C 0 dX7_begin_0 rfl rfl ?_
  refine r_iload_n (q := 2) C 1 dX7_begin_1 rfl rfl ?_
  obtain ⟨g1, hf⟩ := m_gd_of hf
  obtain ⟨S2, e3, hf⟩ := m_lt_of hf
  refine pf_X7_9 (q := 5) C dX7_begin_2 g1 e3 rfl ?_
  refine r_aload_n (q := 6) C 0 dX7_begin_5 rfl rfl ?_
  refine r_iload_n (q := 7) C 2 dX7_begin_6 rfl rfl ?_
  obtain ⟨S4, e5, hf⟩ := m_lt_of hf
  refine pf_X7_15 (q := 10) C dX7_begin_7 g1 e5 rfl ?_
  refine r_aload_n (q := 11) C 0 dX7_begin_10 rfl rfl ?_
  refine r_iconst (q := 12) (v := (0 : Int32)) C dX7_begin_11 (by decide) rfl ?_
  obtain ⟨S6, e7, hf⟩ := m_lt_of hf
  refine pf_X7_18 (q := 15) C dX7_begin_12 g1 e7 rfl ?_
  refine r_aload_n (q := 16) C 0 dX7_begin_15 rfl rfl ?_
  refine r_sipush (q := 19) (v := (1000 : Int32)) C dX7_begin_16 (by decide) rfl ?_
  obtain ⟨S8, e9, hf⟩ := m_lt_of hf
  refine pf_X7_21 (q := 22) C dX7_begin_19 g1 e9 rfl ?_
  refine r_aload_n (q := 23) C 0 dX7_begin_22 rfl rfl ?_
  refine r_iconst (q := 24) (v := (0 : Int32)) C dX7_begin_23 (by decide) rfl ?_
  obtain ⟨S10, e11, hf⟩ := m_lt_of hf
  refine pf_X7_27 (q := 27) C dX7_begin_24 g1 e11 rfl ?_
  refine r_aload_n (q := 28) C 0 dX7_begin_27 rfl rfl ?_
  refine r_iload_n (q := 29) C 3 dX7_begin_28 rfl rfl ?_
  obtain ⟨_u, S13, h12, hf⟩ := m_bw_of hf
  refine r_callV (mc := 0) (ms := 0) (q := 32) (st1 := []) C (c_X7_fillAir hl h12) rfl w_460 w_461 w_462 w_6 w_463 hd_X7_fillAir rfl (by decide) g1 rfl rfl rfl ⟨(Nat.le_of_ble_eq_true rfl), (Nat.le_of_ble_eq_true rfl)⟩ (Nat.le_of_ble_eq_true rfl) ⟨(Nat.le_of_ble_eq_true rfl), (Nat.le_of_ble_eq_true rfl)⟩ dX7_begin_29 rfl rfl ?_
  obtain ⟨rfl, rfl⟩ := m_so2 hf
  exact r_vret C F dX7_begin_32
def f_X7_isFull (Z : m_Z) (S : m_S) (a0 : Nat) : Option (Int32) := m_gd (m_ok Z a0 7) ((if (S.1 a0 5) < (5 : Int32) then some (0 : Int32) else some (1 : Int32)))
abbrev rm_X7_isFull : Room := { frames := 0, cells := 0, slots := 0, locals := 0 }
theorem hd_X7_isFull : yX7_isFull.cls = RX7 ∧ yX7_isFull.cls ≠ "java/lang/invoke/MethodHandle" ∧ yX7_isFull.cls ≠ "java/lang/invoke/VarHandle" ∧ (parseMethodDescriptor yX7_isFull.desc).map (fun d => d.parameters.length) = some 0 := by decide +kernel
set_option maxHeartbeats 4000000 in
set_option maxRecDepth 100000 in
theorem c_X7_isFull {l : Launch} (hl : l.stackTraces = false) {Z : m_Z} {S : m_S} {a0 : Nat} {rZ9 : Int32} (hf : f_X7_isFull Z S a0 = some rZ9) : m_Ct l yX7_isFull (.code yX7_isFull cX7_isFull 1 (some .boolean) :: m_ws) rm_X7_isFull (fun f => [.ref a0]) Z S (some (.int rZ9)) S := by
  unfold f_X7_isFull at hf
  refine m_ent hl (by decide) (fun _ => Nat.le_of_ble_eq_true rfl) (fun x C F => ?_)
  have C : m_H x l RX7 cX7_isFull 1 rm_X7_isFull := C
  show m_G x Z S 1 0 0 0 [(0, .ref a0)] []
  refine r_aload_n (q := 1) C 0 dX7_isFull_0 rfl rfl ?_
  obtain ⟨g1, hf⟩ := m_gd_of hf
  refine gf_X7_27 (q := 4) C dX7_isFull_1 g1 rfl ?_
  refine r_iconst (q := 5) (v := (5 : Int32)) C dX7_isFull_4 (by decide) rfl ?_
  refine r_icmp_lt (t := 12) (q := 8) C dX7_isFull_5 (by decide) rfl (fun c2 => ?_) (fun c2 => ?_)
  · replace hf := m_if1 hf c2
    refine r_iconst (q := 13) (v := (0 : Int32)) C dX7_isFull_12 (by decide) rfl ?_
    obtain rfl := m_so1 hf
    exact r_zret C F (by decide) dX7_isFull_13
  · replace hf := m_if0 hf c2
    refine r_iconst (q := 9) (v := (1 : Int32)) C dX7_isFull_8 (by decide) rfl ?_
    refine r_goto (t := 13) C dX7_isFull_9 (by decide) ?_
    obtain rfl := m_so1 hf
    exact r_zret C F (by decide) dX7_isFull_13
def f_X7_put (Z : m_Z) (S : m_S) (a0 : Nat) (p1 : Int32) (p2 : Nat) (p3 : Int32) (p4 : Int32) : Option (Unit × m_S) := m_gd (m_ok Z a0 7) (m_b1 (S.2.2 a0 6) (fun b2 => m_gd (m_ok Z b2 14) ((if (Int32.ofNat (Z.2.2 b2)) ≤ (S.1 a0 5) then some ((), S) else m_gd (m_in (S.1 a0 5) (Z.2.2 b2)) (m_b1 (S.2.2 b2 (S.1 a0 5).toNatClampNeg) (fun b7 => m_gd (m_ok Z b7 0) (m_bw (f_X0_begin Z S b7 p1 p2 p3 p4) (fun _u S11 => m_lt (m_pI S11 a0 5 ((S11.1 a0 5) + (1 : Int32))) (fun S12 => some ((), S12))))))))))
abbrev rm_X7_put : Room := { frames := 1, cells := 0, slots := 0, locals := 24 }
theorem hd_X7_put : yX7_put.cls = RX7 ∧ yX7_put.cls ≠ "java/lang/invoke/MethodHandle" ∧ yX7_put.cls ≠ "java/lang/invoke/VarHandle" ∧ (parseMethodDescriptor yX7_put.desc).map (fun d => d.parameters.length) = some 4 := by decide +kernel
set_option maxHeartbeats 4000000 in
set_option maxRecDepth 100000 in
theorem c_X7_put {l : Launch} (hl : l.stackTraces = false) {Z : m_Z} {S : m_S} {a0 : Nat} {p1 : Int32} {p2 : Nat} {p3 : Int32} {p4 : Int32} {rZ9 : Unit} {SZ9 : m_S} (hf : f_X7_put Z S a0 p1 p2 p3 p4 = some (rZ9, SZ9)) : m_Ct l yX7_put (.code yX7_put cX7_put 5 none :: m_ws) rm_X7_put (fun f => [.ref a0, .int p1, .ref p2, .int p3, .int p4]) Z S (none) SZ9 := by
  unfold f_X7_put at hf
  refine m_ent hl (by decide) (fun _ => Nat.le_of_ble_eq_true rfl) (fun x C F => ?_)
  have C : m_H x l RX7 cX7_put 5 rm_X7_put := C
  show m_G x Z S 5 0 0 0 [(0, .ref a0), (1, .int p1), (2, .ref p2), (3, .int p3), (4, .int p4)] []
  refine r_aload_n (q := 1) C 0 dX7_put_0 rfl rfl ?_
  obtain ⟨g1, hf⟩ := m_gd_of hf
  refine gf_X7_27 (q := 4) C dX7_put_1 g1 rfl ?_
  refine r_aload_n (q := 5) C 0 dX7_put_4 rfl rfl ?_
  obtain ⟨b2, e3, hf⟩ := m_b1_of hf
  refine gf_X7_32 (q := 8) C dX7_put_5 g1 e3 rfl ?_
  obtain ⟨g4, hf⟩ := m_gd_of hf
  refine r_alen (q := 9) 14 4 C dX7_put_8 g4 (by decide) rfl rfl ?_
  refine r_icmp_ge (t := 39) (q := 12) C dX7_put_9 (by decide) rfl (fun c5 => ?_) (fun c5 => ?_)
  · replace hf := m_if1 hf c5
    obtain ⟨rfl, rfl⟩ := m_so2 hf
    exact r_vret C F dX7_put_39
  · replace hf := m_if0 hf c5
    refine r_aload_n (q := 13) C 0 dX7_put_12 rfl rfl ?_
    refine gf_X7_32 (q := 16) C dX7_put_13 g1 e3 rfl ?_
    refine r_aload_n (q := 17) C 0 dX7_put_16 rfl rfl ?_
    refine gf_X7_27 (q := 20) C dX7_put_17 g1 rfl ?_
    obtain ⟨g6, hf⟩ := m_gd_of hf
    obtain ⟨b7, e8, hf⟩ := m_b1_of hf
    refine r_aald14 (q := 21) C dX7_put_20 ⟨g4, g6⟩ e8 rfl ?_
    refine r_iload_n (q := 22) C 1 dX7_put_21 rfl rfl ?_
    refine r_aload_n (q := 23) C 2 dX7_put_22 rfl rfl ?_
    refine r_iload_n (q := 24) C 3 dX7_put_23 rfl rfl ?_
    refine r_iload (q := 26) C 4 dX7_put_24 rfl rfl ?_
    obtain ⟨g9, hf⟩ := m_gd_of hf
    obtain ⟨_u, S11, h10, hf⟩ := m_bw_of hf
    refine r_callV (mc := 0) (ms := 0) (q := 29) (st1 := []) C (c_X0_begin hl h10) rfl w_493 w_494 w_495 w_7 w_496 hd_X0_begin rfl (by decide) g9 rfl rfl rfl ⟨(Nat.le_of_ble_eq_true rfl), (Nat.le_of_ble_eq_true rfl)⟩ (Nat.le_of_ble_eq_true rfl) ⟨(Nat.le_of_ble_eq_true rfl), (Nat.le_of_ble_eq_true rfl)⟩ dX7_put_26 rfl rfl ?_
    refine r_aload_n (q := 30) C 0 dX7_put_29 rfl rfl ?_
    refine r_dup (q := 31) C dX7_put_30 rfl rfl ?_
    refine gf_X7_27 (q := 34) C dX7_put_31 g1 rfl ?_
    refine r_iconst (q := 35) (v := (1 : Int32)) C dX7_put_34 (by decide) rfl ?_
    refine r_iadd (q := 36) C dX7_put_35 rfl ?_
    obtain ⟨S12, e13, hf⟩ := m_lt_of hf
    refine pf_X7_27 (q := 39) C dX7_put_36 g1 e13 rfl ?_
    obtain ⟨rfl, rfl⟩ := m_so2 hf
    exact r_vret C F dX7_put_39
def F_X7_copyFrom_50 (Z : m_Z) (a0 : Nat) (p1 : Nat) (j16 : (m_S → Option (Unit × m_S))) (lp19 : (Int32 × m_S) → Option (Unit × m_S)) (p42 : (Int32 × m_S)) : Option (Unit × m_S) := match p42 with
  | (v17, S18) => (if (S18.1 a0 5) ≤ v17 then j16 S18 else m_b1 (S18.2.2 a0 6) (fun b24 => m_gd (m_ok Z b24 14) ((if (Int32.ofNat (Z.2.2 b24)) ≤ v17 then j16 S18 else m_gd (m_in v17 (Z.2.2 b24)) (m_b1 (S18.2.2 b24 v17.toNatClampNeg) (fun b29 => m_b1 (S18.2.2 p1 6) (fun b31 => m_gd (m_ok Z b31 14) (m_gd (m_in v17 (Z.2.2 b31)) (m_b1 (S18.2.2 b31 v17.toNatClampNeg) (fun b35 => m_gd (m_ok Z b29 0) (m_bw (f_X0_copyFrom Z S18 b29 b35) (fun _u S39 => m_lt (v17 + (1 : Int32)) (fun v40 => lp19 (v40, S39))))))))))))))
def f_X7_copyFrom (Z : m_Z) (S : m_S) (a0 : Nat) (p1 : Nat) : Option (Unit × m_S) := m_gd (m_ok Z p1 7) (m_gd (m_ok Z a0 7) (m_lt (m_pI S a0 0 (S.1 p1 0)) (fun S3 => m_lt (m_pI S3 a0 1 (S3.1 p1 1)) (fun S5 => m_lt (m_pI S5 a0 2 (S5.1 p1 2)) (fun S7 => m_lt (m_pI S7 a0 3 (S7.1 p1 3)) (fun S9 => m_lt (m_pI S9 a0 4 (S9.1 p1 4)) (fun S11 => m_lt (m_pI S11 a0 5 (S11.1 p1 5)) (fun S13 => m_jp (fun (S15 : m_S) => some ((), S15)) (fun j16 => m_fx (F_X7_copyFrom_50 Z a0 p1 j16) 100000 ((0 : Int32), S13))))))))))
abbrev rm_X7_copyFrom : Room := { frames := 1, cells := 0, slots := 0, locals := 21 }
theorem hd_X7_copyFrom : yX7_copyFrom.cls = RX7 ∧ yX7_copyFrom.cls ≠ "java/lang/invoke/MethodHandle" ∧ yX7_copyFrom.cls ≠ "java/lang/invoke/VarHandle" ∧ (parseMethodDescriptor yX7_copyFrom.desc).map (fun d => d.parameters.length) = some 1 := by decide +kernel
set_option maxHeartbeats 4000000 in
set_option maxRecDepth 100000 in
theorem c_X7_copyFrom {l : Launch} (hl : l.stackTraces = false) {Z : m_Z} {S : m_S} {a0 : Nat} {p1 : Nat} {rZ9 : Unit} {SZ9 : m_S} (hf : f_X7_copyFrom Z S a0 p1 = some (rZ9, SZ9)) : m_Ct l yX7_copyFrom (.code yX7_copyFrom cX7_copyFrom 3 none :: m_ws) rm_X7_copyFrom (fun f => [.ref a0, .ref p1]) Z S (none) SZ9 := by
  unfold f_X7_copyFrom at hf
  refine m_ent hl (by decide) (fun _ => Nat.le_of_ble_eq_true rfl) (fun x C F => ?_)
  have C : m_H x l RX7 cX7_copyFrom 3 rm_X7_copyFrom := C
  show m_G x Z S 3 0 0 0 [(0, .ref a0), (1, .ref p1)] []
  refine r_aload_n (q := 1) C 0 dX7_copyFrom_0 rfl rfl ?_
  refine r_aload_n (q := 2) C 1 dX7_copyFrom_1 rfl rfl ?_
  obtain ⟨g1, hf⟩ := m_gd_of hf
  refine gf_X7_9 (q := 5) C dX7_copyFrom_2 g1 rfl ?_
  obtain ⟨g2, hf⟩ := m_gd_of hf
  obtain ⟨S3, e4, hf⟩ := m_lt_of hf
  refine pf_X7_9 (q := 8) C dX7_copyFrom_5 g2 e4 rfl ?_
  refine r_aload_n (q := 9) C 0 dX7_copyFrom_8 rfl rfl ?_
  refine r_aload_n (q := 10) C 1 dX7_copyFrom_9 rfl rfl ?_
  refine gf_X7_15 (q := 13) C dX7_copyFrom_10 g1 rfl ?_
  obtain ⟨S5, e6, hf⟩ := m_lt_of hf
  refine pf_X7_15 (q := 16) C dX7_copyFrom_13 g2 e6 rfl ?_
  refine r_aload_n (q := 17) C 0 dX7_copyFrom_16 rfl rfl ?_
  refine r_aload_n (q := 18) C 1 dX7_copyFrom_17 rfl rfl ?_
  refine gf_X7_18 (q := 21) C dX7_copyFrom_18 g1 rfl ?_
  obtain ⟨S7, e8, hf⟩ := m_lt_of hf
  refine pf_X7_18 (q := 24) C dX7_copyFrom_21 g2 e8 rfl ?_
  refine r_aload_n (q := 25) C 0 dX7_copyFrom_24 rfl rfl ?_
  refine r_aload_n (q := 26) C 1 dX7_copyFrom_25 rfl rfl ?_
  refine gf_X7_21 (q := 29) C dX7_copyFrom_26 g1 rfl ?_
  obtain ⟨S9, e10, hf⟩ := m_lt_of hf
  refine pf_X7_21 (q := 32) C dX7_copyFrom_29 g2 e10 rfl ?_
  refine r_aload_n (q := 33) C 0 dX7_copyFrom_32 rfl rfl ?_
  refine r_aload_n (q := 34) C 1 dX7_copyFrom_33 rfl rfl ?_
  refine gf_X7_24 (q := 37) C dX7_copyFrom_34 g1 rfl ?_
  obtain ⟨S11, e12, hf⟩ := m_lt_of hf
  refine pf_X7_24 (q := 40) C dX7_copyFrom_37 g2 e12 rfl ?_
  refine r_aload_n (q := 41) C 0 dX7_copyFrom_40 rfl rfl ?_
  refine r_aload_n (q := 42) C 1 dX7_copyFrom_41 rfl rfl ?_
  refine gf_X7_27 (q := 45) C dX7_copyFrom_42 g1 rfl ?_
  obtain ⟨S13, e14, hf⟩ := m_lt_of hf
  refine pf_X7_27 (q := 48) C dX7_copyFrom_45 g2 e14 rfl ?_
  refine r_iconst (q := 49) (v := (0 : Int32)) C dX7_copyFrom_48 (by decide) rfl ?_
  refine r_istore_n (q := 50) (L' := [(2, .int (0 : Int32)), (0, .ref a0), (1, .ref p1)]) C dX7_copyFrom_49 rfl rfl (by decide) rfl ?_
  obtain ⟨j16, ej16, hf⟩ := m_jp_of hf
  have J16 : ∀ (S15 : m_S), j16 S15 = some (rZ9, SZ9) → m_G x Z S15 3 0 0 88 [] [] := by
    intro S15 hf
    rw [ej16] at hf
    obtain ⟨rfl, rfl⟩ := m_so2 hf
    exact r_vret C F dX7_copyFrom_88
  have LL22 : ∀ (fu21 : Nat) (v17 : Int32) (S18 : m_S), m_fx (F_X7_copyFrom_50 Z a0 p1 j16) fu21 (v17, S18) = some (rZ9, SZ9) → m_G x Z S18 3 0 0 50 [(0, .ref a0), (1, .ref p1), (2, .int v17)] [] := by
    intro fu21
    induction fu21 with
    | zero => intros; rename_i hf; cases hf
    | succ fu21 ih20 =>
      intro v17 S18 hf
      replace hf : F_X7_copyFrom_50 Z a0 p1 j16 (m_fx (F_X7_copyFrom_50 Z a0 p1 j16) fu21) (v17, S18) = some (rZ9, SZ9) := hf
      unfold F_X7_copyFrom_50 at hf
      dsimp only at hf
      refine r_iload_n (q := 51) C 2 dX7_copyFrom_50 rfl rfl ?_
      refine r_aload_n (q := 52) C 0 dX7_copyFrom_51 rfl rfl ?_
      refine gf_X7_27 (q := 55) C dX7_copyFrom_52 g2 rfl ?_
      refine r_icmp_ge (t := 88) (q := 58) C dX7_copyFrom_55 (by decide) rfl (fun c23 => ?_) (fun c23 => ?_)
      · replace hf := m_if1 hf c23
        refine r_sub [] rfl ?_
        exact J16 S18 hf
      · replace hf := m_if0 hf c23
        refine r_iload_n (q := 59) C 2 dX7_copyFrom_58 rfl rfl ?_
        refine r_aload_n (q := 60) C 0 dX7_copyFrom_59 rfl rfl ?_
        obtain ⟨b24, e25, hf⟩ := m_b1_of hf
        refine gf_X7_32 (q := 63) C dX7_copyFrom_60 g2 e25 rfl ?_
        obtain ⟨g26, hf⟩ := m_gd_of hf
        refine r_alen (q := 64) 14 4 C dX7_copyFrom_63 g26 (by decide) rfl rfl ?_
        refine r_icmp_ge (t := 88) (q := 67) C dX7_copyFrom_64 (by decide) rfl (fun c27 => ?_) (fun c27 => ?_)
        · replace hf := m_if1 hf c27
          refine r_sub [] rfl ?_
          exact J16 S18 hf
        · replace hf := m_if0 hf c27
          refine r_aload_n (q := 68) C 0 dX7_copyFrom_67 rfl rfl ?_
          refine gf_X7_32 (q := 71) C dX7_copyFrom_68 g2 e25 rfl ?_
          refine r_iload_n (q := 72) C 2 dX7_copyFrom_71 rfl rfl ?_
          obtain ⟨g28, hf⟩ := m_gd_of hf
          obtain ⟨b29, e30, hf⟩ := m_b1_of hf
          refine r_aald14 (q := 73) C dX7_copyFrom_72 ⟨g26, g28⟩ e30 rfl ?_
          refine r_aload_n (q := 74) C 1 dX7_copyFrom_73 rfl rfl ?_
          obtain ⟨b31, e32, hf⟩ := m_b1_of hf
          refine gf_X7_32 (q := 77) C dX7_copyFrom_74 g1 e32 rfl ?_
          refine r_iload_n (q := 78) C 2 dX7_copyFrom_77 rfl rfl ?_
          obtain ⟨g33, hf⟩ := m_gd_of hf
          obtain ⟨g34, hf⟩ := m_gd_of hf
          obtain ⟨b35, e36, hf⟩ := m_b1_of hf
          refine r_aald14 (q := 79) C dX7_copyFrom_78 ⟨g33, g34⟩ e36 rfl ?_
          obtain ⟨g37, hf⟩ := m_gd_of hf
          obtain ⟨_u, S39, h38, hf⟩ := m_bw_of hf
          refine r_callV (mc := 0) (ms := 0) (q := 82) (st1 := []) C (c_X0_copyFrom hl h38) rfl w_509 w_510 w_511 w_7 w_512 hd_X0_copyFrom rfl (by decide) g37 rfl rfl rfl ⟨(Nat.le_of_ble_eq_true rfl), (Nat.le_of_ble_eq_true rfl)⟩ (Nat.le_of_ble_eq_true rfl) ⟨(Nat.le_of_ble_eq_true rfl), (Nat.le_of_ble_eq_true rfl)⟩ dX7_copyFrom_79 rfl rfl ?_
          obtain ⟨v40, e41, hf⟩ := m_lt_of hf
          refine r_iinc (q := 85) (v := v40) (L' := [(2, .int v40), (0, .ref a0), (1, .ref p1)]) C 2 dX7_copyFrom_82 rfl (by rw [e41]; rfl) rfl (by decide) rfl ?_
          refine r_goto (t := 50) C dX7_copyFrom_85 (by decide) ?_
          refine r_sub [1, 2, 0] rfl ?_
          exact ih20 v40 S39 hf
  refine r_sub [1, 2, 0] rfl ?_
  exact LL22 100000 (0 : Int32) S13 hf
def F_X7_moistureOfCassettes_4 (Z : m_Z) (S : m_S) (a0 : Nat) (j2 : (Int32 → Option (Int32))) (lp5 : (Int32 × Int32) → Option (Int32)) (p23 : (Int32 × Int32)) : Option (Int32) := match p23 with
  | (v3, v4) => m_gd (m_ok Z a0 7) ((if (S.1 a0 5) ≤ v4 then j2 v3 else m_b1 (S.2.2 a0 6) (fun b11 => m_gd (m_ok Z b11 14) ((if (Int32.ofNat (Z.2.2 b11)) ≤ v4 then j2 v3 else m_gd (m_in v4 (Z.2.2 b11)) (m_b1 (S.2.2 b11 v4.toNatClampNeg) (fun b16 => m_gd (m_ok Z b16 0) (m_lt (v3 + (S.1 b16 3)) (fun v19 => m_lt (v4 + (1 : Int32)) (fun v21 => lp5 (v19, v21)))))))))))
def f_X7_moistureOfCassettes (Z : m_Z) (S : m_S) (a0 : Nat) : Option (Int32) := m_jp (fun (v1 : Int32) => some v1) (fun j2 => m_fx (F_X7_moistureOfCassettes_4 Z S a0 j2) 100000 ((0 : Int32), (0 : Int32)))
abbrev rm_X7_moistureOfCassettes : Room := { frames := 0, cells := 0, slots := 0, locals := 0 }
theorem hd_X7_moistureOfCassettes : yX7_moistureOfCassettes.cls = RX7 ∧ yX7_moistureOfCassettes.cls ≠ "java/lang/invoke/MethodHandle" ∧ yX7_moistureOfCassettes.cls ≠ "java/lang/invoke/VarHandle" ∧ (parseMethodDescriptor yX7_moistureOfCassettes.desc).map (fun d => d.parameters.length) = some 0 := by decide +kernel
set_option maxHeartbeats 4000000 in
set_option maxRecDepth 100000 in
theorem c_X7_moistureOfCassettes {l : Launch} (hl : l.stackTraces = false) {Z : m_Z} {S : m_S} {a0 : Nat} {rZ9 : Int32} (hf : f_X7_moistureOfCassettes Z S a0 = some rZ9) : m_Ct l yX7_moistureOfCassettes (.code yX7_moistureOfCassettes cX7_moistureOfCassettes 3 (some .int) :: m_ws) rm_X7_moistureOfCassettes (fun f => [.ref a0]) Z S (some (.int rZ9)) S := by
  unfold f_X7_moistureOfCassettes at hf
  refine m_ent hl (by decide) (fun _ => Nat.le_of_ble_eq_true rfl) (fun x C F => ?_)
  have C : m_H x l RX7 cX7_moistureOfCassettes 3 rm_X7_moistureOfCassettes := C
  show m_G x Z S 3 0 0 0 [(0, .ref a0)] []
  refine r_iconst (q := 1) (v := (0 : Int32)) C dX7_moistureOfCassettes_0 (by decide) rfl ?_
  refine r_istore_n (q := 2) (L' := [(1, .int (0 : Int32)), (0, .ref a0)]) C dX7_moistureOfCassettes_1 rfl rfl (by decide) rfl ?_
  refine r_iconst (q := 3) (v := (0 : Int32)) C dX7_moistureOfCassettes_2 (by decide) rfl ?_
  refine r_istore_n (q := 4) (L' := [(2, .int (0 : Int32)), (1, .int (0 : Int32)), (0, .ref a0)]) C dX7_moistureOfCassettes_3 rfl rfl (by decide) rfl ?_
  obtain ⟨j2, ej2, hf⟩ := m_jp_of hf
  have J2 : ∀ (v1 : Int32), j2 v1 = some rZ9 → m_G x Z S 3 0 0 39 [(1, .int v1)] [] := by
    intro v1 hf
    rw [ej2] at hf
    refine r_iload_n (q := 40) C 0 dX7_moistureOfCassettes_39 rfl rfl ?_
    obtain rfl := m_so1 hf
    exact r_iret C F dX7_moistureOfCassettes_40
  have LL8 : ∀ (fu7 : Nat) (v3 : Int32) (v4 : Int32), m_fx (F_X7_moistureOfCassettes_4 Z S a0 j2) fu7 (v3, v4) = some rZ9 → m_G x Z S 3 0 0 4 [(0, .ref a0), (1, .int v3), (2, .int v4)] [] := by
    intro fu7
    induction fu7 with
    | zero => intros; rename_i hf; cases hf
    | succ fu7 ih6 =>
      intro v3 v4 hf
      replace hf : F_X7_moistureOfCassettes_4 Z S a0 j2 (m_fx (F_X7_moistureOfCassettes_4 Z S a0 j2) fu7) (v3, v4) = some rZ9 := hf
      unfold F_X7_moistureOfCassettes_4 at hf
      dsimp only at hf
      refine r_iload_n (q := 5) C 2 dX7_moistureOfCassettes_4 rfl rfl ?_
      refine r_aload_n (q := 6) C 0 dX7_moistureOfCassettes_5 rfl rfl ?_
      obtain ⟨g9, hf⟩ := m_gd_of hf
      refine gf_X7_27 (q := 9) C dX7_moistureOfCassettes_6 g9 rfl ?_
      refine r_icmp_ge (t := 39) (q := 12) C dX7_moistureOfCassettes_9 (by decide) rfl (fun c10 => ?_) (fun c10 => ?_)
      · replace hf := m_if1 hf c10
        refine r_sub [1] rfl ?_
        exact J2 v3 hf
      · replace hf := m_if0 hf c10
        refine r_iload_n (q := 13) C 2 dX7_moistureOfCassettes_12 rfl rfl ?_
        refine r_aload_n (q := 14) C 0 dX7_moistureOfCassettes_13 rfl rfl ?_
        obtain ⟨b11, e12, hf⟩ := m_b1_of hf
        refine gf_X7_32 (q := 17) C dX7_moistureOfCassettes_14 g9 e12 rfl ?_
        obtain ⟨g13, hf⟩ := m_gd_of hf
        refine r_alen (q := 18) 14 4 C dX7_moistureOfCassettes_17 g13 (by decide) rfl rfl ?_
        refine r_icmp_ge (t := 39) (q := 21) C dX7_moistureOfCassettes_18 (by decide) rfl (fun c14 => ?_) (fun c14 => ?_)
        · replace hf := m_if1 hf c14
          refine r_sub [1] rfl ?_
          exact J2 v3 hf
        · replace hf := m_if0 hf c14
          refine r_iload_n (q := 22) C 1 dX7_moistureOfCassettes_21 rfl rfl ?_
          refine r_aload_n (q := 23) C 0 dX7_moistureOfCassettes_22 rfl rfl ?_
          refine gf_X7_32 (q := 26) C dX7_moistureOfCassettes_23 g9 e12 rfl ?_
          refine r_iload_n (q := 27) C 2 dX7_moistureOfCassettes_26 rfl rfl ?_
          obtain ⟨g15, hf⟩ := m_gd_of hf
          obtain ⟨b16, e17, hf⟩ := m_b1_of hf
          refine r_aald14 (q := 28) C dX7_moistureOfCassettes_27 ⟨g13, g15⟩ e17 rfl ?_
          obtain ⟨g18, hf⟩ := m_gd_of hf
          refine gf_X7_53 (q := 31) C dX7_moistureOfCassettes_28 g18 rfl ?_
          refine r_iadd (q := 32) C dX7_moistureOfCassettes_31 rfl ?_
          obtain ⟨v19, e20, hf⟩ := m_lt_of hf
          refine r_nm e20 ?_
          refine r_istore_n (q := 33) (L' := [(1, .int v19), (0, .ref a0), (2, .int v4)]) C dX7_moistureOfCassettes_32 rfl rfl (by decide) rfl ?_
          obtain ⟨v21, e22, hf⟩ := m_lt_of hf
          refine r_iinc (q := 36) (v := v21) (L' := [(2, .int v21), (1, .int v19), (0, .ref a0)]) C 2 dX7_moistureOfCassettes_33 rfl (by rw [e22]; rfl) rfl (by decide) rfl ?_
          refine r_goto (t := 4) C dX7_moistureOfCassettes_36 (by decide) ?_
          refine r_sub [2, 1, 0] rfl ?_
          exact ih6 v19 v21 hf
  refine r_sub [2, 1, 0] rfl ?_
  exact LL8 100000 (0 : Int32) (0 : Int32) hf
def f_X7_moisture (Z : m_Z) (S : m_S) (a0 : Nat) : Option (Int32) := m_gd (m_ok Z a0 7) (m_b1 (f_X7_moistureOfCassettes Z S a0) (fun v3 => some ((S.1 a0 4) + v3)))
abbrev rm_X7_moisture : Room := { frames := 1, cells := 0, slots := 0, locals := 22 }
theorem hd_X7_moisture : yX7_moisture.cls = RX7 ∧ yX7_moisture.cls ≠ "java/lang/invoke/MethodHandle" ∧ yX7_moisture.cls ≠ "java/lang/invoke/VarHandle" ∧ (parseMethodDescriptor yX7_moisture.desc).map (fun d => d.parameters.length) = some 0 := by decide +kernel
set_option maxHeartbeats 4000000 in
set_option maxRecDepth 100000 in
theorem c_X7_moisture {l : Launch} (hl : l.stackTraces = false) {Z : m_Z} {S : m_S} {a0 : Nat} {rZ9 : Int32} (hf : f_X7_moisture Z S a0 = some rZ9) : m_Ct l yX7_moisture (.code yX7_moisture cX7_moisture 1 (some .int) :: m_ws) rm_X7_moisture (fun f => [.ref a0]) Z S (some (.int rZ9)) S := by
  unfold f_X7_moisture at hf
  refine m_ent hl (by decide) (fun _ => Nat.le_of_ble_eq_true rfl) (fun x C F => ?_)
  have C : m_H x l RX7 cX7_moisture 1 rm_X7_moisture := C
  show m_G x Z S 1 0 0 0 [(0, .ref a0)] []
  refine r_aload_n (q := 1) C 0 dX7_moisture_0 rfl rfl ?_
  obtain ⟨g1, hf⟩ := m_gd_of hf
  refine gf_X7_24 (q := 4) C dX7_moisture_1 g1 rfl ?_
  refine r_aload_n (q := 5) C 0 dX7_moisture_4 rfl rfl ?_
  obtain ⟨v3, h2, hf⟩ := m_b1_of hf
  refine r_callV (mc := 0) (ms := 0) (q := 8) (st1 := [.int v3, .int (S.1 a0 4)]) C (c_X7_moistureOfCassettes hl h2) rfl w_517 w_518 w_519 w_6 w_520 hd_X7_moistureOfCassettes rfl (by decide) g1 rfl rfl rfl ⟨(Nat.le_of_ble_eq_true rfl), (Nat.le_of_ble_eq_true rfl)⟩ (Nat.le_of_ble_eq_true rfl) ⟨(Nat.le_of_ble_eq_true rfl), (Nat.le_of_ble_eq_true rfl)⟩ dX7_moisture_5 rfl rfl ?_
  refine r_iadd (q := 9) C dX7_moisture_8 rfl ?_
  obtain rfl := m_so1 hf
  exact r_iret C F dX7_moisture_9
def F_X6_begin_25 (Z : m_Z) (a0 : Nat) (p1 : Nat) (j13 : (m_S → Option (Unit × m_S))) (lp16 : (Int32 × m_S) → Option (Unit × m_S)) (p57 : (Int32 × m_S)) : Option (Unit × m_S) := match p57 with
  | (v14, S15) => (if (S15.1 a0 2) ≤ v14 then j13 S15 else (if (6 : Int32) ≤ v14 then j13 S15 else m_b1 (S15.2.2 a0 3) (fun b22 => m_gd (m_ok Z b22 18) (m_gd (m_in v14 (Z.2.2 b22)) (m_b1 (S15.2.2 b22 v14.toNatClampNeg) (fun b26 => m_b1 (S15.2.2 p1 9) (fun b28 => m_gd (m_ok Z b28 18) (m_gd (m_in v14 (Z.2.2 b28)) (m_b1 (S15.2.2 b28 v14.toNatClampNeg) (fun b32 => m_gd (m_ok Z b26 7) (m_bw (f_X7_copyFrom Z S15 b26 b32) (fun _u S36 => m_b1 (S36.2.2 a0 4) (fun b37 => m_gd (m_ok Z b37 16) (m_gd (m_in v14 (Z.2.2 b37)) (m_b1 (S36.2.2 b37 v14.toNatClampNeg) (fun b41 => m_b1 (S36.2.2 a0 3) (fun b43 => m_gd (m_ok Z b43 18) (m_gd (m_in v14 (Z.2.2 b43)) (m_b1 (S36.2.2 b43 v14.toNatClampNeg) (fun b47 => m_gd (m_ok Z b47 7) (m_b1 (f_X7_moisture Z S36 b47) (fun v51 => m_gd (m_ok Z b41 2) (m_bw (f_X2_begin Z S36 b41 v51) (fun _u S54 => m_lt (v14 + (1 : Int32)) (fun v55 => lp16 (v55, S54))))))))))))))))))))))))))
def f_X6_begin (Z : m_Z) (S : m_S) (a0 : Nat) (p1 : Nat) : Option (Unit × m_S) := m_gd (m_ok Z a0 6) (m_b1 (S.2.2 a0 0) (fun b2 => m_gd (m_ok Z b2 4) (m_bw (f_X4_begin Z S b2) (fun _u S6 => m_gd (m_ok Z p1 5) (m_lt (m_pI S6 a0 1 (S6.1 p1 10)) (fun S8 => m_lt (m_pI S8 a0 2 (S8.1 p1 8)) (fun S10 => m_jp (fun (S12 : m_S) => some ((), S12)) (fun j13 => m_fx (F_X6_begin_25 Z a0 p1 j13) 100000 ((0 : Int32), S10)))))))))
abbrev rm_X6_begin : Room := { frames := 2, cells := 0, slots := 0, locals := 43 }
theorem hd_X6_begin : yX6_begin.cls = RX6 ∧ yX6_begin.cls ≠ "java/lang/invoke/MethodHandle" ∧ yX6_begin.cls ≠ "java/lang/invoke/VarHandle" ∧ (parseMethodDescriptor yX6_begin.desc).map (fun d => d.parameters.length) = some 1 := by decide +kernel
set_option maxHeartbeats 4000000 in
set_option maxRecDepth 100000 in
theorem c_X6_begin {l : Launch} (hl : l.stackTraces = false) {Z : m_Z} {S : m_S} {a0 : Nat} {p1 : Nat} {rZ9 : Unit} {SZ9 : m_S} (hf : f_X6_begin Z S a0 p1 = some (rZ9, SZ9)) : m_Ct l yX6_begin (.code yX6_begin cX6_begin 3 none :: m_ws) rm_X6_begin (fun f => [.ref a0, .ref p1]) Z S (none) SZ9 := by
  unfold f_X6_begin at hf
  refine m_ent hl (by decide) (fun _ => Nat.le_of_ble_eq_true rfl) (fun x C F => ?_)
  have C : m_H x l RX6 cX6_begin 3 rm_X6_begin := C
  show m_G x Z S 3 0 0 0 [(0, .ref a0), (1, .ref p1)] []
  refine r_aload_n (q := 1) C 0 dX6_begin_0 rfl rfl ?_
  obtain ⟨g1, hf⟩ := m_gd_of hf
  obtain ⟨b2, e3, hf⟩ := m_b1_of hf
  refine gf_X6_12 (q := 4) C dX6_begin_1 g1 e3 rfl ?_
  obtain ⟨g4, hf⟩ := m_gd_of hf
  obtain ⟨_u, S6, h5, hf⟩ := m_bw_of hf
  refine r_callV (mc := 0) (ms := 0) (q := 7) (st1 := []) C (c_X4_begin hl h5) rfl w_501 w_502 w_503 w_9 w_504 hd_X4_begin rfl (by decide) g4 rfl rfl rfl ⟨(Nat.le_of_ble_eq_true rfl), (Nat.le_of_ble_eq_true rfl)⟩ (Nat.le_of_ble_eq_true rfl) ⟨(Nat.le_of_ble_eq_true rfl), (Nat.le_of_ble_eq_true rfl)⟩ dX6_begin_4 rfl rfl ?_
  refine r_aload_n (q := 8) C 0 dX6_begin_7 rfl rfl ?_
  refine r_aload_n (q := 9) C 1 dX6_begin_8 rfl rfl ?_
  obtain ⟨g7, hf⟩ := m_gd_of hf
  refine gf_X6_42 (q := 12) C dX6_begin_9 g7 rfl ?_
  obtain ⟨S8, e9, hf⟩ := m_lt_of hf
  refine pf_X6_18 (q := 15) C dX6_begin_12 g1 e9 rfl ?_
  refine r_aload_n (q := 16) C 0 dX6_begin_15 rfl rfl ?_
  refine r_aload_n (q := 17) C 1 dX6_begin_16 rfl rfl ?_
  refine gf_X6_47 (q := 20) C dX6_begin_17 g7 rfl ?_
  obtain ⟨S10, e11, hf⟩ := m_lt_of hf
  refine pf_X6_22 (q := 23) C dX6_begin_20 g1 e11 rfl ?_
  refine r_iconst (q := 24) (v := (0 : Int32)) C dX6_begin_23 (by decide) rfl ?_
  refine r_istore_n (q := 25) (L' := [(2, .int (0 : Int32)), (0, .ref a0), (1, .ref p1)]) C dX6_begin_24 rfl rfl (by decide) rfl ?_
  obtain ⟨j13, ej13, hf⟩ := m_jp_of hf
  have J13 : ∀ (S12 : m_S), j13 S12 = some (rZ9, SZ9) → m_G x Z S12 3 0 0 78 [] [] := by
    intro S12 hf
    rw [ej13] at hf
    obtain ⟨rfl, rfl⟩ := m_so2 hf
    exact r_vret C F dX6_begin_78
  have LL19 : ∀ (fu18 : Nat) (v14 : Int32) (S15 : m_S), m_fx (F_X6_begin_25 Z a0 p1 j13) fu18 (v14, S15) = some (rZ9, SZ9) → m_G x Z S15 3 0 0 25 [(0, .ref a0), (1, .ref p1), (2, .int v14)] [] := by
    intro fu18
    induction fu18 with
    | zero => intros; rename_i hf; cases hf
    | succ fu18 ih17 =>
      intro v14 S15 hf
      replace hf : F_X6_begin_25 Z a0 p1 j13 (m_fx (F_X6_begin_25 Z a0 p1 j13) fu18) (v14, S15) = some (rZ9, SZ9) := hf
      unfold F_X6_begin_25 at hf
      dsimp only at hf
      refine r_iload_n (q := 26) C 2 dX6_begin_25 rfl rfl ?_
      refine r_aload_n (q := 27) C 0 dX6_begin_26 rfl rfl ?_
      refine gf_X6_22 (q := 30) C dX6_begin_27 g1 rfl ?_
      refine r_icmp_ge (t := 78) (q := 33) C dX6_begin_30 (by decide) rfl (fun c20 => ?_) (fun c20 => ?_)
      · replace hf := m_if1 hf c20
        refine r_sub [] rfl ?_
        exact J13 S15 hf
      · replace hf := m_if0 hf c20
        refine r_iload_n (q := 34) C 2 dX6_begin_33 rfl rfl ?_
        refine r_bipush (q := 36) (v := (6 : Int32)) C dX6_begin_34 (by decide) rfl ?_
        refine r_icmp_ge (t := 78) (q := 39) C dX6_begin_36 (by decide) rfl (fun c21 => ?_) (fun c21 => ?_)
        · replace hf := m_if1 hf c21
          refine r_sub [] rfl ?_
          exact J13 S15 hf
        · replace hf := m_if0 hf c21
          refine r_aload_n (q := 40) C 0 dX6_begin_39 rfl rfl ?_
          obtain ⟨b22, e23, hf⟩ := m_b1_of hf
          refine gf_X6_27 (q := 43) C dX6_begin_40 g1 e23 rfl ?_
          refine r_iload_n (q := 44) C 2 dX6_begin_43 rfl rfl ?_
          obtain ⟨g24, hf⟩ := m_gd_of hf
          obtain ⟨g25, hf⟩ := m_gd_of hf
          obtain ⟨b26, e27, hf⟩ := m_b1_of hf
          refine r_aald18 (q := 45) C dX6_begin_44 ⟨g24, g25⟩ e27 rfl ?_
          refine r_aload_n (q := 46) C 1 dX6_begin_45 rfl rfl ?_
          obtain ⟨b28, e29, hf⟩ := m_b1_of hf
          refine gf_X6_48 (q := 49) C dX6_begin_46 g7 e29 rfl ?_
          refine r_iload_n (q := 50) C 2 dX6_begin_49 rfl rfl ?_
          obtain ⟨g30, hf⟩ := m_gd_of hf
          obtain ⟨g31, hf⟩ := m_gd_of hf
          obtain ⟨b32, e33, hf⟩ := m_b1_of hf
          refine r_aald18 (q := 51) C dX6_begin_50 ⟨g30, g31⟩ e33 rfl ?_
          obtain ⟨g34, hf⟩ := m_gd_of hf
          obtain ⟨_u, S36, h35, hf⟩ := m_bw_of hf
          refine r_callV (mc := 0) (ms := 0) (q := 54) (st1 := []) C (c_X7_copyFrom hl h35) rfl w_505 w_506 w_507 w_6 w_508 hd_X7_copyFrom rfl (by decide) g34 rfl rfl rfl ⟨(Nat.le_of_ble_eq_true rfl), (Nat.le_of_ble_eq_true rfl)⟩ (Nat.le_of_ble_eq_true rfl) ⟨(Nat.le_of_ble_eq_true rfl), (Nat.le_of_ble_eq_true rfl)⟩ dX6_begin_51 rfl rfl ?_
          refine r_aload_n (q := 55) C 0 dX6_begin_54 rfl rfl ?_
          obtain ⟨b37, e38, hf⟩ := m_b1_of hf
          refine gf_X6_33 (q := 58) C dX6_begin_55 g1 e38 rfl ?_
          refine r_iload_n (q := 59) C 2 dX6_begin_58 rfl rfl ?_
          obtain ⟨g39, hf⟩ := m_gd_of hf
          obtain ⟨g40, hf⟩ := m_gd_of hf
          obtain ⟨b41, e42, hf⟩ := m_b1_of hf
          refine r_aald16 (q := 60) C dX6_begin_59 ⟨g39, g40⟩ e42 rfl ?_
          refine r_aload_n (q := 61) C 0 dX6_begin_60 rfl rfl ?_
          obtain ⟨b43, e44, hf⟩ := m_b1_of hf
          refine gf_X6_27 (q := 64) C dX6_begin_61 g1 e44 rfl ?_
          refine r_iload_n (q := 65) C 2 dX6_begin_64 rfl rfl ?_
          obtain ⟨g45, hf⟩ := m_gd_of hf
          obtain ⟨g46, hf⟩ := m_gd_of hf
          obtain ⟨b47, e48, hf⟩ := m_b1_of hf
          refine r_aald18 (q := 66) C dX6_begin_65 ⟨g45, g46⟩ e48 rfl ?_
          obtain ⟨g49, hf⟩ := m_gd_of hf
          obtain ⟨v51, h50, hf⟩ := m_b1_of hf
          refine r_callV (mc := 0) (ms := 0) (q := 69) (st1 := [.int v51, .ref b41]) C (c_X7_moisture hl h50) rfl w_513 w_514 w_515 w_6 w_516 hd_X7_moisture rfl (by decide) g49 rfl rfl rfl ⟨(Nat.le_of_ble_eq_true rfl), (Nat.le_of_ble_eq_true rfl)⟩ (Nat.le_of_ble_eq_true rfl) ⟨(Nat.le_of_ble_eq_true rfl), (Nat.le_of_ble_eq_true rfl)⟩ dX6_begin_66 rfl rfl ?_
          obtain ⟨g52, hf⟩ := m_gd_of hf
          obtain ⟨_u, S54, h53, hf⟩ := m_bw_of hf
          refine r_callV (mc := 0) (ms := 0) (q := 72) (st1 := []) C (c_X2_begin hl h53) rfl w_521 w_522 w_523 w_10 w_524 hd_X2_begin rfl (by decide) g52 rfl rfl rfl ⟨(Nat.le_of_ble_eq_true rfl), (Nat.le_of_ble_eq_true rfl)⟩ (Nat.le_of_ble_eq_true rfl) ⟨(Nat.le_of_ble_eq_true rfl), (Nat.le_of_ble_eq_true rfl)⟩ dX6_begin_69 rfl rfl ?_
          obtain ⟨v55, e56, hf⟩ := m_lt_of hf
          refine r_iinc (q := 75) (v := v55) (L' := [(2, .int v55), (0, .ref a0), (1, .ref p1)]) C 2 dX6_begin_72 rfl (by rw [e56]; rfl) rfl (by decide) rfl ?_
          refine r_goto (t := 25) C dX6_begin_75 (by decide) ?_
          refine r_sub [1, 2, 0] rfl ?_
          exact ih17 v55 S54 hf
  refine r_sub [1, 2, 0] rfl ?_
  exact LL19 100000 (0 : Int32) S10 hf
def F_X6_cassettesInAll_4 (Z : m_Z) (S : m_S) (a0 : Nat) (j2 : (Int32 → Option (Int32))) (lp5 : (Int32 × Int32) → Option (Int32)) (p23 : (Int32 × Int32)) : Option (Int32) := match p23 with
  | (v3, v4) => m_gd (m_ok Z a0 6) ((if (S.1 a0 2) ≤ v4 then j2 v3 else (if (6 : Int32) ≤ v4 then j2 v3 else m_b1 (S.2.2 a0 3) (fun b12 => m_gd (m_ok Z b12 18) (m_gd (m_in v4 (Z.2.2 b12)) (m_b1 (S.2.2 b12 v4.toNatClampNeg) (fun b16 => m_gd (m_ok Z b16 7) (m_lt (v3 + (S.1 b16 5)) (fun v19 => m_lt (v4 + (1 : Int32)) (fun v21 => lp5 (v19, v21)))))))))))
def f_X6_cassettesInAll (Z : m_Z) (S : m_S) (a0 : Nat) : Option (Int32) := m_jp (fun (v1 : Int32) => some v1) (fun j2 => m_fx (F_X6_cassettesInAll_4 Z S a0 j2) 100000 ((0 : Int32), (0 : Int32)))
abbrev rm_X6_cassettesInAll : Room := { frames := 0, cells := 0, slots := 0, locals := 0 }
theorem hd_X6_cassettesInAll : yX6_cassettesInAll.cls = RX6 ∧ yX6_cassettesInAll.cls ≠ "java/lang/invoke/MethodHandle" ∧ yX6_cassettesInAll.cls ≠ "java/lang/invoke/VarHandle" ∧ (parseMethodDescriptor yX6_cassettesInAll.desc).map (fun d => d.parameters.length) = some 0 := by decide +kernel
set_option maxHeartbeats 4000000 in
set_option maxRecDepth 100000 in
theorem c_X6_cassettesInAll {l : Launch} (hl : l.stackTraces = false) {Z : m_Z} {S : m_S} {a0 : Nat} {rZ9 : Int32} (hf : f_X6_cassettesInAll Z S a0 = some rZ9) : m_Ct l yX6_cassettesInAll (.code yX6_cassettesInAll cX6_cassettesInAll 3 (some .int) :: m_ws) rm_X6_cassettesInAll (fun f => [.ref a0]) Z S (some (.int rZ9)) S := by
  unfold f_X6_cassettesInAll at hf
  refine m_ent hl (by decide) (fun _ => Nat.le_of_ble_eq_true rfl) (fun x C F => ?_)
  have C : m_H x l RX6 cX6_cassettesInAll 3 rm_X6_cassettesInAll := C
  show m_G x Z S 3 0 0 0 [(0, .ref a0)] []
  refine r_iconst (q := 1) (v := (0 : Int32)) C dX6_cassettesInAll_0 (by decide) rfl ?_
  refine r_istore_n (q := 2) (L' := [(1, .int (0 : Int32)), (0, .ref a0)]) C dX6_cassettesInAll_1 rfl rfl (by decide) rfl ?_
  refine r_iconst (q := 3) (v := (0 : Int32)) C dX6_cassettesInAll_2 (by decide) rfl ?_
  refine r_istore_n (q := 4) (L' := [(2, .int (0 : Int32)), (1, .int (0 : Int32)), (0, .ref a0)]) C dX6_cassettesInAll_3 rfl rfl (by decide) rfl ?_
  obtain ⟨j2, ej2, hf⟩ := m_jp_of hf
  have J2 : ∀ (v1 : Int32), j2 v1 = some rZ9 → m_G x Z S 3 0 0 36 [(1, .int v1)] [] := by
    intro v1 hf
    rw [ej2] at hf
    refine r_iload_n (q := 37) C 0 dX6_cassettesInAll_36 rfl rfl ?_
    obtain rfl := m_so1 hf
    exact r_iret C F dX6_cassettesInAll_37
  have LL8 : ∀ (fu7 : Nat) (v3 : Int32) (v4 : Int32), m_fx (F_X6_cassettesInAll_4 Z S a0 j2) fu7 (v3, v4) = some rZ9 → m_G x Z S 3 0 0 4 [(0, .ref a0), (1, .int v3), (2, .int v4)] [] := by
    intro fu7
    induction fu7 with
    | zero => intros; rename_i hf; cases hf
    | succ fu7 ih6 =>
      intro v3 v4 hf
      replace hf : F_X6_cassettesInAll_4 Z S a0 j2 (m_fx (F_X6_cassettesInAll_4 Z S a0 j2) fu7) (v3, v4) = some rZ9 := hf
      unfold F_X6_cassettesInAll_4 at hf
      dsimp only at hf
      refine r_iload_n (q := 5) C 2 dX6_cassettesInAll_4 rfl rfl ?_
      refine r_aload_n (q := 6) C 0 dX6_cassettesInAll_5 rfl rfl ?_
      obtain ⟨g9, hf⟩ := m_gd_of hf
      refine gf_X6_22 (q := 9) C dX6_cassettesInAll_6 g9 rfl ?_
      refine r_icmp_ge (t := 36) (q := 12) C dX6_cassettesInAll_9 (by decide) rfl (fun c10 => ?_) (fun c10 => ?_)
      · replace hf := m_if1 hf c10
        refine r_sub [1] rfl ?_
        exact J2 v3 hf
      · replace hf := m_if0 hf c10
        refine r_iload_n (q := 13) C 2 dX6_cassettesInAll_12 rfl rfl ?_
        refine r_bipush (q := 15) (v := (6 : Int32)) C dX6_cassettesInAll_13 (by decide) rfl ?_
        refine r_icmp_ge (t := 36) (q := 18) C dX6_cassettesInAll_15 (by decide) rfl (fun c11 => ?_) (fun c11 => ?_)
        · replace hf := m_if1 hf c11
          refine r_sub [1] rfl ?_
          exact J2 v3 hf
        · replace hf := m_if0 hf c11
          refine r_iload_n (q := 19) C 1 dX6_cassettesInAll_18 rfl rfl ?_
          refine r_aload_n (q := 20) C 0 dX6_cassettesInAll_19 rfl rfl ?_
          obtain ⟨b12, e13, hf⟩ := m_b1_of hf
          refine gf_X6_27 (q := 23) C dX6_cassettesInAll_20 g9 e13 rfl ?_
          refine r_iload_n (q := 24) C 2 dX6_cassettesInAll_23 rfl rfl ?_
          obtain ⟨g14, hf⟩ := m_gd_of hf
          obtain ⟨g15, hf⟩ := m_gd_of hf
          obtain ⟨b16, e17, hf⟩ := m_b1_of hf
          refine r_aald18 (q := 25) C dX6_cassettesInAll_24 ⟨g14, g15⟩ e17 rfl ?_
          obtain ⟨g18, hf⟩ := m_gd_of hf
          refine gf_X6_66 (q := 28) C dX6_cassettesInAll_25 g18 rfl ?_
          refine r_iadd (q := 29) C dX6_cassettesInAll_28 rfl ?_
          obtain ⟨v19, e20, hf⟩ := m_lt_of hf
          refine r_nm e20 ?_
          refine r_istore_n (q := 30) (L' := [(1, .int v19), (0, .ref a0), (2, .int v4)]) C dX6_cassettesInAll_29 rfl rfl (by decide) rfl ?_
          obtain ⟨v21, e22, hf⟩ := m_lt_of hf
          refine r_iinc (q := 33) (v := v21) (L' := [(2, .int v21), (1, .int v19), (0, .ref a0)]) C 2 dX6_cassettesInAll_30 rfl (by rw [e22]; rfl) rfl (by decide) rfl ?_
          refine r_goto (t := 4) C dX6_cassettesInAll_33 (by decide) ?_
          refine r_sub [2, 1, 0] rfl ?_
          exact ih6 v19 v21 hf
  refine r_sub [2, 1, 0] rfl ?_
  exact LL8 100000 (0 : Int32) (0 : Int32) hf
def F_X6_copyFrom_29 (Z : m_Z) (a0 : Nat) (p1 : Nat) (j15 : (m_S → Option (Unit × m_S))) (lp18 : (Int32 × m_S) → Option (Unit × m_S)) (p56 : (Int32 × m_S)) : Option (Unit × m_S) := match p56 with
  | (v16, S17) => (if (S17.1 a0 2) ≤ v16 then j15 S17 else (if (6 : Int32) ≤ v16 then j15 S17 else m_b1 (S17.2.2 a0 3) (fun b24 => m_gd (m_ok Z b24 18) (m_gd (m_in v16 (Z.2.2 b24)) (m_b1 (S17.2.2 b24 v16.toNatClampNeg) (fun b28 => m_b1 (S17.2.2 p1 3) (fun b30 => m_gd (m_ok Z b30 18) (m_gd (m_in v16 (Z.2.2 b30)) (m_b1 (S17.2.2 b30 v16.toNatClampNeg) (fun b34 => m_gd (m_ok Z b28 7) (m_bw (f_X7_copyFrom Z S17 b28 b34) (fun _u S38 => m_b1 (S38.2.2 a0 4) (fun b39 => m_gd (m_ok Z b39 16) (m_gd (m_in v16 (Z.2.2 b39)) (m_b1 (S38.2.2 b39 v16.toNatClampNeg) (fun b43 => m_b1 (S38.2.2 p1 4) (fun b45 => m_gd (m_ok Z b45 16) (m_gd (m_in v16 (Z.2.2 b45)) (m_b1 (S38.2.2 b45 v16.toNatClampNeg) (fun b49 => m_gd (m_ok Z b43 2) (m_bw (f_X2_copyFrom Z S38 b43 b49) (fun _u S53 => m_lt (v16 + (1 : Int32)) (fun v54 => lp18 (v54, S53))))))))))))))))))))))))
def f_X6_copyFrom (Z : m_Z) (S : m_S) (a0 : Nat) (p1 : Nat) : Option (Unit × m_S) := m_gd (m_ok Z a0 6) (m_b1 (S.2.2 a0 0) (fun b2 => m_gd (m_ok Z p1 6) (m_b1 (S.2.2 p1 0) (fun b5 => m_gd (m_ok Z b2 4) (m_bw (f_X4_copyFrom Z S b2 b5) (fun _u S9 => m_lt (m_pI S9 a0 1 (S9.1 p1 1)) (fun S10 => m_lt (m_pI S10 a0 2 (S10.1 p1 2)) (fun S12 => m_jp (fun (S14 : m_S) => some ((), S14)) (fun j15 => m_fx (F_X6_copyFrom_29 Z a0 p1 j15) 100000 ((0 : Int32), S12))))))))))
abbrev rm_X6_copyFrom : Room := { frames := 2, cells := 0, slots := 0, locals := 61 }
theorem hd_X6_copyFrom : yX6_copyFrom.cls = RX6 ∧ yX6_copyFrom.cls ≠ "java/lang/invoke/MethodHandle" ∧ yX6_copyFrom.cls ≠ "java/lang/invoke/VarHandle" ∧ (parseMethodDescriptor yX6_copyFrom.desc).map (fun d => d.parameters.length) = some 1 := by decide +kernel
set_option maxHeartbeats 4000000 in
set_option maxRecDepth 100000 in
theorem c_X6_copyFrom {l : Launch} (hl : l.stackTraces = false) {Z : m_Z} {S : m_S} {a0 : Nat} {p1 : Nat} {rZ9 : Unit} {SZ9 : m_S} (hf : f_X6_copyFrom Z S a0 p1 = some (rZ9, SZ9)) : m_Ct l yX6_copyFrom (.code yX6_copyFrom cX6_copyFrom 3 none :: m_ws) rm_X6_copyFrom (fun f => [.ref a0, .ref p1]) Z S (none) SZ9 := by
  unfold f_X6_copyFrom at hf
  refine m_ent hl (by decide) (fun _ => Nat.le_of_ble_eq_true rfl) (fun x C F => ?_)
  have C : m_H x l RX6 cX6_copyFrom 3 rm_X6_copyFrom := C
  show m_G x Z S 3 0 0 0 [(0, .ref a0), (1, .ref p1)] []
  refine r_aload_n (q := 1) C 0 dX6_copyFrom_0 rfl rfl ?_
  obtain ⟨g1, hf⟩ := m_gd_of hf
  obtain ⟨b2, e3, hf⟩ := m_b1_of hf
  refine gf_X6_12 (q := 4) C dX6_copyFrom_1 g1 e3 rfl ?_
  refine r_aload_n (q := 5) C 1 dX6_copyFrom_4 rfl rfl ?_
  obtain ⟨g4, hf⟩ := m_gd_of hf
  obtain ⟨b5, e6, hf⟩ := m_b1_of hf
  refine gf_X6_12 (q := 8) C dX6_copyFrom_5 g4 e6 rfl ?_
  obtain ⟨g7, hf⟩ := m_gd_of hf
  obtain ⟨_u, S9, h8, hf⟩ := m_bw_of hf
  refine r_callV (mc := 0) (ms := 0) (q := 11) (st1 := []) C (c_X4_copyFrom hl h8) rfl w_910 w_838 w_839 w_9 w_840 hd_X4_copyFrom rfl (by decide) g7 rfl rfl rfl ⟨(Nat.le_of_ble_eq_true rfl), (Nat.le_of_ble_eq_true rfl)⟩ (Nat.le_of_ble_eq_true rfl) ⟨(Nat.le_of_ble_eq_true rfl), (Nat.le_of_ble_eq_true rfl)⟩ dX6_copyFrom_8 rfl rfl ?_
  refine r_aload_n (q := 12) C 0 dX6_copyFrom_11 rfl rfl ?_
  refine r_aload_n (q := 13) C 1 dX6_copyFrom_12 rfl rfl ?_
  refine gf_X6_18 (q := 16) C dX6_copyFrom_13 g4 rfl ?_
  obtain ⟨S10, e11, hf⟩ := m_lt_of hf
  refine pf_X6_18 (q := 19) C dX6_copyFrom_16 g1 e11 rfl ?_
  refine r_aload_n (q := 20) C 0 dX6_copyFrom_19 rfl rfl ?_
  refine r_aload_n (q := 21) C 1 dX6_copyFrom_20 rfl rfl ?_
  refine gf_X6_22 (q := 24) C dX6_copyFrom_21 g4 rfl ?_
  obtain ⟨S12, e13, hf⟩ := m_lt_of hf
  refine pf_X6_22 (q := 27) C dX6_copyFrom_24 g1 e13 rfl ?_
  refine r_iconst (q := 28) (v := (0 : Int32)) C dX6_copyFrom_27 (by decide) rfl ?_
  refine r_istore_n (q := 29) (L' := [(2, .int (0 : Int32)), (0, .ref a0), (1, .ref p1)]) C dX6_copyFrom_28 rfl rfl (by decide) rfl ?_
  obtain ⟨j15, ej15, hf⟩ := m_jp_of hf
  have J15 : ∀ (S14 : m_S), j15 S14 = some (rZ9, SZ9) → m_G x Z S14 3 0 0 79 [] [] := by
    intro S14 hf
    rw [ej15] at hf
    obtain ⟨rfl, rfl⟩ := m_so2 hf
    exact r_vret C F dX6_copyFrom_79
  have LL21 : ∀ (fu20 : Nat) (v16 : Int32) (S17 : m_S), m_fx (F_X6_copyFrom_29 Z a0 p1 j15) fu20 (v16, S17) = some (rZ9, SZ9) → m_G x Z S17 3 0 0 29 [(0, .ref a0), (1, .ref p1), (2, .int v16)] [] := by
    intro fu20
    induction fu20 with
    | zero => intros; rename_i hf; cases hf
    | succ fu20 ih19 =>
      intro v16 S17 hf
      replace hf : F_X6_copyFrom_29 Z a0 p1 j15 (m_fx (F_X6_copyFrom_29 Z a0 p1 j15) fu20) (v16, S17) = some (rZ9, SZ9) := hf
      unfold F_X6_copyFrom_29 at hf
      dsimp only at hf
      refine r_iload_n (q := 30) C 2 dX6_copyFrom_29 rfl rfl ?_
      refine r_aload_n (q := 31) C 0 dX6_copyFrom_30 rfl rfl ?_
      refine gf_X6_22 (q := 34) C dX6_copyFrom_31 g1 rfl ?_
      refine r_icmp_ge (t := 79) (q := 37) C dX6_copyFrom_34 (by decide) rfl (fun c22 => ?_) (fun c22 => ?_)
      · replace hf := m_if1 hf c22
        refine r_sub [] rfl ?_
        exact J15 S17 hf
      · replace hf := m_if0 hf c22
        refine r_iload_n (q := 38) C 2 dX6_copyFrom_37 rfl rfl ?_
        refine r_bipush (q := 40) (v := (6 : Int32)) C dX6_copyFrom_38 (by decide) rfl ?_
        refine r_icmp_ge (t := 79) (q := 43) C dX6_copyFrom_40 (by decide) rfl (fun c23 => ?_) (fun c23 => ?_)
        · replace hf := m_if1 hf c23
          refine r_sub [] rfl ?_
          exact J15 S17 hf
        · replace hf := m_if0 hf c23
          refine r_aload_n (q := 44) C 0 dX6_copyFrom_43 rfl rfl ?_
          obtain ⟨b24, e25, hf⟩ := m_b1_of hf
          refine gf_X6_27 (q := 47) C dX6_copyFrom_44 g1 e25 rfl ?_
          refine r_iload_n (q := 48) C 2 dX6_copyFrom_47 rfl rfl ?_
          obtain ⟨g26, hf⟩ := m_gd_of hf
          obtain ⟨g27, hf⟩ := m_gd_of hf
          obtain ⟨b28, e29, hf⟩ := m_b1_of hf
          refine r_aald18 (q := 49) C dX6_copyFrom_48 ⟨g26, g27⟩ e29 rfl ?_
          refine r_aload_n (q := 50) C 1 dX6_copyFrom_49 rfl rfl ?_
          obtain ⟨b30, e31, hf⟩ := m_b1_of hf
          refine gf_X6_27 (q := 53) C dX6_copyFrom_50 g4 e31 rfl ?_
          refine r_iload_n (q := 54) C 2 dX6_copyFrom_53 rfl rfl ?_
          obtain ⟨g32, hf⟩ := m_gd_of hf
          obtain ⟨g33, hf⟩ := m_gd_of hf
          obtain ⟨b34, e35, hf⟩ := m_b1_of hf
          refine r_aald18 (q := 55) C dX6_copyFrom_54 ⟨g32, g33⟩ e35 rfl ?_
          obtain ⟨g36, hf⟩ := m_gd_of hf
          obtain ⟨_u, S38, h37, hf⟩ := m_bw_of hf
          refine r_callV (mc := 0) (ms := 0) (q := 58) (st1 := []) C (c_X7_copyFrom hl h37) rfl w_505 w_506 w_507 w_6 w_508 hd_X7_copyFrom rfl (by decide) g36 rfl rfl rfl ⟨(Nat.le_of_ble_eq_true rfl), (Nat.le_of_ble_eq_true rfl)⟩ (Nat.le_of_ble_eq_true rfl) ⟨(Nat.le_of_ble_eq_true rfl), (Nat.le_of_ble_eq_true rfl)⟩ dX6_copyFrom_55 rfl rfl ?_
          refine r_aload_n (q := 59) C 0 dX6_copyFrom_58 rfl rfl ?_
          obtain ⟨b39, e40, hf⟩ := m_b1_of hf
          refine gf_X6_33 (q := 62) C dX6_copyFrom_59 g1 e40 rfl ?_
          refine r_iload_n (q := 63) C 2 dX6_copyFrom_62 rfl rfl ?_
          obtain ⟨g41, hf⟩ := m_gd_of hf
          obtain ⟨g42, hf⟩ := m_gd_of hf
          obtain ⟨b43, e44, hf⟩ := m_b1_of hf
          refine r_aald16 (q := 64) C dX6_copyFrom_63 ⟨g41, g42⟩ e44 rfl ?_
          refine r_aload_n (q := 65) C 1 dX6_copyFrom_64 rfl rfl ?_
          obtain ⟨b45, e46, hf⟩ := m_b1_of hf
          refine gf_X6_33 (q := 68) C dX6_copyFrom_65 g4 e46 rfl ?_
          refine r_iload_n (q := 69) C 2 dX6_copyFrom_68 rfl rfl ?_
          obtain ⟨g47, hf⟩ := m_gd_of hf
          obtain ⟨g48, hf⟩ := m_gd_of hf
          obtain ⟨b49, e50, hf⟩ := m_b1_of hf
          refine r_aald16 (q := 70) C dX6_copyFrom_69 ⟨g47, g48⟩ e50 rfl ?_
          obtain ⟨g51, hf⟩ := m_gd_of hf
          obtain ⟨_u, S53, h52, hf⟩ := m_bw_of hf
          refine r_callV (mc := 0) (ms := 0) (q := 73) (st1 := []) C (c_X2_copyFrom hl h52) rfl w_911 w_912 w_913 w_10 w_914 hd_X2_copyFrom rfl (by decide) g51 rfl rfl rfl ⟨(Nat.le_of_ble_eq_true rfl), (Nat.le_of_ble_eq_true rfl)⟩ (Nat.le_of_ble_eq_true rfl) ⟨(Nat.le_of_ble_eq_true rfl), (Nat.le_of_ble_eq_true rfl)⟩ dX6_copyFrom_70 rfl rfl ?_
          obtain ⟨v54, e55, hf⟩ := m_lt_of hf
          refine r_iinc (q := 76) (v := v54) (L' := [(2, .int v54), (0, .ref a0), (1, .ref p1)]) C 2 dX6_copyFrom_73 rfl (by rw [e55]; rfl) rfl (by decide) rfl ?_
          refine r_goto (t := 29) C dX6_copyFrom_76 (by decide) ?_
          refine r_sub [1, 2, 0] rfl ?_
          exact ih19 v54 S53 hf
  refine r_sub [1, 2, 0] rfl ?_
  exact LL21 100000 (0 : Int32) S12 hf
def F_X7_indexOf_2 (Z : m_Z) (S : m_S) (a0 : Nat) (p1 : Int32) (j1 : (Unit → Option (Int32))) (j3 : (Int32 → Option (Int32))) (lp5 : Int32 → Option (Int32)) (v4 : Int32) : Option (Int32) := m_gd (m_ok Z a0 7) ((if (S.1 a0 5) ≤ v4 then j1 () else m_b1 (S.2.2 a0 6) (fun b11 => m_gd (m_ok Z b11 14) ((if (Int32.ofNat (Z.2.2 b11)) ≤ v4 then j1 () else m_gd (m_in v4 (Z.2.2 b11)) (m_b1 (S.2.2 b11 v4.toNatClampNeg) (fun b16 => m_gd (m_ok Z b16 0) ((if ¬ (S.1 b16 0) = p1 then m_lt (v4 + (1 : Int32)) (fun v20 => lp5 v20) else j3 v4)))))))))
def f_X7_indexOf (Z : m_Z) (S : m_S) (a0 : Nat) (p1 : Int32) : Option (Int32) := m_jp (fun (_ : Unit) => some (-1 : Int32)) (fun j1 => m_jp (fun (v2 : Int32) => some v2) (fun j3 => m_fx (F_X7_indexOf_2 Z S a0 p1 j1 j3) 100000 (0 : Int32)))
abbrev rm_X7_indexOf : Room := { frames := 0, cells := 0, slots := 0, locals := 0 }
theorem hd_X7_indexOf : yX7_indexOf.cls = RX7 ∧ yX7_indexOf.cls ≠ "java/lang/invoke/MethodHandle" ∧ yX7_indexOf.cls ≠ "java/lang/invoke/VarHandle" ∧ (parseMethodDescriptor yX7_indexOf.desc).map (fun d => d.parameters.length) = some 1 := by decide +kernel
set_option maxHeartbeats 4000000 in
set_option maxRecDepth 100000 in
theorem c_X7_indexOf {l : Launch} (hl : l.stackTraces = false) {Z : m_Z} {S : m_S} {a0 : Nat} {p1 : Int32} {rZ9 : Int32} (hf : f_X7_indexOf Z S a0 p1 = some rZ9) : m_Ct l yX7_indexOf (.code yX7_indexOf cX7_indexOf 3 (some .int) :: m_ws) rm_X7_indexOf (fun f => [.ref a0, .int p1]) Z S (some (.int rZ9)) S := by
  unfold f_X7_indexOf at hf
  refine m_ent hl (by decide) (fun _ => Nat.le_of_ble_eq_true rfl) (fun x C F => ?_)
  have C : m_H x l RX7 cX7_indexOf 3 rm_X7_indexOf := C
  show m_G x Z S 3 0 0 0 [(0, .ref a0), (1, .int p1)] []
  refine r_iconst (q := 1) (v := (0 : Int32)) C dX7_indexOf_0 (by decide) rfl ?_
  refine r_istore_n (q := 2) (L' := [(2, .int (0 : Int32)), (0, .ref a0), (1, .int p1)]) C dX7_indexOf_1 rfl rfl (by decide) rfl ?_
  obtain ⟨j1, ej1, hf⟩ := m_jp_of hf
  have J1 : ∀ (_ : Unit), j1 () = some rZ9 → m_G x Z S 3 0 0 40 [] [] := by
    intro _ hf
    rw [ej1] at hf
    refine r_iconst (q := 41) (v := (-1 : Int32)) C dX7_indexOf_40 (by decide) rfl ?_
    obtain rfl := m_so1 hf
    exact r_iret C F dX7_indexOf_41
  obtain ⟨j3, ej3, hf⟩ := m_jp_of hf
  have J3 : ∀ (v2 : Int32), j3 v2 = some rZ9 → m_G x Z S 3 0 0 32 [(2, .int v2)] [] := by
    intro v2 hf
    rw [ej3] at hf
    refine r_iload_n (q := 33) C 0 dX7_indexOf_32 rfl rfl ?_
    obtain rfl := m_so1 hf
    exact r_iret C F dX7_indexOf_33
  have LL8 : ∀ (fu7 : Nat) (v4 : Int32), m_fx (F_X7_indexOf_2 Z S a0 p1 j1 j3) fu7 v4 = some rZ9 → m_G x Z S 3 0 0 2 [(0, .ref a0), (1, .int p1), (2, .int v4)] [] := by
    intro fu7
    induction fu7 with
    | zero => intros; rename_i hf; cases hf
    | succ fu7 ih6 =>
      intro v4 hf
      replace hf : F_X7_indexOf_2 Z S a0 p1 j1 j3 (m_fx (F_X7_indexOf_2 Z S a0 p1 j1 j3) fu7) v4 = some rZ9 := hf
      unfold F_X7_indexOf_2 at hf
      refine r_iload_n (q := 3) C 2 dX7_indexOf_2 rfl rfl ?_
      refine r_aload_n (q := 4) C 0 dX7_indexOf_3 rfl rfl ?_
      obtain ⟨g9, hf⟩ := m_gd_of hf
      refine gf_X7_27 (q := 7) C dX7_indexOf_4 g9 rfl ?_
      refine r_icmp_ge (t := 40) (q := 10) C dX7_indexOf_7 (by decide) rfl (fun c10 => ?_) (fun c10 => ?_)
      · replace hf := m_if1 hf c10
        refine r_sub [] rfl ?_
        exact J1 ()  hf
      · replace hf := m_if0 hf c10
        refine r_iload_n (q := 11) C 2 dX7_indexOf_10 rfl rfl ?_
        refine r_aload_n (q := 12) C 0 dX7_indexOf_11 rfl rfl ?_
        obtain ⟨b11, e12, hf⟩ := m_b1_of hf
        refine gf_X7_32 (q := 15) C dX7_indexOf_12 g9 e12 rfl ?_
        obtain ⟨g13, hf⟩ := m_gd_of hf
        refine r_alen (q := 16) 14 4 C dX7_indexOf_15 g13 (by decide) rfl rfl ?_
        refine r_icmp_ge (t := 40) (q := 19) C dX7_indexOf_16 (by decide) rfl (fun c14 => ?_) (fun c14 => ?_)
        · replace hf := m_if1 hf c14
          refine r_sub [] rfl ?_
          exact J1 ()  hf
        · replace hf := m_if0 hf c14
          refine r_aload_n (q := 20) C 0 dX7_indexOf_19 rfl rfl ?_
          refine gf_X7_32 (q := 23) C dX7_indexOf_20 g9 e12 rfl ?_
          refine r_iload_n (q := 24) C 2 dX7_indexOf_23 rfl rfl ?_
          obtain ⟨g15, hf⟩ := m_gd_of hf
          obtain ⟨b16, e17, hf⟩ := m_b1_of hf
          refine r_aald14 (q := 25) C dX7_indexOf_24 ⟨g13, g15⟩ e17 rfl ?_
          obtain ⟨g18, hf⟩ := m_gd_of hf
          refine gf_X7_65 (q := 28) C dX7_indexOf_25 g18 rfl ?_
          refine r_iload_n (q := 29) C 1 dX7_indexOf_28 rfl rfl ?_
          refine r_icmp_ne (t := 34) (q := 32) C dX7_indexOf_29 (by decide) rfl (fun c19 => ?_) (fun c19 => ?_)
          · replace hf := m_if1 hf c19
            obtain ⟨v20, e21, hf⟩ := m_lt_of hf
            refine r_iinc (q := 37) (v := v20) (L' := [(2, .int v20), (0, .ref a0), (1, .int p1)]) C 2 dX7_indexOf_34 rfl (by rw [e21]; rfl) rfl (by decide) rfl ?_
            refine r_goto (t := 2) C dX7_indexOf_37 (by decide) ?_
            refine r_sub [1, 2, 0] rfl ?_
            exact ih6 v20 hf
          · replace hf := m_if0 hf (fun z => z c19)
            refine r_sub [2] rfl ?_
            exact J3 v4 hf
  refine r_sub [1, 2, 0] rfl ?_
  exact LL8 100000 (0 : Int32) hf
def F_X6_holderOf_2 (Z : m_Z) (S : m_S) (a0 : Nat) (p1 : Int32) (j1 : (Unit → Option (Int32))) (j3 : (Int32 → Option (Int32))) (lp5 : Int32 → Option (Int32)) (v4 : Int32) : Option (Int32) := m_gd (m_ok Z a0 6) ((if (S.1 a0 2) ≤ v4 then j1 () else (if (6 : Int32) ≤ v4 then j1 () else m_b1 (S.2.2 a0 3) (fun b12 => m_gd (m_ok Z b12 18) (m_gd (m_in v4 (Z.2.2 b12)) (m_b1 (S.2.2 b12 v4.toNatClampNeg) (fun b16 => m_gd (m_ok Z b16 7) (m_b1 (f_X7_indexOf Z S b16 p1) (fun v20 => (if v20 = (-1 : Int32) then m_lt (v4 + (1 : Int32)) (fun v22 => lp5 v22) else j3 v4))))))))))
def f_X6_holderOf (Z : m_Z) (S : m_S) (a0 : Nat) (p1 : Int32) : Option (Int32) := m_jp (fun (_ : Unit) => some (-1 : Int32)) (fun j1 => m_jp (fun (v2 : Int32) => some v2) (fun j3 => m_fx (F_X6_holderOf_2 Z S a0 p1 j1 j3) 100000 (0 : Int32)))
abbrev rm_X6_holderOf : Room := { frames := 1, cells := 0, slots := 0, locals := 22 }
theorem hd_X6_holderOf : yX6_holderOf.cls = RX6 ∧ yX6_holderOf.cls ≠ "java/lang/invoke/MethodHandle" ∧ yX6_holderOf.cls ≠ "java/lang/invoke/VarHandle" ∧ (parseMethodDescriptor yX6_holderOf.desc).map (fun d => d.parameters.length) = some 1 := by decide +kernel
set_option maxHeartbeats 4000000 in
set_option maxRecDepth 100000 in
theorem c_X6_holderOf {l : Launch} (hl : l.stackTraces = false) {Z : m_Z} {S : m_S} {a0 : Nat} {p1 : Int32} {rZ9 : Int32} (hf : f_X6_holderOf Z S a0 p1 = some rZ9) : m_Ct l yX6_holderOf (.code yX6_holderOf cX6_holderOf 3 (some .int) :: m_ws) rm_X6_holderOf (fun f => [.ref a0, .int p1]) Z S (some (.int rZ9)) S := by
  unfold f_X6_holderOf at hf
  refine m_ent hl (by decide) (fun _ => Nat.le_of_ble_eq_true rfl) (fun x C F => ?_)
  have C : m_H x l RX6 cX6_holderOf 3 rm_X6_holderOf := C
  show m_G x Z S 3 0 0 0 [(0, .ref a0), (1, .int p1)] []
  refine r_iconst (q := 1) (v := (0 : Int32)) C dX6_holderOf_0 (by decide) rfl ?_
  refine r_istore_n (q := 2) (L' := [(2, .int (0 : Int32)), (0, .ref a0), (1, .int p1)]) C dX6_holderOf_1 rfl rfl (by decide) rfl ?_
  obtain ⟨j1, ej1, hf⟩ := m_jp_of hf
  have J1 : ∀ (_ : Unit), j1 () = some rZ9 → m_G x Z S 3 0 0 38 [] [] := by
    intro _ hf
    rw [ej1] at hf
    refine r_iconst (q := 39) (v := (-1 : Int32)) C dX6_holderOf_38 (by decide) rfl ?_
    obtain rfl := m_so1 hf
    exact r_iret C F dX6_holderOf_39
  obtain ⟨j3, ej3, hf⟩ := m_jp_of hf
  have J3 : ∀ (v2 : Int32), j3 v2 = some rZ9 → m_G x Z S 3 0 0 30 [(2, .int v2)] [] := by
    intro v2 hf
    rw [ej3] at hf
    refine r_iload_n (q := 31) C 0 dX6_holderOf_30 rfl rfl ?_
    obtain rfl := m_so1 hf
    exact r_iret C F dX6_holderOf_31
  have LL8 : ∀ (fu7 : Nat) (v4 : Int32), m_fx (F_X6_holderOf_2 Z S a0 p1 j1 j3) fu7 v4 = some rZ9 → m_G x Z S 3 0 0 2 [(0, .ref a0), (1, .int p1), (2, .int v4)] [] := by
    intro fu7
    induction fu7 with
    | zero => intros; rename_i hf; cases hf
    | succ fu7 ih6 =>
      intro v4 hf
      replace hf : F_X6_holderOf_2 Z S a0 p1 j1 j3 (m_fx (F_X6_holderOf_2 Z S a0 p1 j1 j3) fu7) v4 = some rZ9 := hf
      unfold F_X6_holderOf_2 at hf
      refine r_iload_n (q := 3) C 2 dX6_holderOf_2 rfl rfl ?_
      refine r_aload_n (q := 4) C 0 dX6_holderOf_3 rfl rfl ?_
      obtain ⟨g9, hf⟩ := m_gd_of hf
      refine gf_X6_22 (q := 7) C dX6_holderOf_4 g9 rfl ?_
      refine r_icmp_ge (t := 38) (q := 10) C dX6_holderOf_7 (by decide) rfl (fun c10 => ?_) (fun c10 => ?_)
      · replace hf := m_if1 hf c10
        refine r_sub [] rfl ?_
        exact J1 ()  hf
      · replace hf := m_if0 hf c10
        refine r_iload_n (q := 11) C 2 dX6_holderOf_10 rfl rfl ?_
        refine r_bipush (q := 13) (v := (6 : Int32)) C dX6_holderOf_11 (by decide) rfl ?_
        refine r_icmp_ge (t := 38) (q := 16) C dX6_holderOf_13 (by decide) rfl (fun c11 => ?_) (fun c11 => ?_)
        · replace hf := m_if1 hf c11
          refine r_sub [] rfl ?_
          exact J1 ()  hf
        · replace hf := m_if0 hf c11
          refine r_aload_n (q := 17) C 0 dX6_holderOf_16 rfl rfl ?_
          obtain ⟨b12, e13, hf⟩ := m_b1_of hf
          refine gf_X6_27 (q := 20) C dX6_holderOf_17 g9 e13 rfl ?_
          refine r_iload_n (q := 21) C 2 dX6_holderOf_20 rfl rfl ?_
          obtain ⟨g14, hf⟩ := m_gd_of hf
          obtain ⟨g15, hf⟩ := m_gd_of hf
          obtain ⟨b16, e17, hf⟩ := m_b1_of hf
          refine r_aald18 (q := 22) C dX6_holderOf_21 ⟨g14, g15⟩ e17 rfl ?_
          refine r_iload_n (q := 23) C 1 dX6_holderOf_22 rfl rfl ?_
          obtain ⟨g18, hf⟩ := m_gd_of hf
          obtain ⟨v20, h19, hf⟩ := m_b1_of hf
          refine r_callV (mc := 0) (ms := 0) (q := 26) (st1 := [.int v20]) C (c_X7_indexOf hl h19) rfl w_727 w_728 w_729 w_6 w_730 hd_X7_indexOf rfl (by decide) g18 rfl rfl rfl ⟨(Nat.le_of_ble_eq_true rfl), (Nat.le_of_ble_eq_true rfl)⟩ (Nat.le_of_ble_eq_true rfl) ⟨(Nat.le_of_ble_eq_true rfl), (Nat.le_of_ble_eq_true rfl)⟩ dX6_holderOf_23 rfl rfl ?_
          refine r_iconst (q := 27) (v := (-1 : Int32)) C dX6_holderOf_26 (by decide) rfl ?_
          refine r_icmp_eq (t := 32) (q := 30) C dX6_holderOf_27 (by decide) rfl (fun c21 => ?_) (fun c21 => ?_)
          · replace hf := m_if1 hf c21
            obtain ⟨v22, e23, hf⟩ := m_lt_of hf
            refine r_iinc (q := 35) (v := v22) (L' := [(2, .int v22), (0, .ref a0), (1, .int p1)]) C 2 dX6_holderOf_32 rfl (by rw [e23]; rfl) rfl (by decide) rfl ?_
            refine r_goto (t := 2) C dX6_holderOf_35 (by decide) ?_
            refine r_sub [1, 2, 0] rfl ?_
            exact ih6 v22 hf
          · replace hf := m_if0 hf c21
            refine r_sub [2] rfl ?_
            exact J3 v4 hf
  refine r_sub [1, 2, 0] rfl ?_
  exact LL8 100000 (0 : Int32) hf
def f_X7_humidity (Z : m_Z) (S : m_S) (a0 : Nat) : Option (Int32) := m_gd (m_ok Z a0 7) ((if (1 : Int32) ≤ (S.1 a0 0) then m_gd (¬ (S.1 a0 0) = 0) (some (((1000 : Int32) * (S.1 a0 4)) / (S.1 a0 0))) else some (0 : Int32)))
abbrev rm_X7_humidity : Room := { frames := 0, cells := 0, slots := 0, locals := 0 }
theorem hd_X7_humidity : yX7_humidity.cls = RX7 ∧ yX7_humidity.cls ≠ "java/lang/invoke/MethodHandle" ∧ yX7_humidity.cls ≠ "java/lang/invoke/VarHandle" ∧ (parseMethodDescriptor yX7_humidity.desc).map (fun d => d.parameters.length) = some 0 := by decide +kernel
set_option maxHeartbeats 4000000 in
set_option maxRecDepth 100000 in
theorem c_X7_humidity {l : Launch} (hl : l.stackTraces = false) {Z : m_Z} {S : m_S} {a0 : Nat} {rZ9 : Int32} (hf : f_X7_humidity Z S a0 = some rZ9) : m_Ct l yX7_humidity (.code yX7_humidity cX7_humidity 1 (some .int) :: m_ws) rm_X7_humidity (fun f => [.ref a0]) Z S (some (.int rZ9)) S := by
  unfold f_X7_humidity at hf
  refine m_ent hl (by decide) (fun _ => Nat.le_of_ble_eq_true rfl) (fun x C F => ?_)
  have C : m_H x l RX7 cX7_humidity 1 rm_X7_humidity := C
  show m_G x Z S 1 0 0 0 [(0, .ref a0)] []
  refine r_aload_n (q := 1) C 0 dX7_humidity_0 rfl rfl ?_
  obtain ⟨g1, hf⟩ := m_gd_of hf
  refine gf_X7_9 (q := 4) C dX7_humidity_1 g1 rfl ?_
  refine r_iconst (q := 5) (v := (1 : Int32)) C dX7_humidity_4 (by decide) rfl ?_
  refine r_icmp_ge (t := 12) (q := 8) C dX7_humidity_5 (by decide) rfl (fun c2 => ?_) (fun c2 => ?_)
  · replace hf := m_if1 hf c2
    refine r_sipush (q := 15) (v := (1000 : Int32)) C dX7_humidity_12 (by decide) rfl ?_
    refine r_aload_n (q := 16) C 0 dX7_humidity_15 rfl rfl ?_
    refine gf_X7_24 (q := 19) C dX7_humidity_16 g1 rfl ?_
    refine r_imul (q := 20) C dX7_humidity_19 rfl ?_
    refine r_aload_n (q := 21) C 0 dX7_humidity_20 rfl rfl ?_
    refine gf_X7_9 (q := 24) C dX7_humidity_21 g1 rfl ?_
    obtain ⟨g3, hf⟩ := m_gd_of hf
    refine r_idiv (q := 25) C dX7_humidity_24 g3 rfl ?_
    obtain rfl := m_so1 hf
    exact r_iret C F dX7_humidity_25
  · replace hf := m_if0 hf c2
    refine r_iconst (q := 9) (v := (0 : Int32)) C dX7_humidity_8 (by decide) rfl ?_
    refine r_goto (t := 25) C dX7_humidity_9 (by decide) ?_
    obtain rfl := m_so1 hf
    exact r_iret C F dX7_humidity_25
def F_X7_passHour_45 (Z : m_Z) (a0 : Nat) (j9 : (m_S → Option (Int32 × m_S))) (lp12 : (Int32 × m_S) → Option (Int32 × m_S)) (p38 : (Int32 × m_S)) : Option (Int32 × m_S) := match p38 with
  | (v10, S11) => (if (S11.1 a0 5) ≤ v10 then j9 S11 else m_b1 (S11.2.2 a0 6) (fun b17 => m_gd (m_ok Z b17 14) ((if (Int32.ofNat (Z.2.2 b17)) ≤ v10 then j9 S11 else m_gd (m_in v10 (Z.2.2 b17)) (m_b1 (S11.2.2 b17 v10.toNatClampNeg) (fun b22 => m_b1 (f_X7_humidity Z S11 a0) (fun v25 => m_gd (m_ok Z b22 0) (m_b1 (f_X0_wishAt Z S11 b22 v25) (fun v28 => m_jp (fun (v30 : Int32) => m_lt (m_pI S11 b22 3 ((S11.1 b22 3) + v30)) (fun S31 => m_lt (m_pI S31 a0 4 ((S31.1 a0 4) - v30)) (fun S33 => m_lt (v10 + (1 : Int32)) (fun v35 => lp12 (v35, S33))))) (fun j29 => (if (S11.1 a0 4) ≤ v28 then j29 (S11.1 a0 4) else j29 v28)))))))))))
def f_X7_passHour (Z : m_Z) (S : m_S) (a0 : Nat) (p1 : Int32) : Option (Int32 × m_S) := m_gd (m_ok Z a0 7) (m_lt ((((S.1 a0 0) * p1) - ((1000 : Int32) * (S.1 a0 4))).toInt64) (fun w2 => m_lt (((w2 * (S.1 a0 1).toInt64) / (1000000 : Int64)).toInt32) (fun v4 => m_lt (m_pI S a0 4 ((S.1 a0 4) + v4)) (fun S6 => m_jp (fun (S8 : m_S) => some (v4, S8)) (fun j9 => m_fx (F_X7_passHour_45 Z a0 j9) 100000 ((0 : Int32), S6))))))
abbrev rm_X7_passHour : Room := { frames := 4, cells := 0, slots := 0, locals := 88 }
theorem hd_X7_passHour : yX7_passHour.cls = RX7 ∧ yX7_passHour.cls ≠ "java/lang/invoke/MethodHandle" ∧ yX7_passHour.cls ≠ "java/lang/invoke/VarHandle" ∧ (parseMethodDescriptor yX7_passHour.desc).map (fun d => d.parameters.length) = some 1 := by decide +kernel
set_option maxHeartbeats 4000000 in
set_option maxRecDepth 100000 in
theorem c_X7_passHour {l : Launch} (hl : l.stackTraces = false) {Z : m_Z} {S : m_S} {a0 : Nat} {p1 : Int32} {rZ9 : Int32} {SZ9 : m_S} (hf : f_X7_passHour Z S a0 p1 = some (rZ9, SZ9)) : m_Ct l yX7_passHour (.code yX7_passHour cX7_passHour 9 (some .int) :: m_ws) rm_X7_passHour (fun f => [.ref a0, .int p1]) Z S (some (.int rZ9)) SZ9 := by
  unfold f_X7_passHour at hf
  refine m_ent hl (by decide) (fun _ => Nat.le_of_ble_eq_true rfl) (fun x C F => ?_)
  have C : m_H x l RX7 cX7_passHour 9 rm_X7_passHour := C
  show m_G x Z S 9 0 0 0 [(0, .ref a0), (1, .int p1)] []
  refine r_aload_n (q := 1) C 0 dX7_passHour_0 rfl rfl ?_
  obtain ⟨g1, hf⟩ := m_gd_of hf
  refine gf_X7_9 (q := 4) C dX7_passHour_1 g1 rfl ?_
  refine r_iload_n (q := 5) C 1 dX7_passHour_4 rfl rfl ?_
  refine r_imul (q := 6) C dX7_passHour_5 rfl ?_
  refine r_sipush (q := 9) (v := (1000 : Int32)) C dX7_passHour_6 (by decide) rfl ?_
  refine r_aload_n (q := 10) C 0 dX7_passHour_9 rfl rfl ?_
  refine gf_X7_24 (q := 13) C dX7_passHour_10 g1 rfl ?_
  refine r_imul (q := 14) C dX7_passHour_13 rfl ?_
  refine r_isub (q := 15) C dX7_passHour_14 rfl ?_
  refine r_i2l (q := 16) C dX7_passHour_15 rfl ?_
  obtain ⟨w2, e3, hf⟩ := m_lt_of hf
  refine r_nmJ e3 ?_
  refine r_lstore_n (q := 17) (L' := [(2, .long w2), (0, .ref a0), (1, .int p1)]) C dX7_passHour_16 rfl rfl (by decide) rfl ?_
  refine r_lload_n (q := 18) C 0 dX7_passHour_17 rfl rfl ?_
  refine r_aload_n (q := 19) C 1 dX7_passHour_18 rfl rfl ?_
  refine gf_X7_15 (q := 22) C dX7_passHour_19 g1 rfl ?_
  refine r_i2l (q := 23) C dX7_passHour_22 rfl ?_
  refine r_lmul (q := 24) C dX7_passHour_23 rfl ?_
  refine r_ldc2 (q := 27) C dX7_passHour_24 w_815 rfl ?_
  refine r_ldiv (q := 28) C dX7_passHour_27 (by decide) rfl ?_
  refine r_l2i (q := 29) C dX7_passHour_28 rfl ?_
  obtain ⟨v4, e5, hf⟩ := m_lt_of hf
  refine r_nm e5 ?_
  refine r_istore (q := 31) (L' := [(4, .int v4), (2, .long w2), (0, .ref a0), (1, .int p1)]) C dX7_passHour_29 rfl (by decide) rfl ?_
  refine r_aload_n (q := 32) C 2 dX7_passHour_31 rfl rfl ?_
  refine r_dup (q := 33) C dX7_passHour_32 rfl rfl ?_
  refine gf_X7_24 (q := 36) C dX7_passHour_33 g1 rfl ?_
  refine r_iload (q := 38) C 0 dX7_passHour_36 rfl rfl ?_
  refine r_iadd (q := 39) C dX7_passHour_38 rfl ?_
  obtain ⟨S6, e7, hf⟩ := m_lt_of hf
  refine pf_X7_24 (q := 42) C dX7_passHour_39 g1 e7 rfl ?_
  refine r_iconst (q := 43) (v := (0 : Int32)) C dX7_passHour_42 (by decide) rfl ?_
  refine r_istore (q := 45) (L' := [(5, .int (0 : Int32)), (4, .int v4), (2, .long w2), (0, .ref a0), (1, .int p1)]) C dX7_passHour_43 rfl (by decide) rfl ?_
  obtain ⟨j9, ej9, hf⟩ := m_jp_of hf
  have J9 : ∀ (S8 : m_S), j9 S8 = some (rZ9, SZ9) → m_G x Z S8 9 0 0 133 [(4, .int v4)] [] := by
    intro S8 hf
    rw [ej9] at hf
    refine r_iload (q := 135) C 0 dX7_passHour_133 rfl rfl ?_
    obtain ⟨rfl, rfl⟩ := m_so2 hf
    exact r_iret C F dX7_passHour_135
  have LL15 : ∀ (fu14 : Nat) (v10 : Int32) (S11 : m_S), m_fx (F_X7_passHour_45 Z a0 j9) fu14 (v10, S11) = some (rZ9, SZ9) → m_G x Z S11 9 0 0 45 [(0, .ref a0), (4, .int v4), (5, .int v10)] [] := by
    intro fu14
    induction fu14 with
    | zero => intros; rename_i hf; cases hf
    | succ fu14 ih13 =>
      intro v10 S11 hf
      replace hf : F_X7_passHour_45 Z a0 j9 (m_fx (F_X7_passHour_45 Z a0 j9) fu14) (v10, S11) = some (rZ9, SZ9) := hf
      unfold F_X7_passHour_45 at hf
      dsimp only at hf
      refine r_iload (q := 47) C 2 dX7_passHour_45 rfl rfl ?_
      refine r_aload_n (q := 48) C 0 dX7_passHour_47 rfl rfl ?_
      refine gf_X7_27 (q := 51) C dX7_passHour_48 g1 rfl ?_
      refine r_icmp_ge (t := 133) (q := 54) C dX7_passHour_51 (by decide) rfl (fun c16 => ?_) (fun c16 => ?_)
      · replace hf := m_if1 hf c16
        refine r_sub [1] rfl ?_
        exact J9 S11 hf
      · replace hf := m_if0 hf c16
        refine r_iload (q := 56) C 2 dX7_passHour_54 rfl rfl ?_
        refine r_aload_n (q := 57) C 0 dX7_passHour_56 rfl rfl ?_
        obtain ⟨b17, e18, hf⟩ := m_b1_of hf
        refine gf_X7_32 (q := 60) C dX7_passHour_57 g1 e18 rfl ?_
        obtain ⟨g19, hf⟩ := m_gd_of hf
        refine r_alen (q := 61) 14 4 C dX7_passHour_60 g19 (by decide) rfl rfl ?_
        refine r_icmp_ge (t := 133) (q := 64) C dX7_passHour_61 (by decide) rfl (fun c20 => ?_) (fun c20 => ?_)
        · replace hf := m_if1 hf c20
          refine r_sub [1] rfl ?_
          exact J9 S11 hf
        · replace hf := m_if0 hf c20
          refine r_aload_n (q := 65) C 0 dX7_passHour_64 rfl rfl ?_
          refine gf_X7_32 (q := 68) C dX7_passHour_65 g1 e18 rfl ?_
          refine r_iload (q := 70) C 2 dX7_passHour_68 rfl rfl ?_
          obtain ⟨g21, hf⟩ := m_gd_of hf
          obtain ⟨b22, e23, hf⟩ := m_b1_of hf
          refine r_aald14 (q := 71) C dX7_passHour_70 ⟨g19, g21⟩ e23 rfl ?_
          refine r_astore (q := 73) (L' := [(6, .ref b22), (0, .ref a0), (4, .int v4), (5, .int v10)]) C dX7_passHour_71 rfl (by decide) rfl ?_
          refine r_aload (q := 75) C 0 dX7_passHour_73 rfl rfl ?_
          refine r_aload_n (q := 76) C 1 dX7_passHour_75 rfl rfl ?_
          obtain ⟨v25, h24, hf⟩ := m_b1_of hf
          refine r_callV (mc := 0) (ms := 0) (q := 79) (st1 := [.int v25, .ref b22]) C (c_X7_humidity hl h24) rfl w_816 w_606 w_607 w_6 w_608 hd_X7_humidity rfl (by decide) g1 rfl rfl rfl ⟨(Nat.le_of_ble_eq_true rfl), (Nat.le_of_ble_eq_true rfl)⟩ (Nat.le_of_ble_eq_true rfl) ⟨(Nat.le_of_ble_eq_true rfl), (Nat.le_of_ble_eq_true rfl)⟩ dX7_passHour_76 rfl rfl ?_
          obtain ⟨g26, hf⟩ := m_gd_of hf
          obtain ⟨v28, h27, hf⟩ := m_b1_of hf
          refine r_callV (mc := 0) (ms := 0) (q := 82) (st1 := [.int v28]) C (c_X0_wishAt hl h27) rfl w_817 w_818 w_819 w_7 w_820 hd_X0_wishAt rfl (by decide) g26 rfl rfl rfl ⟨(Nat.le_of_ble_eq_true rfl), (Nat.le_of_ble_eq_true rfl)⟩ (Nat.le_of_ble_eq_true rfl) ⟨(Nat.le_of_ble_eq_true rfl), (Nat.le_of_ble_eq_true rfl)⟩ dX7_passHour_79 rfl rfl ?_
          refine r_istore (q := 84) (L' := [(7, .int v28), (6, .ref b22), (0, .ref a0), (4, .int v4), (5, .int v10)]) C dX7_passHour_82 rfl (by decide) rfl ?_
          refine r_iload (q := 86) C 0 dX7_passHour_84 rfl rfl ?_
          refine r_aload_n (q := 87) C 2 dX7_passHour_86 rfl rfl ?_
          refine gf_X7_24 (q := 90) C dX7_passHour_87 g1 rfl ?_
          obtain ⟨j29, ej29, hf⟩ := m_jp_of hf
          have J29 : ∀ (v30 : Int32), j29 v30 = some (rZ9, SZ9) → m_G x Z S11 9 0 0 102 [(0, .ref a0), (4, .int v4), (5, .int v10), (6, .ref b22)] [.int v30] := by
            intro v30 hf
            rw [ej29] at hf
            refine r_istore (q := 104) (L' := [(8, .int v30), (0, .ref a0), (4, .int v4), (5, .int v10), (6, .ref b22)]) C dX7_passHour_102 rfl (by decide) rfl ?_
            refine r_aload (q := 106) C 4 dX7_passHour_104 rfl rfl ?_
            refine r_dup (q := 107) C dX7_passHour_106 rfl rfl ?_
            refine gf_X7_53 (q := 110) C dX7_passHour_107 g26 rfl ?_
            refine r_iload (q := 112) C 0 dX7_passHour_110 rfl rfl ?_
            refine r_iadd (q := 113) C dX7_passHour_112 rfl ?_
            obtain ⟨S31, e32, hf⟩ := m_lt_of hf
            refine pf_X7_53 (q := 116) C dX7_passHour_113 g26 e32 rfl ?_
            refine r_aload_n (q := 117) C 1 dX7_passHour_116 rfl rfl ?_
            refine r_dup (q := 118) C dX7_passHour_117 rfl rfl ?_
            refine gf_X7_24 (q := 121) C dX7_passHour_118 g1 rfl ?_
            refine r_iload (q := 123) C 0 dX7_passHour_121 rfl rfl ?_
            refine r_isub (q := 124) C dX7_passHour_123 rfl ?_
            obtain ⟨S33, e34, hf⟩ := m_lt_of hf
            refine pf_X7_24 (q := 127) C dX7_passHour_124 g1 e34 rfl ?_
            obtain ⟨v35, e36, hf⟩ := m_lt_of hf
            refine r_iinc (q := 130) (v := v35) (L' := [(5, .int v35), (8, .int v30), (0, .ref a0), (4, .int v4), (6, .ref b22)]) C 3 dX7_passHour_127 rfl (by rw [e36]; rfl) rfl (by decide) rfl ?_
            refine r_goto (t := 45) C dX7_passHour_130 (by decide) ?_
            refine r_sub [2, 3, 0] rfl ?_
            exact ih13 v35 S33 hf
          refine r_icmp_ge (t := 98) (q := 93) C dX7_passHour_90 (by decide) rfl (fun c37 => ?_) (fun c37 => ?_)
          · replace hf := m_if1 hf c37
            refine r_aload_n (q := 99) C 2 dX7_passHour_98 rfl rfl ?_
            refine gf_X7_24 (q := 102) C dX7_passHour_99 g1 rfl ?_
            refine r_sub [2, 3, 4, 1] rfl ?_
            exact J29 (S11.1 a0 4) hf
          · replace hf := m_if0 hf c37
            refine r_iload (q := 95) C 0 dX7_passHour_93 rfl rfl ?_
            refine r_goto (t := 102) C dX7_passHour_95 (by decide) ?_
            refine r_sub [2, 3, 4, 1] rfl ?_
            exact J29 v28 hf
  refine r_sub [3, 1, 0] rfl ?_
  exact LL15 100000 (0 : Int32) S6 hf
def f_X7_isUnsafe (Z : m_Z) (S : m_S) (a0 : Nat) : Option (Int32) := m_gd (m_ok Z a0 7) (m_b1 (f_X7_humidity Z S a0) (fun v3 => (if v3 < (S.1 a0 2) then some (1 : Int32) else (if v3 ≤ (S.1 a0 3) then some (0 : Int32) else some (1 : Int32)))))
abbrev rm_X7_isUnsafe : Room := { frames := 1, cells := 0, slots := 0, locals := 20 }
theorem hd_X7_isUnsafe : yX7_isUnsafe.cls = RX7 ∧ yX7_isUnsafe.cls ≠ "java/lang/invoke/MethodHandle" ∧ yX7_isUnsafe.cls ≠ "java/lang/invoke/VarHandle" ∧ (parseMethodDescriptor yX7_isUnsafe.desc).map (fun d => d.parameters.length) = some 0 := by decide +kernel
set_option maxHeartbeats 4000000 in
set_option maxRecDepth 100000 in
theorem c_X7_isUnsafe {l : Launch} (hl : l.stackTraces = false) {Z : m_Z} {S : m_S} {a0 : Nat} {rZ9 : Int32} (hf : f_X7_isUnsafe Z S a0 = some rZ9) : m_Ct l yX7_isUnsafe (.code yX7_isUnsafe cX7_isUnsafe 2 (some .boolean) :: m_ws) rm_X7_isUnsafe (fun f => [.ref a0]) Z S (some (.int rZ9)) S := by
  unfold f_X7_isUnsafe at hf
  refine m_ent hl (by decide) (fun _ => Nat.le_of_ble_eq_true rfl) (fun x C F => ?_)
  have C : m_H x l RX7 cX7_isUnsafe 2 rm_X7_isUnsafe := C
  show m_G x Z S 2 0 0 0 [(0, .ref a0)] []
  refine r_aload_n (q := 1) C 0 dX7_isUnsafe_0 rfl rfl ?_
  obtain ⟨g1, hf⟩ := m_gd_of hf
  obtain ⟨v3, h2, hf⟩ := m_b1_of hf
  refine r_callV (mc := 0) (ms := 0) (q := 4) (st1 := [.int v3]) C (c_X7_humidity hl h2) rfl w_816 w_606 w_607 w_6 w_608 hd_X7_humidity rfl (by decide) g1 rfl rfl rfl ⟨(Nat.le_of_ble_eq_true rfl), (Nat.le_of_ble_eq_true rfl)⟩ (Nat.le_of_ble_eq_true rfl) ⟨(Nat.le_of_ble_eq_true rfl), (Nat.le_of_ble_eq_true rfl)⟩ dX7_isUnsafe_1 rfl rfl ?_
  refine r_istore_n (q := 5) (L' := [(1, .int v3), (0, .ref a0)]) C dX7_isUnsafe_4 rfl rfl (by decide) rfl ?_
  refine r_iload_n (q := 6) C 0 dX7_isUnsafe_5 rfl rfl ?_
  refine r_aload_n (q := 7) C 1 dX7_isUnsafe_6 rfl rfl ?_
  refine gf_X7_18 (q := 10) C dX7_isUnsafe_7 g1 rfl ?_
  refine r_icmp_lt (t := 21) (q := 13) C dX7_isUnsafe_10 (by decide) rfl (fun c4 => ?_) (fun c4 => ?_)
  · replace hf := m_if1 hf c4
    refine r_iconst (q := 22) (v := (1 : Int32)) C dX7_isUnsafe_21 (by decide) rfl ?_
    refine r_goto (t := 26) C dX7_isUnsafe_22 (by decide) ?_
    obtain rfl := m_so1 hf
    exact r_zret C F (by decide) dX7_isUnsafe_26
  · replace hf := m_if0 hf c4
    refine r_iload_n (q := 14) C 0 dX7_isUnsafe_13 rfl rfl ?_
    refine r_aload_n (q := 15) C 1 dX7_isUnsafe_14 rfl rfl ?_
    refine gf_X7_21 (q := 18) C dX7_isUnsafe_15 g1 rfl ?_
    refine r_icmp_le (t := 25) (q := 21) C dX7_isUnsafe_18 (by decide) rfl (fun c5 => ?_) (fun c5 => ?_)
    · replace hf := m_if1 hf c5
      refine r_iconst (q := 26) (v := (0 : Int32)) C dX7_isUnsafe_25 (by decide) rfl ?_
      obtain rfl := m_so1 hf
      exact r_zret C F (by decide) dX7_isUnsafe_26
    · replace hf := m_if0 hf c5
      refine r_iconst (q := 22) (v := (1 : Int32)) C dX7_isUnsafe_21 (by decide) rfl ?_
      refine r_goto (t := 26) C dX7_isUnsafe_22 (by decide) ?_
      obtain rfl := m_so1 hf
      exact r_zret C F (by decide) dX7_isUnsafe_26
def F_X6_passHour_23 (Z : m_Z) (S : m_S) (a0 : Nat) (b2 : Nat) (v7 : Int32) (j10 : (Int32 → m_S → Option (Int32 × m_S))) (lp14 : (Int32 × Int32 × m_S) → Option (Int32 × m_S)) (p61 : (Int32 × Int32 × m_S)) : Option (Int32 × m_S) := match p61 with
  | (v11, v12, S13) => (if (S13.1 a0 2) ≤ v12 then j10 v11 S13 else (if (6 : Int32) ≤ v12 then j10 v11 S13 else m_b1 (S13.2.2 a0 3) (fun b20 => m_gd (m_ok Z b20 18) (m_gd (m_in v12 (Z.2.2 b20)) (m_b1 (S13.2.2 b20 v12.toNatClampNeg) (fun b24 => m_b1 (S13.2.2 a0 4) (fun b26 => m_gd (m_ok Z b26 16) (m_gd (m_in v12 (Z.2.2 b26)) (m_b1 (S13.2.2 b26 v12.toNatClampNeg) (fun b30 => m_gd (m_ok Z b30 2) (m_gd (m_ok Z b24 7) (m_bw (f_X7_passHour Z S13 b24 v7) (fun v36 S35 => m_lt (m_pJ S35 b30 1 ((S13.2.1 b30 1) + v36.toInt64)) (fun S37 => m_b1 (f_X7_isUnsafe Z S37 b24) (fun v40 => m_b1 (S37.2.2 a0 4) (fun b41 => m_gd (m_ok Z b41 16) (m_gd (m_in v12 (Z.2.2 b41)) (m_b1 (S37.2.2 b41 v12.toNatClampNeg) (fun b45 => m_b1 (f_X7_humidity Z S37 b24) (fun v48 => m_gd (m_ok Z b45 2) (m_bw (f_X2_note Z S37 b45 (S.1 b2 0) v48 v40) (fun _u S51 => (if v40 = 0 then m_lt (v11 + (0 : Int32)) (fun v53 => m_lt (v12 + (1 : Int32)) (fun v55 => lp14 (v53, v55, S51))) else m_lt (v11 + (1 : Int32)) (fun v57 => m_lt (v12 + (1 : Int32)) (fun v59 => lp14 (v57, v59, S51))))))))))))))))))))))))))
def f_X6_passHour (Z : m_Z) (S : m_S) (a0 : Nat) (p1 : Nat) : Option (Int32 × m_S) := m_gd (m_ok Z a0 6) (m_b1 (S.2.2 a0 0) (fun b2 => m_gd (m_ok Z b2 4) (m_bw (f_X4_passHour Z S b2 p1) (fun v7 S6 => m_jp (fun (v8 : Int32) (S9 : m_S) => some (v8, S9)) (fun j10 => m_fx (F_X6_passHour_23 Z S a0 b2 v7 j10) 100000 ((0 : Int32), (0 : Int32), S6))))))
abbrev rm_X6_passHour : Room := { frames := 5, cells := 0, slots := 0, locals := 116 }
theorem hd_X6_passHour : yX6_passHour.cls = RX6 ∧ yX6_passHour.cls ≠ "java/lang/invoke/MethodHandle" ∧ yX6_passHour.cls ≠ "java/lang/invoke/VarHandle" ∧ (parseMethodDescriptor yX6_passHour.desc).map (fun d => d.parameters.length) = some 1 := by decide +kernel
set_option maxHeartbeats 4000000 in
set_option maxRecDepth 100000 in
theorem c_X6_passHour {l : Launch} (hl : l.stackTraces = false) {Z : m_Z} {S : m_S} {a0 : Nat} {p1 : Nat} {rZ9 : Int32} {SZ9 : m_S} (hf : f_X6_passHour Z S a0 p1 = some (rZ9, SZ9)) : m_Ct l yX6_passHour (.code yX6_passHour cX6_passHour 8 (some .int) :: m_ws) rm_X6_passHour (fun f => [.ref a0, .ref p1]) Z S (some (.int rZ9)) SZ9 := by
  unfold f_X6_passHour at hf
  refine m_ent hl (by decide) (fun _ => Nat.le_of_ble_eq_true rfl) (fun x C F => ?_)
  have C : m_H x l RX6 cX6_passHour 8 rm_X6_passHour := C
  show m_G x Z S 8 0 0 0 [(0, .ref a0), (1, .ref p1)] []
  refine r_iconst (q := 1) (v := (0 : Int32)) C dX6_passHour_0 (by decide) rfl ?_
  refine r_istore_n (q := 2) (L' := [(2, .int (0 : Int32)), (0, .ref a0), (1, .ref p1)]) C dX6_passHour_1 rfl rfl (by decide) rfl ?_
  refine r_aload_n (q := 3) C 1 dX6_passHour_2 rfl rfl ?_
  obtain ⟨g1, hf⟩ := m_gd_of hf
  obtain ⟨b2, e3, hf⟩ := m_b1_of hf
  refine gf_X6_12 (q := 6) C dX6_passHour_3 g1 e3 rfl ?_
  obtain ⟨g4, hf⟩ := m_gd_of hf
  refine gf_X6_73 (q := 9) C dX6_passHour_6 g4 rfl ?_
  refine r_istore_n (q := 10) (L' := [(3, .int (S.1 b2 0)), (2, .int (0 : Int32)), (0, .ref a0), (1, .ref p1)]) C dX6_passHour_9 rfl rfl (by decide) rfl ?_
  refine r_aload_n (q := 11) C 2 dX6_passHour_10 rfl rfl ?_
  refine gf_X6_12 (q := 14) C dX6_passHour_11 g1 e3 rfl ?_
  refine r_aload_n (q := 15) C 3 dX6_passHour_14 rfl rfl ?_
  obtain ⟨v7, S6, h5, hf⟩ := m_bw_of hf
  refine r_callV (mc := 0) (ms := 0) (q := 18) (st1 := [.int v7]) C (c_X4_passHour hl h5) rfl w_803 w_804 w_805 w_9 w_806 hd_X4_passHour rfl (by decide) g4 rfl rfl rfl ⟨(Nat.le_of_ble_eq_true rfl), (Nat.le_of_ble_eq_true rfl)⟩ (Nat.le_of_ble_eq_true rfl) ⟨(Nat.le_of_ble_eq_true rfl), (Nat.le_of_ble_eq_true rfl)⟩ dX6_passHour_15 rfl rfl ?_
  refine r_istore (q := 20) (L' := [(4, .int v7), (3, .int (S.1 b2 0)), (2, .int (0 : Int32)), (0, .ref a0), (1, .ref p1)]) C dX6_passHour_18 rfl (by decide) rfl ?_
  refine r_iconst (q := 21) (v := (0 : Int32)) C dX6_passHour_20 (by decide) rfl ?_
  refine r_istore (q := 23) (L' := [(5, .int (0 : Int32)), (4, .int v7), (3, .int (S.1 b2 0)), (2, .int (0 : Int32)), (0, .ref a0), (1, .ref p1)]) C dX6_passHour_21 rfl (by decide) rfl ?_
  obtain ⟨j10, ej10, hf⟩ := m_jp_of hf
  have J10 : ∀ (v8 : Int32) (S9 : m_S), j10 v8 S9 = some (rZ9, SZ9) → m_G x Z S9 8 0 0 115 [(2, .int v8)] [] := by
    intro v8 S9 hf
    rw [ej10] at hf
    refine r_iload_n (q := 116) C 0 dX6_passHour_115 rfl rfl ?_
    obtain ⟨rfl, rfl⟩ := m_so2 hf
    exact r_iret C F dX6_passHour_116
  have LL17 : ∀ (fu16 : Nat) (v11 : Int32) (v12 : Int32) (S13 : m_S), m_fx (F_X6_passHour_23 Z S a0 b2 v7 j10) fu16 (v11, v12, S13) = some (rZ9, SZ9) → m_G x Z S13 8 0 0 23 [(0, .ref a0), (2, .int v11), (3, .int (S.1 b2 0)), (4, .int v7), (5, .int v12)] [] := by
    intro fu16
    induction fu16 with
    | zero => intros; rename_i hf; cases hf
    | succ fu16 ih15 =>
      intro v11 v12 S13 hf
      replace hf : F_X6_passHour_23 Z S a0 b2 v7 j10 (m_fx (F_X6_passHour_23 Z S a0 b2 v7 j10) fu16) (v11, v12, S13) = some (rZ9, SZ9) := hf
      unfold F_X6_passHour_23 at hf
      dsimp only at hf
      refine r_iload (q := 25) C 4 dX6_passHour_23 rfl rfl ?_
      refine r_aload_n (q := 26) C 0 dX6_passHour_25 rfl rfl ?_
      refine gf_X6_22 (q := 29) C dX6_passHour_26 g1 rfl ?_
      refine r_icmp_ge (t := 115) (q := 32) C dX6_passHour_29 (by decide) rfl (fun c18 => ?_) (fun c18 => ?_)
      · replace hf := m_if1 hf c18
        refine r_sub [1] rfl ?_
        exact J10 v11 S13 hf
      · replace hf := m_if0 hf c18
        refine r_iload (q := 34) C 4 dX6_passHour_32 rfl rfl ?_
        refine r_bipush (q := 36) (v := (6 : Int32)) C dX6_passHour_34 (by decide) rfl ?_
        refine r_icmp_ge (t := 115) (q := 39) C dX6_passHour_36 (by decide) rfl (fun c19 => ?_) (fun c19 => ?_)
        · replace hf := m_if1 hf c19
          refine r_sub [1] rfl ?_
          exact J10 v11 S13 hf
        · replace hf := m_if0 hf c19
          refine r_aload_n (q := 40) C 0 dX6_passHour_39 rfl rfl ?_
          obtain ⟨b20, e21, hf⟩ := m_b1_of hf
          refine gf_X6_27 (q := 43) C dX6_passHour_40 g1 e21 rfl ?_
          refine r_iload (q := 45) C 4 dX6_passHour_43 rfl rfl ?_
          obtain ⟨g22, hf⟩ := m_gd_of hf
          obtain ⟨g23, hf⟩ := m_gd_of hf
          obtain ⟨b24, e25, hf⟩ := m_b1_of hf
          refine r_aald18 (q := 46) C dX6_passHour_45 ⟨g22, g23⟩ e25 rfl ?_
          refine r_astore (q := 48) (L' := [(6, .ref b24), (0, .ref a0), (2, .int v11), (3, .int (S.1 b2 0)), (4, .int v7), (5, .int v12)]) C dX6_passHour_46 rfl (by decide) rfl ?_
          refine r_aload_n (q := 49) C 1 dX6_passHour_48 rfl rfl ?_
          obtain ⟨b26, e27, hf⟩ := m_b1_of hf
          refine gf_X6_33 (q := 52) C dX6_passHour_49 g1 e27 rfl ?_
          refine r_iload (q := 54) C 5 dX6_passHour_52 rfl rfl ?_
          obtain ⟨g28, hf⟩ := m_gd_of hf
          obtain ⟨g29, hf⟩ := m_gd_of hf
          obtain ⟨b30, e31, hf⟩ := m_b1_of hf
          refine r_aald16 (q := 55) C dX6_passHour_54 ⟨g28, g29⟩ e31 rfl ?_
          refine r_dup (q := 56) C dX6_passHour_55 rfl rfl ?_
          obtain ⟨g32, hf⟩ := m_gd_of hf
          refine gf_X6_80 (q := 59) C dX6_passHour_56 g32 rfl ?_
          refine r_aload (q := 61) C 0 dX6_passHour_59 rfl rfl ?_
          refine r_iload (q := 63) C 4 dX6_passHour_61 rfl rfl ?_
          obtain ⟨g33, hf⟩ := m_gd_of hf
          obtain ⟨v36, S35, h34, hf⟩ := m_bw_of hf
          refine r_callV (mc := 0) (ms := 0) (q := 66) (st1 := [.int v36, .long (S13.2.1 b30 1), .ref b30]) C (c_X7_passHour hl h34) rfl w_811 w_812 w_813 w_6 w_814 hd_X7_passHour rfl (by decide) g33 rfl rfl rfl ⟨(Nat.le_of_ble_eq_true rfl), (Nat.le_of_ble_eq_true rfl)⟩ (Nat.le_of_ble_eq_true rfl) ⟨(Nat.le_of_ble_eq_true rfl), (Nat.le_of_ble_eq_true rfl)⟩ dX6_passHour_63 rfl rfl ?_
          refine r_i2l (q := 67) C dX6_passHour_66 rfl ?_
          refine r_ladd (q := 68) C dX6_passHour_67 rfl ?_
          obtain ⟨S37, e38, hf⟩ := m_lt_of hf
          refine pf_X6_80 (q := 71) C dX6_passHour_68 g32 e38 rfl ?_
          refine r_aload (q := 73) C 0 dX6_passHour_71 rfl rfl ?_
          obtain ⟨v40, h39, hf⟩ := m_b1_of hf
          refine r_callV (mc := 0) (ms := 0) (q := 76) (st1 := [.int v40]) C (c_X7_isUnsafe hl h39) rfl w_821 w_822 w_823 w_6 w_824 hd_X7_isUnsafe rfl (by decide) g33 rfl rfl rfl ⟨(Nat.le_of_ble_eq_true rfl), (Nat.le_of_ble_eq_true rfl)⟩ (Nat.le_of_ble_eq_true rfl) ⟨(Nat.le_of_ble_eq_true rfl), (Nat.le_of_ble_eq_true rfl)⟩ dX6_passHour_73 rfl rfl ?_
          refine r_istore (q := 78) (L' := [(7, .int v40), (6, .ref b24), (0, .ref a0), (2, .int v11), (3, .int (S.1 b2 0)), (4, .int v7), (5, .int v12)]) C dX6_passHour_76 rfl (by decide) rfl ?_
          refine r_aload_n (q := 79) C 2 dX6_passHour_78 rfl rfl ?_
          obtain ⟨b41, e42, hf⟩ := m_b1_of hf
          refine gf_X6_33 (q := 82) C dX6_passHour_79 g1 e42 rfl ?_
          refine r_iload (q := 84) C 6 dX6_passHour_82 rfl rfl ?_
          obtain ⟨g43, hf⟩ := m_gd_of hf
          obtain ⟨g44, hf⟩ := m_gd_of hf
          obtain ⟨b45, e46, hf⟩ := m_b1_of hf
          refine r_aald16 (q := 85) C dX6_passHour_84 ⟨g43, g44⟩ e46 rfl ?_
          refine r_iload_n (q := 86) C 4 dX6_passHour_85 rfl rfl ?_
          refine r_aload (q := 88) C 1 dX6_passHour_86 rfl rfl ?_
          obtain ⟨v48, h47, hf⟩ := m_b1_of hf
          refine r_callV (mc := 0) (ms := 0) (q := 91) (st1 := [.int v48, .int (S.1 b2 0), .ref b45]) C (c_X7_humidity hl h47) rfl w_825 w_606 w_607 w_6 w_608 hd_X7_humidity rfl (by decide) g33 rfl rfl rfl ⟨(Nat.le_of_ble_eq_true rfl), (Nat.le_of_ble_eq_true rfl)⟩ (Nat.le_of_ble_eq_true rfl) ⟨(Nat.le_of_ble_eq_true rfl), (Nat.le_of_ble_eq_true rfl)⟩ dX6_passHour_88 rfl rfl ?_
          refine r_iload (q := 93) C 0 dX6_passHour_91 rfl rfl ?_
          obtain ⟨g49, hf⟩ := m_gd_of hf
          obtain ⟨_u, S51, h50, hf⟩ := m_bw_of hf
          refine r_callV (mc := 0) (ms := 0) (q := 96) (st1 := []) C (c_X2_note hl h50) rfl w_826 w_827 w_828 w_10 w_829 hd_X2_note rfl (by decide) g49 rfl rfl rfl ⟨(Nat.le_of_ble_eq_true rfl), (Nat.le_of_ble_eq_true rfl)⟩ (Nat.le_of_ble_eq_true rfl) ⟨(Nat.le_of_ble_eq_true rfl), (Nat.le_of_ble_eq_true rfl)⟩ dX6_passHour_93 rfl rfl ?_
          refine r_iload_n (q := 97) C 3 dX6_passHour_96 rfl rfl ?_
          refine r_iload (q := 99) C 0 dX6_passHour_97 rfl rfl ?_
          refine r_if_eq (t := 106) (q := 102) C dX6_passHour_99 (by decide) rfl (fun c52 => ?_) (fun c52 => ?_)
          · replace hf := m_if1 hf c52
            refine r_iconst (q := 107) (v := (0 : Int32)) C dX6_passHour_106 (by decide) rfl ?_
            refine r_iadd (q := 108) C dX6_passHour_107 rfl ?_
            obtain ⟨v53, e54, hf⟩ := m_lt_of hf
            refine r_nm e54 ?_
            refine r_istore_n (q := 109) (L' := [(2, .int v53), (7, .int v40), (6, .ref b24), (0, .ref a0), (3, .int (S.1 b2 0)), (4, .int v7), (5, .int v12)]) C dX6_passHour_108 rfl rfl (by decide) rfl ?_
            obtain ⟨v55, e56, hf⟩ := m_lt_of hf
            refine r_iinc (q := 112) (v := v55) (L' := [(5, .int v55), (2, .int v53), (7, .int v40), (6, .ref b24), (0, .ref a0), (3, .int (S.1 b2 0)), (4, .int v7)]) C 6 dX6_passHour_109 rfl (by rw [e56]; rfl) rfl (by decide) rfl ?_
            refine r_goto (t := 23) C dX6_passHour_112 (by decide) ?_
            refine r_sub [4, 1, 5, 6, 0] rfl ?_
            exact ih15 v53 v55 S51 hf
          · replace hf := m_if0 hf c52
            refine r_iconst (q := 103) (v := (1 : Int32)) C dX6_passHour_102 (by decide) rfl ?_
            refine r_goto (t := 107) C dX6_passHour_103 (by decide) ?_
            refine r_iadd (q := 108) C dX6_passHour_107 rfl ?_
            obtain ⟨v57, e58, hf⟩ := m_lt_of hf
            refine r_nm e58 ?_
            refine r_istore_n (q := 109) (L' := [(2, .int v57), (7, .int v40), (6, .ref b24), (0, .ref a0), (3, .int (S.1 b2 0)), (4, .int v7), (5, .int v12)]) C dX6_passHour_108 rfl rfl (by decide) rfl ?_
            obtain ⟨v59, e60, hf⟩ := m_lt_of hf
            refine r_iinc (q := 112) (v := v59) (L' := [(5, .int v59), (2, .int v57), (7, .int v40), (6, .ref b24), (0, .ref a0), (3, .int (S.1 b2 0)), (4, .int v7)]) C 6 dX6_passHour_109 rfl (by rw [e60]; rfl) rfl (by decide) rfl ?_
            refine r_goto (t := 23) C dX6_passHour_112 (by decide) ?_
            refine r_sub [4, 1, 5, 6, 0] rfl ?_
            exact ih15 v57 v59 S51 hf
  refine r_sub [4, 3, 2, 1, 0] rfl ?_
  exact LL17 100000 (0 : Int32) (0 : Int32) S6 hf
def f_X6_takeSerial (Z : m_Z) (S : m_S) (a0 : Nat) : Option (Int32 × m_S) := m_gd (m_ok Z a0 6) (m_lt (m_pI S a0 1 ((S.1 a0 1) + (1 : Int32))) (fun S2 => some ((S.1 a0 1), S2)))
abbrev rm_X6_takeSerial : Room := { frames := 0, cells := 0, slots := 0, locals := 0 }
theorem hd_X6_takeSerial : yX6_takeSerial.cls = RX6 ∧ yX6_takeSerial.cls ≠ "java/lang/invoke/MethodHandle" ∧ yX6_takeSerial.cls ≠ "java/lang/invoke/VarHandle" ∧ (parseMethodDescriptor yX6_takeSerial.desc).map (fun d => d.parameters.length) = some 0 := by decide +kernel
set_option maxHeartbeats 4000000 in
set_option maxRecDepth 100000 in
theorem c_X6_takeSerial {l : Launch} (hl : l.stackTraces = false) {Z : m_Z} {S : m_S} {a0 : Nat} {rZ9 : Int32} {SZ9 : m_S} (hf : f_X6_takeSerial Z S a0 = some (rZ9, SZ9)) : m_Ct l yX6_takeSerial (.code yX6_takeSerial cX6_takeSerial 1 (some .int) :: m_ws) rm_X6_takeSerial (fun f => [.ref a0]) Z S (some (.int rZ9)) SZ9 := by
  unfold f_X6_takeSerial at hf
  refine m_ent hl (by decide) (fun _ => Nat.le_of_ble_eq_true rfl) (fun x C F => ?_)
  have C : m_H x l RX6 cX6_takeSerial 1 rm_X6_takeSerial := C
  show m_G x Z S 1 0 0 0 [(0, .ref a0)] []
  refine r_aload_n (q := 1) C 0 dX6_takeSerial_0 rfl rfl ?_
  refine r_dup (q := 2) C dX6_takeSerial_1 rfl rfl ?_
  obtain ⟨g1, hf⟩ := m_gd_of hf
  refine gf_X6_18 (q := 5) C dX6_takeSerial_2 g1 rfl ?_
  refine r_dup_x1 (q := 6) C dX6_takeSerial_5 rfl rfl rfl ?_
  refine r_iconst (q := 7) (v := (1 : Int32)) C dX6_takeSerial_6 (by decide) rfl ?_
  refine r_iadd (q := 8) C dX6_takeSerial_7 rfl ?_
  obtain ⟨S2, e3, hf⟩ := m_lt_of hf
  refine pf_X6_18 (q := 11) C dX6_takeSerial_8 g1 e3 rfl ?_
  obtain ⟨rfl, rfl⟩ := m_so2 hf
  exact r_iret C F dX6_takeSerial_11
def F_X7_moistureAt_8 (Z : m_Z) (S : m_S) (a0 : Nat) (p1 : Int32) (j5 : (Int32 → Option (Int32))) (lp8 : (Int32 × Int32) → Option (Int32)) (p27 : (Int32 × Int32)) : Option (Int32) := match p27 with
  | (v6, v7) => (if (S.1 a0 5) ≤ v7 then j5 v6 else m_b1 (S.2.2 a0 6) (fun b13 => m_gd (m_ok Z b13 14) ((if (Int32.ofNat (Z.2.2 b13)) ≤ v7 then j5 v6 else m_gd (m_in v7 (Z.2.2 b13)) (m_b1 (S.2.2 b13 v7.toNatClampNeg) (fun b18 => m_gd (m_ok Z b18 0) (m_b1 (f_X0_moistureAt Z S b18 p1) (fun v22 => m_lt (v6 + v22) (fun v23 => m_lt (v7 + (1 : Int32)) (fun v25 => lp8 (v23, v25)))))))))))
def f_X7_moistureAt (Z : m_Z) (S : m_S) (a0 : Nat) (p1 : Int32) : Option (Int32) := m_gd (m_ok Z a0 7) (m_b1 (f_X7_airAt Z S a0 p1) (fun v3 => m_jp (fun (v4 : Int32) => some v4) (fun j5 => m_fx (F_X7_moistureAt_8 Z S a0 p1 j5) 100000 (v3, (0 : Int32)))))
abbrev rm_X7_moistureAt : Room := { frames := 4, cells := 0, slots := 0, locals := 88 }
theorem hd_X7_moistureAt : yX7_moistureAt.cls = RX7 ∧ yX7_moistureAt.cls ≠ "java/lang/invoke/MethodHandle" ∧ yX7_moistureAt.cls ≠ "java/lang/invoke/VarHandle" ∧ (parseMethodDescriptor yX7_moistureAt.desc).map (fun d => d.parameters.length) = some 1 := by decide +kernel
set_option maxHeartbeats 4000000 in
set_option maxRecDepth 100000 in
theorem c_X7_moistureAt {l : Launch} (hl : l.stackTraces = false) {Z : m_Z} {S : m_S} {a0 : Nat} {p1 : Int32} {rZ9 : Int32} (hf : f_X7_moistureAt Z S a0 p1 = some rZ9) : m_Ct l yX7_moistureAt (.code yX7_moistureAt cX7_moistureAt 4 (some .int) :: m_ws) rm_X7_moistureAt (fun f => [.ref a0, .int p1]) Z S (some (.int rZ9)) S := by
  unfold f_X7_moistureAt at hf
  refine m_ent hl (by decide) (fun _ => Nat.le_of_ble_eq_true rfl) (fun x C F => ?_)
  have C : m_H x l RX7 cX7_moistureAt 4 rm_X7_moistureAt := C
  show m_G x Z S 4 0 0 0 [(0, .ref a0), (1, .int p1)] []
  refine r_aload_n (q := 1) C 0 dX7_moistureAt_0 rfl rfl ?_
  refine r_iload_n (q := 2) C 1 dX7_moistureAt_1 rfl rfl ?_
  obtain ⟨g1, hf⟩ := m_gd_of hf
  obtain ⟨v3, h2, hf⟩ := m_b1_of hf
  refine r_callV (mc := 0) (ms := 0) (q := 5) (st1 := [.int v3]) C (c_X7_airAt hl h2) rfl w_464 w_465 w_466 w_6 w_467 hd_X7_airAt rfl (by decide) g1 rfl rfl rfl ⟨(Nat.le_of_ble_eq_true rfl), (Nat.le_of_ble_eq_true rfl)⟩ (Nat.le_of_ble_eq_true rfl) ⟨(Nat.le_of_ble_eq_true rfl), (Nat.le_of_ble_eq_true rfl)⟩ dX7_moistureAt_2 rfl rfl ?_
  refine r_istore_n (q := 6) (L' := [(2, .int v3), (0, .ref a0), (1, .int p1)]) C dX7_moistureAt_5 rfl rfl (by decide) rfl ?_
  refine r_iconst (q := 7) (v := (0 : Int32)) C dX7_moistureAt_6 (by decide) rfl ?_
  refine r_istore_n (q := 8) (L' := [(3, .int (0 : Int32)), (2, .int v3), (0, .ref a0), (1, .int p1)]) C dX7_moistureAt_7 rfl rfl (by decide) rfl ?_
  obtain ⟨j5, ej5, hf⟩ := m_jp_of hf
  have J5 : ∀ (v4 : Int32), j5 v4 = some rZ9 → m_G x Z S 4 0 0 44 [(2, .int v4)] [] := by
    intro v4 hf
    rw [ej5] at hf
    refine r_iload_n (q := 45) C 0 dX7_moistureAt_44 rfl rfl ?_
    obtain rfl := m_so1 hf
    exact r_iret C F dX7_moistureAt_45
  have LL11 : ∀ (fu10 : Nat) (v6 : Int32) (v7 : Int32), m_fx (F_X7_moistureAt_8 Z S a0 p1 j5) fu10 (v6, v7) = some rZ9 → m_G x Z S 4 0 0 8 [(0, .ref a0), (1, .int p1), (2, .int v6), (3, .int v7)] [] := by
    intro fu10
    induction fu10 with
    | zero => intros; rename_i hf; cases hf
    | succ fu10 ih9 =>
      intro v6 v7 hf
      replace hf : F_X7_moistureAt_8 Z S a0 p1 j5 (m_fx (F_X7_moistureAt_8 Z S a0 p1 j5) fu10) (v6, v7) = some rZ9 := hf
      unfold F_X7_moistureAt_8 at hf
      dsimp only at hf
      refine r_iload_n (q := 9) C 3 dX7_moistureAt_8 rfl rfl ?_
      refine r_aload_n (q := 10) C 0 dX7_moistureAt_9 rfl rfl ?_
      refine gf_X7_27 (q := 13) C dX7_moistureAt_10 g1 rfl ?_
      refine r_icmp_ge (t := 44) (q := 16) C dX7_moistureAt_13 (by decide) rfl (fun c12 => ?_) (fun c12 => ?_)
      · replace hf := m_if1 hf c12
        refine r_sub [2] rfl ?_
        exact J5 v6 hf
      · replace hf := m_if0 hf c12
        refine r_iload_n (q := 17) C 3 dX7_moistureAt_16 rfl rfl ?_
        refine r_aload_n (q := 18) C 0 dX7_moistureAt_17 rfl rfl ?_
        obtain ⟨b13, e14, hf⟩ := m_b1_of hf
        refine gf_X7_32 (q := 21) C dX7_moistureAt_18 g1 e14 rfl ?_
        obtain ⟨g15, hf⟩ := m_gd_of hf
        refine r_alen (q := 22) 14 4 C dX7_moistureAt_21 g15 (by decide) rfl rfl ?_
        refine r_icmp_ge (t := 44) (q := 25) C dX7_moistureAt_22 (by decide) rfl (fun c16 => ?_) (fun c16 => ?_)
        · replace hf := m_if1 hf c16
          refine r_sub [2] rfl ?_
          exact J5 v6 hf
        · replace hf := m_if0 hf c16
          refine r_iload_n (q := 26) C 2 dX7_moistureAt_25 rfl rfl ?_
          refine r_aload_n (q := 27) C 0 dX7_moistureAt_26 rfl rfl ?_
          refine gf_X7_32 (q := 30) C dX7_moistureAt_27 g1 e14 rfl ?_
          refine r_iload_n (q := 31) C 3 dX7_moistureAt_30 rfl rfl ?_
          obtain ⟨g17, hf⟩ := m_gd_of hf
          obtain ⟨b18, e19, hf⟩ := m_b1_of hf
          refine r_aald14 (q := 32) C dX7_moistureAt_31 ⟨g15, g17⟩ e19 rfl ?_
          refine r_iload_n (q := 33) C 1 dX7_moistureAt_32 rfl rfl ?_
          obtain ⟨g20, hf⟩ := m_gd_of hf
          obtain ⟨v22, h21, hf⟩ := m_b1_of hf
          refine r_callV (mc := 0) (ms := 0) (q := 36) (st1 := [.int v22, .int v6]) C (c_X0_moistureAt hl h21) rfl w_875 w_712 w_713 w_7 w_714 hd_X0_moistureAt rfl (by decide) g20 rfl rfl rfl ⟨(Nat.le_of_ble_eq_true rfl), (Nat.le_of_ble_eq_true rfl)⟩ (Nat.le_of_ble_eq_true rfl) ⟨(Nat.le_of_ble_eq_true rfl), (Nat.le_of_ble_eq_true rfl)⟩ dX7_moistureAt_33 rfl rfl ?_
          refine r_iadd (q := 37) C dX7_moistureAt_36 rfl ?_
          obtain ⟨v23, e24, hf⟩ := m_lt_of hf
          refine r_nm e24 ?_
          refine r_istore_n (q := 38) (L' := [(2, .int v23), (0, .ref a0), (1, .int p1), (3, .int v7)]) C dX7_moistureAt_37 rfl rfl (by decide) rfl ?_
          obtain ⟨v25, e26, hf⟩ := m_lt_of hf
          refine r_iinc (q := 41) (v := v25) (L' := [(3, .int v25), (2, .int v23), (0, .ref a0), (1, .int p1)]) C 3 dX7_moistureAt_38 rfl (by rw [e26]; rfl) rfl (by decide) rfl ?_
          refine r_goto (t := 8) C dX7_moistureAt_41 (by decide) ?_
          refine r_sub [2, 3, 1, 0] rfl ?_
          exact ih9 v23 v25 hf
  refine r_sub [2, 3, 1, 0] rfl ?_
  exact LL11 100000 v3 (0 : Int32) hf
def f_X7_moistureOf (Z : m_Z) (S : m_S) (a0 : Nat) (p1 : Int32) : Option (Int32) := (if p1 < 0 then some (0 : Int32) else m_gd (m_ok Z a0 7) (m_b1 (S.2.2 a0 6) (fun b3 => m_gd (m_ok Z b3 14) ((if p1 < (Int32.ofNat (Z.2.2 b3)) then m_gd (m_in p1 (Z.2.2 b3)) (m_b1 (S.2.2 b3 p1.toNatClampNeg) (fun b8 => m_gd (m_ok Z b8 0) (some (S.1 b8 3)))) else some (0 : Int32))))))
abbrev rm_X7_moistureOf : Room := { frames := 0, cells := 0, slots := 0, locals := 0 }
theorem hd_X7_moistureOf : yX7_moistureOf.cls = RX7 ∧ yX7_moistureOf.cls ≠ "java/lang/invoke/MethodHandle" ∧ yX7_moistureOf.cls ≠ "java/lang/invoke/VarHandle" ∧ (parseMethodDescriptor yX7_moistureOf.desc).map (fun d => d.parameters.length) = some 1 := by decide +kernel
set_option maxHeartbeats 4000000 in
set_option maxRecDepth 100000 in
theorem c_X7_moistureOf {l : Launch} (hl : l.stackTraces = false) {Z : m_Z} {S : m_S} {a0 : Nat} {p1 : Int32} {rZ9 : Int32} (hf : f_X7_moistureOf Z S a0 p1 = some rZ9) : m_Ct l yX7_moistureOf (.code yX7_moistureOf cX7_moistureOf 2 (some .int) :: m_ws) rm_X7_moistureOf (fun f => [.ref a0, .int p1]) Z S (some (.int rZ9)) S := by
  unfold f_X7_moistureOf at hf
  refine m_ent hl (by decide) (fun _ => Nat.le_of_ble_eq_true rfl) (fun x C F => ?_)
  have C : m_H x l RX7 cX7_moistureOf 2 rm_X7_moistureOf := C
  show m_G x Z S 2 0 0 0 [(0, .ref a0), (1, .int p1)] []
  refine r_iload_n (q := 1) C 1 dX7_moistureOf_0 rfl rfl ?_
  refine r_if_lt (t := 13) (q := 4) C dX7_moistureOf_1 (by decide) rfl (fun c1 => ?_) (fun c1 => ?_)
  · replace hf := m_if1 hf c1
    refine r_iconst (q := 14) (v := (0 : Int32)) C dX7_moistureOf_13 (by decide) rfl ?_
    refine r_goto (t := 26) C dX7_moistureOf_14 (by decide) ?_
    obtain rfl := m_so1 hf
    exact r_iret C F dX7_moistureOf_26
  · replace hf := m_if0 hf c1
    refine r_iload_n (q := 5) C 1 dX7_moistureOf_4 rfl rfl ?_
    refine r_aload_n (q := 6) C 0 dX7_moistureOf_5 rfl rfl ?_
    obtain ⟨g2, hf⟩ := m_gd_of hf
    obtain ⟨b3, e4, hf⟩ := m_b1_of hf
    refine gf_X7_32 (q := 9) C dX7_moistureOf_6 g2 e4 rfl ?_
    obtain ⟨g5, hf⟩ := m_gd_of hf
    refine r_alen (q := 10) 14 4 C dX7_moistureOf_9 g5 (by decide) rfl rfl ?_
    refine r_icmp_lt (t := 17) (q := 13) C dX7_moistureOf_10 (by decide) rfl (fun c6 => ?_) (fun c6 => ?_)
    · replace hf := m_if1 hf c6
      refine r_aload_n (q := 18) C 0 dX7_moistureOf_17 rfl rfl ?_
      refine gf_X7_32 (q := 21) C dX7_moistureOf_18 g2 e4 rfl ?_
      refine r_iload_n (q := 22) C 1 dX7_moistureOf_21 rfl rfl ?_
      obtain ⟨g7, hf⟩ := m_gd_of hf
      obtain ⟨b8, e9, hf⟩ := m_b1_of hf
      refine r_aald14 (q := 23) C dX7_moistureOf_22 ⟨g5, g7⟩ e9 rfl ?_
      obtain ⟨g10, hf⟩ := m_gd_of hf
      refine gf_X7_53 (q := 26) C dX7_moistureOf_23 g10 rfl ?_
      obtain rfl := m_so1 hf
      exact r_iret C F dX7_moistureOf_26
    · replace hf := m_if0 hf c6
      refine r_iconst (q := 14) (v := (0 : Int32)) C dX7_moistureOf_13 (by decide) rfl ?_
      refine r_goto (t := 26) C dX7_moistureOf_14 (by decide) ?_
      obtain rfl := m_so1 hf
      exact r_iret C F dX7_moistureOf_26
def f_X7_putCopyOf (Z : m_Z) (S : m_S) (a0 : Nat) (p1 : Nat) (p2 : Int32) : Option (Unit × m_S) := m_gd (m_ok Z a0 7) (m_b1 (S.2.2 a0 6) (fun b2 => m_gd (m_ok Z b2 14) ((if (Int32.ofNat (Z.2.2 b2)) ≤ (S.1 a0 5) then some ((), S) else (if p2 < 0 then some ((), S) else m_gd (m_ok Z p1 7) (m_b1 (S.2.2 p1 6) (fun b8 => m_gd (m_ok Z b8 14) ((if (Int32.ofNat (Z.2.2 b8)) ≤ p2 then some ((), S) else m_gd (m_in (S.1 a0 5) (Z.2.2 b2)) (m_b1 (S.2.2 b2 (S.1 a0 5).toNatClampNeg) (fun b13 => m_gd (m_in p2 (Z.2.2 b8)) (m_b1 (S.2.2 b8 p2.toNatClampNeg) (fun b16 => m_gd (m_ok Z b13 0) (m_bw (f_X0_copyFrom Z S b13 b16) (fun _u S20 => m_lt (m_pI S20 a0 5 ((S20.1 a0 5) + (1 : Int32))) (fun S21 => some ((), S21)))))))))))))))))
abbrev rm_X7_putCopyOf : Room := { frames := 1, cells := 0, slots := 0, locals := 21 }
theorem hd_X7_putCopyOf : yX7_putCopyOf.cls = RX7 ∧ yX7_putCopyOf.cls ≠ "java/lang/invoke/MethodHandle" ∧ yX7_putCopyOf.cls ≠ "java/lang/invoke/VarHandle" ∧ (parseMethodDescriptor yX7_putCopyOf.desc).map (fun d => d.parameters.length) = some 2 := by decide +kernel
set_option maxHeartbeats 4000000 in
set_option maxRecDepth 100000 in
theorem c_X7_putCopyOf {l : Launch} (hl : l.stackTraces = false) {Z : m_Z} {S : m_S} {a0 : Nat} {p1 : Nat} {p2 : Int32} {rZ9 : Unit} {SZ9 : m_S} (hf : f_X7_putCopyOf Z S a0 p1 p2 = some (rZ9, SZ9)) : m_Ct l yX7_putCopyOf (.code yX7_putCopyOf cX7_putCopyOf 3 none :: m_ws) rm_X7_putCopyOf (fun f => [.ref a0, .ref p1, .int p2]) Z S (none) SZ9 := by
  unfold f_X7_putCopyOf at hf
  refine m_ent hl (by decide) (fun _ => Nat.le_of_ble_eq_true rfl) (fun x C F => ?_)
  have C : m_H x l RX7 cX7_putCopyOf 3 rm_X7_putCopyOf := C
  show m_G x Z S 3 0 0 0 [(0, .ref a0), (1, .ref p1), (2, .int p2)] []
  refine r_aload_n (q := 1) C 0 dX7_putCopyOf_0 rfl rfl ?_
  obtain ⟨g1, hf⟩ := m_gd_of hf
  refine gf_X7_27 (q := 4) C dX7_putCopyOf_1 g1 rfl ?_
  refine r_aload_n (q := 5) C 0 dX7_putCopyOf_4 rfl rfl ?_
  obtain ⟨b2, e3, hf⟩ := m_b1_of hf
  refine gf_X7_32 (q := 8) C dX7_putCopyOf_5 g1 e3 rfl ?_
  obtain ⟨g4, hf⟩ := m_gd_of hf
  refine r_alen (q := 9) 14 4 C dX7_putCopyOf_8 g4 (by decide) rfl rfl ?_
  refine r_icmp_ge (t := 53) (q := 12) C dX7_putCopyOf_9 (by decide) rfl (fun c5 => ?_) (fun c5 => ?_)
  · replace hf := m_if1 hf c5
    obtain ⟨rfl, rfl⟩ := m_so2 hf
    exact r_vret C F dX7_putCopyOf_53
  · replace hf := m_if0 hf c5
    refine r_iload_n (q := 13) C 2 dX7_putCopyOf_12 rfl rfl ?_
    refine r_if_lt (t := 53) (q := 16) C dX7_putCopyOf_13 (by decide) rfl (fun c6 => ?_) (fun c6 => ?_)
    · replace hf := m_if1 hf c6
      obtain ⟨rfl, rfl⟩ := m_so2 hf
      exact r_vret C F dX7_putCopyOf_53
    · replace hf := m_if0 hf c6
      refine r_iload_n (q := 17) C 2 dX7_putCopyOf_16 rfl rfl ?_
      refine r_aload_n (q := 18) C 1 dX7_putCopyOf_17 rfl rfl ?_
      obtain ⟨g7, hf⟩ := m_gd_of hf
      obtain ⟨b8, e9, hf⟩ := m_b1_of hf
      refine gf_X7_32 (q := 21) C dX7_putCopyOf_18 g7 e9 rfl ?_
      obtain ⟨g10, hf⟩ := m_gd_of hf
      refine r_alen (q := 22) 14 4 C dX7_putCopyOf_21 g10 (by decide) rfl rfl ?_
      refine r_icmp_ge (t := 53) (q := 25) C dX7_putCopyOf_22 (by decide) rfl (fun c11 => ?_) (fun c11 => ?_)
      · replace hf := m_if1 hf c11
        obtain ⟨rfl, rfl⟩ := m_so2 hf
        exact r_vret C F dX7_putCopyOf_53
      · replace hf := m_if0 hf c11
        refine r_aload_n (q := 26) C 0 dX7_putCopyOf_25 rfl rfl ?_
        refine gf_X7_32 (q := 29) C dX7_putCopyOf_26 g1 e3 rfl ?_
        refine r_aload_n (q := 30) C 0 dX7_putCopyOf_29 rfl rfl ?_
        refine gf_X7_27 (q := 33) C dX7_putCopyOf_30 g1 rfl ?_
        obtain ⟨g12, hf⟩ := m_gd_of hf
        obtain ⟨b13, e14, hf⟩ := m_b1_of hf
        refine r_aald14 (q := 34) C dX7_putCopyOf_33 ⟨g4, g12⟩ e14 rfl ?_
        refine r_aload_n (q := 35) C 1 dX7_putCopyOf_34 rfl rfl ?_
        refine gf_X7_32 (q := 38) C dX7_putCopyOf_35 g7 e9 rfl ?_
        refine r_iload_n (q := 39) C 2 dX7_putCopyOf_38 rfl rfl ?_
        obtain ⟨g15, hf⟩ := m_gd_of hf
        obtain ⟨b16, e17, hf⟩ := m_b1_of hf
        refine r_aald14 (q := 40) C dX7_putCopyOf_39 ⟨g10, g15⟩ e17 rfl ?_
        obtain ⟨g18, hf⟩ := m_gd_of hf
        obtain ⟨_u, S20, h19, hf⟩ := m_bw_of hf
        refine r_callV (mc := 0) (ms := 0) (q := 43) (st1 := []) C (c_X0_copyFrom hl h19) rfl w_509 w_510 w_511 w_7 w_512 hd_X0_copyFrom rfl (by decide) g18 rfl rfl rfl ⟨(Nat.le_of_ble_eq_true rfl), (Nat.le_of_ble_eq_true rfl)⟩ (Nat.le_of_ble_eq_true rfl) ⟨(Nat.le_of_ble_eq_true rfl), (Nat.le_of_ble_eq_true rfl)⟩ dX7_putCopyOf_40 rfl rfl ?_
        refine r_aload_n (q := 44) C 0 dX7_putCopyOf_43 rfl rfl ?_
        refine r_dup (q := 45) C dX7_putCopyOf_44 rfl rfl ?_
        refine gf_X7_27 (q := 48) C dX7_putCopyOf_45 g1 rfl ?_
        refine r_iconst (q := 49) (v := (1 : Int32)) C dX7_putCopyOf_48 (by decide) rfl ?_
        refine r_iadd (q := 50) C dX7_putCopyOf_49 rfl ?_
        obtain ⟨S21, e22, hf⟩ := m_lt_of hf
        refine pf_X7_27 (q := 53) C dX7_putCopyOf_50 g1 e22 rfl ?_
        obtain ⟨rfl, rfl⟩ := m_so2 hf
        exact r_vret C F dX7_putCopyOf_53
def f_X7_recondition (Z : m_Z) (S : m_S) (a0 : Nat) (p1 : Int32) (p2 : Int32) (p3 : Int32) : Option (Unit × m_S) := (if p1 < 0 then some ((), S) else m_gd (m_ok Z a0 7) (m_b1 (S.2.2 a0 6) (fun b3 => m_gd (m_ok Z b3 14) ((if (Int32.ofNat (Z.2.2 b3)) ≤ p1 then some ((), S) else m_gd (m_in p1 (Z.2.2 b3)) (m_b1 (S.2.2 b3 p1.toNatClampNeg) (fun b8 => m_gd (m_ok Z b8 0) (m_bw (f_X0_renew Z S b8 p2 p3) (fun _u S12 => some ((), S12))))))))))
abbrev rm_X7_recondition : Room := { frames := 5, cells := 0, slots := 0, locals := 110 }
theorem hd_X7_recondition : yX7_recondition.cls = RX7 ∧ yX7_recondition.cls ≠ "java/lang/invoke/MethodHandle" ∧ yX7_recondition.cls ≠ "java/lang/invoke/VarHandle" ∧ (parseMethodDescriptor yX7_recondition.desc).map (fun d => d.parameters.length) = some 3 := by decide +kernel
set_option maxHeartbeats 4000000 in
set_option maxRecDepth 100000 in
theorem c_X7_recondition {l : Launch} (hl : l.stackTraces = false) {Z : m_Z} {S : m_S} {a0 : Nat} {p1 : Int32} {p2 : Int32} {p3 : Int32} {rZ9 : Unit} {SZ9 : m_S} (hf : f_X7_recondition Z S a0 p1 p2 p3 = some (rZ9, SZ9)) : m_Ct l yX7_recondition (.code yX7_recondition cX7_recondition 4 none :: m_ws) rm_X7_recondition (fun f => [.ref a0, .int p1, .int p2, .int p3]) Z S (none) SZ9 := by
  unfold f_X7_recondition at hf
  refine m_ent hl (by decide) (fun _ => Nat.le_of_ble_eq_true rfl) (fun x C F => ?_)
  have C : m_H x l RX7 cX7_recondition 4 rm_X7_recondition := C
  show m_G x Z S 4 0 0 0 [(0, .ref a0), (1, .int p1), (2, .int p2), (3, .int p3)] []
  refine r_iload_n (q := 1) C 1 dX7_recondition_0 rfl rfl ?_
  refine r_if_lt (t := 24) (q := 4) C dX7_recondition_1 (by decide) rfl (fun c1 => ?_) (fun c1 => ?_)
  · replace hf := m_if1 hf c1
    obtain ⟨rfl, rfl⟩ := m_so2 hf
    exact r_vret C F dX7_recondition_24
  · replace hf := m_if0 hf c1
    refine r_iload_n (q := 5) C 1 dX7_recondition_4 rfl rfl ?_
    refine r_aload_n (q := 6) C 0 dX7_recondition_5 rfl rfl ?_
    obtain ⟨g2, hf⟩ := m_gd_of hf
    obtain ⟨b3, e4, hf⟩ := m_b1_of hf
    refine gf_X7_32 (q := 9) C dX7_recondition_6 g2 e4 rfl ?_
    obtain ⟨g5, hf⟩ := m_gd_of hf
    refine r_alen (q := 10) 14 4 C dX7_recondition_9 g5 (by decide) rfl rfl ?_
    refine r_icmp_ge (t := 24) (q := 13) C dX7_recondition_10 (by decide) rfl (fun c6 => ?_) (fun c6 => ?_)
    · replace hf := m_if1 hf c6
      obtain ⟨rfl, rfl⟩ := m_so2 hf
      exact r_vret C F dX7_recondition_24
    · replace hf := m_if0 hf c6
      refine r_aload_n (q := 14) C 0 dX7_recondition_13 rfl rfl ?_
      refine gf_X7_32 (q := 17) C dX7_recondition_14 g2 e4 rfl ?_
      refine r_iload_n (q := 18) C 1 dX7_recondition_17 rfl rfl ?_
      obtain ⟨g7, hf⟩ := m_gd_of hf
      obtain ⟨b8, e9, hf⟩ := m_b1_of hf
      refine r_aald14 (q := 19) C dX7_recondition_18 ⟨g5, g7⟩ e9 rfl ?_
      refine r_iload_n (q := 20) C 2 dX7_recondition_19 rfl rfl ?_
      refine r_iload_n (q := 21) C 3 dX7_recondition_20 rfl rfl ?_
      obtain ⟨g10, hf⟩ := m_gd_of hf
      obtain ⟨_u, S12, h11, hf⟩ := m_bw_of hf
      refine r_callV (mc := 0) (ms := 0) (q := 24) (st1 := []) C (c_X0_renew hl h11) rfl w_784 w_785 w_786 w_7 w_787 hd_X0_renew rfl (by decide) g10 rfl rfl rfl ⟨(Nat.le_of_ble_eq_true rfl), (Nat.le_of_ble_eq_true rfl)⟩ (Nat.le_of_ble_eq_true rfl) ⟨(Nat.le_of_ble_eq_true rfl), (Nat.le_of_ble_eq_true rfl)⟩ dX7_recondition_21 rfl rfl ?_
      obtain ⟨rfl, rfl⟩ := m_so2 hf
      exact r_vret C F dX7_recondition_24
def F_X7_restHumidity_11 (Z : m_Z) (S : m_S) (a0 : Nat) (v3 : Int32) (j6 : (Int32 → Option (Int32))) (lp9 : (Int32 × Int32) → Option (Int32)) (p26 : (Int32 × Int32)) : Option (Int32) := match p26 with
  | (v7, v8) => (if v8 ≤ 0 then j6 v7 else m_lt (v7 + v8) (fun v14 => (if (1000 : Int32) < v14 then m_lt (v8 / (2 : Int32)) (fun v17 => lp9 (v7, v17)) else m_b1 (f_X7_moistureAt Z S a0 v14) (fun v20 => (if v3 ≤ v20 then m_lt (v8 / (2 : Int32)) (fun v22 => lp9 (v7, v22)) else m_lt (v8 / (2 : Int32)) (fun v24 => lp9 (v14, v24)))))))
def f_X7_restHumidity (Z : m_Z) (S : m_S) (a0 : Nat) : Option (Int32) := m_gd (m_ok Z a0 7) (m_b1 (f_X7_moisture Z S a0) (fun v3 => m_jp (fun (v4 : Int32) => (if ¬ v4 = (1000 : Int32) then some (v4 + (1 : Int32)) else some (-1 : Int32))) (fun j6 => m_fx (F_X7_restHumidity_11 Z S a0 v3 j6) 100000 ((-1 : Int32), (512 : Int32)))))
abbrev rm_X7_restHumidity : Room := { frames := 5, cells := 0, slots := 0, locals := 111 }
theorem hd_X7_restHumidity : yX7_restHumidity.cls = RX7 ∧ yX7_restHumidity.cls ≠ "java/lang/invoke/MethodHandle" ∧ yX7_restHumidity.cls ≠ "java/lang/invoke/VarHandle" ∧ (parseMethodDescriptor yX7_restHumidity.desc).map (fun d => d.parameters.length) = some 0 := by decide +kernel
set_option maxHeartbeats 4000000 in
set_option maxRecDepth 100000 in
theorem c_X7_restHumidity {l : Launch} (hl : l.stackTraces = false) {Z : m_Z} {S : m_S} {a0 : Nat} {rZ9 : Int32} (hf : f_X7_restHumidity Z S a0 = some rZ9) : m_Ct l yX7_restHumidity (.code yX7_restHumidity cX7_restHumidity 5 (some .int) :: m_ws) rm_X7_restHumidity (fun f => [.ref a0]) Z S (some (.int rZ9)) S := by
  unfold f_X7_restHumidity at hf
  refine m_ent hl (by decide) (fun _ => Nat.le_of_ble_eq_true rfl) (fun x C F => ?_)
  have C : m_H x l RX7 cX7_restHumidity 5 rm_X7_restHumidity := C
  show m_G x Z S 5 0 0 0 [(0, .ref a0)] []
  refine r_aload_n (q := 1) C 0 dX7_restHumidity_0 rfl rfl ?_
  obtain ⟨g1, hf⟩ := m_gd_of hf
  obtain ⟨v3, h2, hf⟩ := m_b1_of hf
  refine r_callV (mc := 0) (ms := 0) (q := 4) (st1 := [.int v3]) C (c_X7_moisture hl h2) rfl w_870 w_514 w_515 w_6 w_516 hd_X7_moisture rfl (by decide) g1 rfl rfl rfl ⟨(Nat.le_of_ble_eq_true rfl), (Nat.le_of_ble_eq_true rfl)⟩ (Nat.le_of_ble_eq_true rfl) ⟨(Nat.le_of_ble_eq_true rfl), (Nat.le_of_ble_eq_true rfl)⟩ dX7_restHumidity_1 rfl rfl ?_
  refine r_istore_n (q := 5) (L' := [(1, .int v3), (0, .ref a0)]) C dX7_restHumidity_4 rfl rfl (by decide) rfl ?_
  refine r_iconst (q := 6) (v := (-1 : Int32)) C dX7_restHumidity_5 (by decide) rfl ?_
  refine r_istore_n (q := 7) (L' := [(2, .int (-1 : Int32)), (1, .int v3), (0, .ref a0)]) C dX7_restHumidity_6 rfl rfl (by decide) rfl ?_
  refine r_sipush (q := 10) (v := (512 : Int32)) C dX7_restHumidity_7 (by decide) rfl ?_
  refine r_istore_n (q := 11) (L' := [(3, .int (512 : Int32)), (2, .int (-1 : Int32)), (1, .int v3), (0, .ref a0)]) C dX7_restHumidity_10 rfl rfl (by decide) rfl ?_
  obtain ⟨j6, ej6, hf⟩ := m_jp_of hf
  have J6 : ∀ (v4 : Int32), j6 v4 = some rZ9 → m_G x Z S 5 0 0 48 [(2, .int v4)] [] := by
    intro v4 hf
    rw [ej6] at hf
    refine r_iload_n (q := 49) C 0 dX7_restHumidity_48 rfl rfl ?_
    refine r_sipush (q := 52) (v := (1000 : Int32)) C dX7_restHumidity_49 (by decide) rfl ?_
    refine r_icmp_ne (t := 59) (q := 55) C dX7_restHumidity_52 (by decide) rfl (fun c5 => ?_) (fun c5 => ?_)
    · replace hf := m_if1 hf c5
      refine r_iload_n (q := 60) C 0 dX7_restHumidity_59 rfl rfl ?_
      refine r_iconst (q := 61) (v := (1 : Int32)) C dX7_restHumidity_60 (by decide) rfl ?_
      refine r_iadd (q := 62) C dX7_restHumidity_61 rfl ?_
      obtain rfl := m_so1 hf
      exact r_iret C F dX7_restHumidity_62
    · replace hf := m_if0 hf (fun z => z c5)
      refine r_iconst (q := 56) (v := (-1 : Int32)) C dX7_restHumidity_55 (by decide) rfl ?_
      refine r_goto (t := 62) C dX7_restHumidity_56 (by decide) ?_
      obtain rfl := m_so1 hf
      exact r_iret C F dX7_restHumidity_62
  have LL12 : ∀ (fu11 : Nat) (v7 : Int32) (v8 : Int32), m_fx (F_X7_restHumidity_11 Z S a0 v3 j6) fu11 (v7, v8) = some rZ9 → m_G x Z S 5 0 0 11 [(0, .ref a0), (1, .int v3), (2, .int v7), (3, .int v8)] [] := by
    intro fu11
    induction fu11 with
    | zero => intros; rename_i hf; cases hf
    | succ fu11 ih10 =>
      intro v7 v8 hf
      replace hf : F_X7_restHumidity_11 Z S a0 v3 j6 (m_fx (F_X7_restHumidity_11 Z S a0 v3 j6) fu11) (v7, v8) = some rZ9 := hf
      unfold F_X7_restHumidity_11 at hf
      dsimp only at hf
      refine r_iload_n (q := 12) C 3 dX7_restHumidity_11 rfl rfl ?_
      refine r_if_le (t := 48) (q := 15) C dX7_restHumidity_12 (by decide) rfl (fun c13 => ?_) (fun c13 => ?_)
      · replace hf := m_if1 hf c13
        refine r_sub [2] rfl ?_
        exact J6 v7 hf
      · replace hf := m_if0 hf c13
        refine r_iload_n (q := 16) C 2 dX7_restHumidity_15 rfl rfl ?_
        refine r_iload_n (q := 17) C 3 dX7_restHumidity_16 rfl rfl ?_
        refine r_iadd (q := 18) C dX7_restHumidity_17 rfl ?_
        obtain ⟨v14, e15, hf⟩ := m_lt_of hf
        refine r_nm e15 ?_
        refine r_istore (q := 20) (L' := [(4, .int v14), (0, .ref a0), (1, .int v3), (2, .int v7), (3, .int v8)]) C dX7_restHumidity_18 rfl (by decide) rfl ?_
        refine r_iload (q := 22) C 0 dX7_restHumidity_20 rfl rfl ?_
        refine r_sipush (q := 25) (v := (1000 : Int32)) C dX7_restHumidity_22 (by decide) rfl ?_
        refine r_icmp_gt (t := 41) (q := 28) C dX7_restHumidity_25 (by decide) rfl (fun c16 => ?_) (fun c16 => ?_)
        · replace hf := m_if1 hf c16
          refine r_iload_n (q := 42) C 4 dX7_restHumidity_41 rfl rfl ?_
          refine r_iconst (q := 43) (v := (2 : Int32)) C dX7_restHumidity_42 (by decide) rfl ?_
          refine r_idiv (q := 44) C dX7_restHumidity_43 (by decide) rfl ?_
          obtain ⟨v17, e18, hf⟩ := m_lt_of hf
          refine r_nm e18 ?_
          refine r_istore_n (q := 45) (L' := [(3, .int v17), (4, .int v14), (0, .ref a0), (1, .int v3), (2, .int v7)]) C dX7_restHumidity_44 rfl rfl (by decide) rfl ?_
          refine r_goto (t := 11) C dX7_restHumidity_45 (by decide) ?_
          refine r_sub [2, 3, 4, 0] rfl ?_
          exact ih10 v7 v17 hf
        · replace hf := m_if0 hf c16
          refine r_aload_n (q := 29) C 1 dX7_restHumidity_28 rfl rfl ?_
          refine r_iload (q := 31) C 0 dX7_restHumidity_29 rfl rfl ?_
          obtain ⟨v20, h19, hf⟩ := m_b1_of hf
          refine r_callV (mc := 0) (ms := 0) (q := 34) (st1 := [.int v20]) C (c_X7_moistureAt hl h19) rfl w_871 w_872 w_873 w_6 w_874 hd_X7_moistureAt rfl (by decide) g1 rfl rfl rfl ⟨(Nat.le_of_ble_eq_true rfl), (Nat.le_of_ble_eq_true rfl)⟩ (Nat.le_of_ble_eq_true rfl) ⟨(Nat.le_of_ble_eq_true rfl), (Nat.le_of_ble_eq_true rfl)⟩ dX7_restHumidity_31 rfl rfl ?_
          refine r_iload_n (q := 35) C 2 dX7_restHumidity_34 rfl rfl ?_
          refine r_icmp_ge (t := 41) (q := 38) C dX7_restHumidity_35 (by decide) rfl (fun c21 => ?_) (fun c21 => ?_)
          · replace hf := m_if1 hf c21
            refine r_iload_n (q := 42) C 4 dX7_restHumidity_41 rfl rfl ?_
            refine r_iconst (q := 43) (v := (2 : Int32)) C dX7_restHumidity_42 (by decide) rfl ?_
            refine r_idiv (q := 44) C dX7_restHumidity_43 (by decide) rfl ?_
            obtain ⟨v22, e23, hf⟩ := m_lt_of hf
            refine r_nm e23 ?_
            refine r_istore_n (q := 45) (L' := [(3, .int v22), (4, .int v14), (0, .ref a0), (1, .int v3), (2, .int v7)]) C dX7_restHumidity_44 rfl rfl (by decide) rfl ?_
            refine r_goto (t := 11) C dX7_restHumidity_45 (by decide) ?_
            refine r_sub [2, 3, 4, 0] rfl ?_
            exact ih10 v7 v22 hf
          · replace hf := m_if0 hf c21
            refine r_iload (q := 40) C 0 dX7_restHumidity_38 rfl rfl ?_
            refine r_istore_n (q := 41) (L' := [(2, .int v14), (4, .int v14), (0, .ref a0), (1, .int v3), (3, .int v8)]) C dX7_restHumidity_40 rfl rfl (by decide) rfl ?_
            refine r_iload_n (q := 42) C 4 dX7_restHumidity_41 rfl rfl ?_
            refine r_iconst (q := 43) (v := (2 : Int32)) C dX7_restHumidity_42 (by decide) rfl ?_
            refine r_idiv (q := 44) C dX7_restHumidity_43 (by decide) rfl ?_
            obtain ⟨v24, e25, hf⟩ := m_lt_of hf
            refine r_nm e25 ?_
            refine r_istore_n (q := 45) (L' := [(3, .int v24), (2, .int v14), (4, .int v14), (0, .ref a0), (1, .int v3)]) C dX7_restHumidity_44 rfl rfl (by decide) rfl ?_
            refine r_goto (t := 11) C dX7_restHumidity_45 (by decide) ?_
            refine r_sub [3, 4, 1, 0] rfl ?_
            exact ih10 v14 v24 hf
  refine r_sub [3, 2, 1, 0] rfl ?_
  exact LL12 100000 (-1 : Int32) (512 : Int32) hf
def F_X7_takeOut_15 (Z : m_Z) (a0 : Nat) (j7 : (m_S → Option (Unit × m_S))) (lp10 : (Int32 × m_S) → Option (Unit × m_S)) (p32 : (Int32 × m_S)) : Option (Unit × m_S) := match p32 with
  | (v8, S9) => (if (S9.1 a0 5) ≤ (v8 + (1 : Int32)) then j7 S9 else m_b1 (S9.2.2 a0 6) (fun b15 => m_gd (m_ok Z b15 14) ((if (Int32.ofNat (Z.2.2 b15)) ≤ (v8 + (1 : Int32)) then j7 S9 else m_gd (m_in v8 (Z.2.2 b15)) (m_b1 (S9.2.2 b15 v8.toNatClampNeg) (fun b20 => m_lt (v8 + (1 : Int32)) (fun v22 => m_gd (m_in v22 (Z.2.2 b15)) (m_b1 (S9.2.2 b15 v22.toNatClampNeg) (fun b25 => m_gd (m_ok Z b20 0) (m_bw (f_X0_copyFrom Z S9 b20 b25) (fun _u S29 => m_lt (v8 + (1 : Int32)) (fun v30 => lp10 (v30, S29)))))))))))))
def f_X7_takeOut (Z : m_Z) (S : m_S) (a0 : Nat) (p1 : Int32) : Option (Unit × m_S) := (if p1 < 0 then some ((), S) else m_gd (m_ok Z a0 7) ((if p1 < (S.1 a0 5) then m_jp (fun (S4 : m_S) => m_lt (m_pI S4 a0 5 ((S4.1 a0 5) - (1 : Int32))) (fun S5 => some ((), S5))) (fun j7 => m_fx (F_X7_takeOut_15 Z a0 j7) 100000 (p1, S)) else some ((), S))))
abbrev rm_X7_takeOut : Room := { frames := 1, cells := 0, slots := 0, locals := 21 }
theorem hd_X7_takeOut : yX7_takeOut.cls = RX7 ∧ yX7_takeOut.cls ≠ "java/lang/invoke/MethodHandle" ∧ yX7_takeOut.cls ≠ "java/lang/invoke/VarHandle" ∧ (parseMethodDescriptor yX7_takeOut.desc).map (fun d => d.parameters.length) = some 1 := by decide +kernel
set_option maxHeartbeats 4000000 in
set_option maxRecDepth 100000 in
theorem c_X7_takeOut {l : Launch} (hl : l.stackTraces = false) {Z : m_Z} {S : m_S} {a0 : Nat} {p1 : Int32} {rZ9 : Unit} {SZ9 : m_S} (hf : f_X7_takeOut Z S a0 p1 = some (rZ9, SZ9)) : m_Ct l yX7_takeOut (.code yX7_takeOut cX7_takeOut 3 none :: m_ws) rm_X7_takeOut (fun f => [.ref a0, .int p1]) Z S (none) SZ9 := by
  unfold f_X7_takeOut at hf
  refine m_ent hl (by decide) (fun _ => Nat.le_of_ble_eq_true rfl) (fun x C F => ?_)
  have C : m_H x l RX7 cX7_takeOut 3 rm_X7_takeOut := C
  show m_G x Z S 3 0 0 0 [(0, .ref a0), (1, .int p1)] []
  refine r_iload_n (q := 1) C 1 dX7_takeOut_0 rfl rfl ?_
  refine r_if_lt (t := 12) (q := 4) C dX7_takeOut_1 (by decide) rfl (fun c1 => ?_) (fun c1 => ?_)
  · replace hf := m_if1 hf c1
    obtain ⟨rfl, rfl⟩ := m_so2 hf
    exact r_vret C F dX7_takeOut_12
  · replace hf := m_if0 hf c1
    refine r_iload_n (q := 5) C 1 dX7_takeOut_4 rfl rfl ?_
    refine r_aload_n (q := 6) C 0 dX7_takeOut_5 rfl rfl ?_
    obtain ⟨g2, hf⟩ := m_gd_of hf
    refine gf_X7_27 (q := 9) C dX7_takeOut_6 g2 rfl ?_
    refine r_icmp_lt (t := 13) (q := 12) C dX7_takeOut_9 (by decide) rfl (fun c3 => ?_) (fun c3 => ?_)
    · replace hf := m_if1 hf c3
      refine r_iload_n (q := 14) C 1 dX7_takeOut_13 rfl rfl ?_
      refine r_istore_n (q := 15) (L' := [(2, .int p1), (0, .ref a0), (1, .int p1)]) C dX7_takeOut_14 rfl rfl (by decide) rfl ?_
      obtain ⟨j7, ej7, hf⟩ := m_jp_of hf
      have J7 : ∀ (S4 : m_S), j7 S4 = some (rZ9, SZ9) → m_G x Z S4 3 0 0 59 [(0, .ref a0)] [] := by
        intro S4 hf
        rw [ej7] at hf
        refine r_aload_n (q := 60) C 0 dX7_takeOut_59 rfl rfl ?_
        refine r_dup (q := 61) C dX7_takeOut_60 rfl rfl ?_
        refine gf_X7_27 (q := 64) C dX7_takeOut_61 g2 rfl ?_
        refine r_iconst (q := 65) (v := (1 : Int32)) C dX7_takeOut_64 (by decide) rfl ?_
        refine r_isub (q := 66) C dX7_takeOut_65 rfl ?_
        obtain ⟨S5, e6, hf⟩ := m_lt_of hf
        refine pf_X7_27 (q := 69) C dX7_takeOut_66 g2 e6 rfl ?_
        obtain ⟨rfl, rfl⟩ := m_so2 hf
        exact r_vret C F dX7_takeOut_69
      have LL13 : ∀ (fu12 : Nat) (v8 : Int32) (S9 : m_S), m_fx (F_X7_takeOut_15 Z a0 j7) fu12 (v8, S9) = some (rZ9, SZ9) → m_G x Z S9 3 0 0 15 [(0, .ref a0), (2, .int v8)] [] := by
        intro fu12
        induction fu12 with
        | zero => intros; rename_i hf; cases hf
        | succ fu12 ih11 =>
          intro v8 S9 hf
          replace hf : F_X7_takeOut_15 Z a0 j7 (m_fx (F_X7_takeOut_15 Z a0 j7) fu12) (v8, S9) = some (rZ9, SZ9) := hf
          unfold F_X7_takeOut_15 at hf
          dsimp only at hf
          refine r_iload_n (q := 16) C 1 dX7_takeOut_15 rfl rfl ?_
          refine r_iconst (q := 17) (v := (1 : Int32)) C dX7_takeOut_16 (by decide) rfl ?_
          refine r_iadd (q := 18) C dX7_takeOut_17 rfl ?_
          refine r_aload_n (q := 19) C 0 dX7_takeOut_18 rfl rfl ?_
          refine gf_X7_27 (q := 22) C dX7_takeOut_19 g2 rfl ?_
          refine r_icmp_ge (t := 59) (q := 25) C dX7_takeOut_22 (by decide) rfl (fun c14 => ?_) (fun c14 => ?_)
          · replace hf := m_if1 hf c14
            refine r_sub [0] rfl ?_
            exact J7 S9 hf
          · replace hf := m_if0 hf c14
            refine r_iload_n (q := 26) C 1 dX7_takeOut_25 rfl rfl ?_
            refine r_iconst (q := 27) (v := (1 : Int32)) C dX7_takeOut_26 (by decide) rfl ?_
            refine r_iadd (q := 28) C dX7_takeOut_27 rfl ?_
            refine r_aload_n (q := 29) C 0 dX7_takeOut_28 rfl rfl ?_
            obtain ⟨b15, e16, hf⟩ := m_b1_of hf
            refine gf_X7_32 (q := 32) C dX7_takeOut_29 g2 e16 rfl ?_
            obtain ⟨g17, hf⟩ := m_gd_of hf
            refine r_alen (q := 33) 14 4 C dX7_takeOut_32 g17 (by decide) rfl rfl ?_
            refine r_icmp_ge (t := 59) (q := 36) C dX7_takeOut_33 (by decide) rfl (fun c18 => ?_) (fun c18 => ?_)
            · replace hf := m_if1 hf c18
              refine r_sub [0] rfl ?_
              exact J7 S9 hf
            · replace hf := m_if0 hf c18
              refine r_aload_n (q := 37) C 0 dX7_takeOut_36 rfl rfl ?_
              refine gf_X7_32 (q := 40) C dX7_takeOut_37 g2 e16 rfl ?_
              refine r_iload_n (q := 41) C 1 dX7_takeOut_40 rfl rfl ?_
              obtain ⟨g19, hf⟩ := m_gd_of hf
              obtain ⟨b20, e21, hf⟩ := m_b1_of hf
              refine r_aald14 (q := 42) C dX7_takeOut_41 ⟨g17, g19⟩ e21 rfl ?_
              refine r_aload_n (q := 43) C 0 dX7_takeOut_42 rfl rfl ?_
              refine gf_X7_32 (q := 46) C dX7_takeOut_43 g2 e16 rfl ?_
              refine r_iload_n (q := 47) C 1 dX7_takeOut_46 rfl rfl ?_
              refine r_iconst (q := 48) (v := (1 : Int32)) C dX7_takeOut_47 (by decide) rfl ?_
              refine r_iadd (q := 49) C dX7_takeOut_48 rfl ?_
              obtain ⟨v22, e23, hf⟩ := m_lt_of hf
              refine r_nm e23 ?_
              obtain ⟨g24, hf⟩ := m_gd_of hf
              obtain ⟨b25, e26, hf⟩ := m_b1_of hf
              refine r_aald14 (q := 50) C dX7_takeOut_49 ⟨g17, g24⟩ e26 rfl ?_
              obtain ⟨g27, hf⟩ := m_gd_of hf
              obtain ⟨_u, S29, h28, hf⟩ := m_bw_of hf
              refine r_callV (mc := 0) (ms := 0) (q := 53) (st1 := []) C (c_X0_copyFrom hl h28) rfl w_509 w_510 w_511 w_7 w_512 hd_X0_copyFrom rfl (by decide) g27 rfl rfl rfl ⟨(Nat.le_of_ble_eq_true rfl), (Nat.le_of_ble_eq_true rfl)⟩ (Nat.le_of_ble_eq_true rfl) ⟨(Nat.le_of_ble_eq_true rfl), (Nat.le_of_ble_eq_true rfl)⟩ dX7_takeOut_50 rfl rfl ?_
              obtain ⟨v30, e31, hf⟩ := m_lt_of hf
              refine r_iinc (q := 56) (v := v30) (L' := [(2, .int v30), (0, .ref a0)]) C 1 dX7_takeOut_53 rfl (by rw [e31]; rfl) rfl (by decide) rfl ?_
              refine r_goto (t := 15) C dX7_takeOut_56 (by decide) ?_
              refine r_sub [1, 0] rfl ?_
              exact ih11 v30 S29 hf
      refine r_sub [1, 0] rfl ?_
      exact LL13 100000 p1 S hf
    · replace hf := m_if0 hf c3
      obtain ⟨rfl, rfl⟩ := m_so2 hf
      exact r_vret C F dX7_takeOut_12
