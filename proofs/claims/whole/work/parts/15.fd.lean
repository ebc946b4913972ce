def f_X8_vitrineAt (Z : m_Z) (S : m_S) (a0 : Nat) (p1 : Int32) : Option (Except String Nat) := (if p1 < 0 then some (.error "java/lang/IndexOutOfBoundsException") else m_gd (m_ok Z a0 8) (m_b1 (S.2.2 a0 1) (fun b3 => m_gd (m_ok Z b3 5) ((if p1 < (S.1 b3 8) then m_b1 (S.2.2 a0 3) (fun b7 => m_gd (m_ok Z b7 6) (m_b1 (S.2.2 b7 3) (fun b10 => m_gd (m_ok Z b10 18) (m_gd (m_in p1 (Z.2.2 b10)) (m_b1 (S.2.2 b10 p1.toNatClampNeg) (fun b14 => some (.ok b14))))))) else some (.error "java/lang/IndexOutOfBoundsException"))))))
abbrev rm_X8_vitrineAt : Room := { frames := 6, cells := 1, slots := 6, locals := 82 }
theorem hd_X8_vitrineAt : yX8_vitrineAt.cls = RX8 ∧ yX8_vitrineAt.cls ≠ "java/lang/invoke/MethodHandle" ∧ yX8_vitrineAt.cls ≠ "java/lang/invoke/VarHandle" ∧ (parseMethodDescriptor yX8_vitrineAt.desc).map (fun d => d.parameters.length) = some 1 := by decide +kernel
set_option maxHeartbeats 4000000 in
set_option maxRecDepth 100000 in
theorem c_X8_vitrineAt {l : Launch} (hl : l.stackTraces = false) {Z : m_Z} {S : m_S} {a0 : Nat} {p1 : Int32} {rZ9 : Except String Nat} (hf : f_X8_vitrineAt Z S a0 p1 = some rZ9) : m_Cx l yX8_vitrineAt (.code yX8_vitrineAt cX8_vitrineAt 2 (some (.object "MuseumCases$Vitrine")) :: m_ws) rm_X8_vitrineAt 1 6 (fun f => [.ref a0, .int p1]) Z S (m_rv (fun r => some (.ref r)) rZ9) S := by
  unfold f_X8_vitrineAt at hf
  refine m_entX hl (by decide) (fun _ => Nat.le_of_ble_eq_true rfl) (fun x C F => ?_)
  have C : m_H x l RX8 cX8_vitrineAt 2 rm_X8_vitrineAt := C
  show m_G x Z S 2 0 0 0 [(0, .ref a0), (1, .int p1)] []
  refine r_iload_n (q := 1) C 1 dX8_vitrineAt_0 rfl rfl ?_
  refine r_if_lt (t := 15) (q := 4) C dX8_vitrineAt_1 (by decide) rfl (fun c1 => ?_) (fun c1 => ?_)
  · replace hf := m_if1 hf c1
    obtain rfl := m_so1 hf
    exact x_thrBW (text := "there is no such case") (ti := 17) C F w_285 w_16 (by decide +kernel) dX8_vitrineAt_15 dX8_vitrineAt_18 dX8_vitrineAt_19 dX8_vitrineAt_22 dX8_vitrineAt_25 (Nat.le_of_ble_eq_true rfl) (Nat.le_of_ble_eq_true rfl) (Nat.le_of_ble_eq_true rfl) (Nat.le_of_ble_eq_true rfl) (Nat.le_of_ble_eq_true rfl) (Nat.le_of_ble_eq_true rfl)
  · replace hf := m_if0 hf c1
    refine r_iload_n (q := 5) C 1 dX8_vitrineAt_4 rfl rfl ?_
    refine r_aload_n (q := 6) C 0 dX8_vitrineAt_5 rfl rfl ?_
    obtain ⟨g2, hf⟩ := m_gd_of hf
    obtain ⟨b3, e4, hf⟩ := m_b1_of hf
    refine gf_X8_19 (q := 9) C dX8_vitrineAt_6 g2 e4 rfl ?_
    obtain ⟨g5, hf⟩ := m_gd_of hf
    refine gf_X8_86 (q := 12) C dX8_vitrineAt_9 g5 rfl ?_
    refine r_icmp_lt (t := 26) (q := 15) C dX8_vitrineAt_12 (by decide) rfl (fun c6 => ?_) (fun c6 => ?_)
    · replace hf := m_if1 hf c6
      refine r_aload_n (q := 27) C 0 dX8_vitrineAt_26 rfl rfl ?_
      obtain ⟨b7, e8, hf⟩ := m_b1_of hf
      refine gf_X8_29 (q := 30) C dX8_vitrineAt_27 g2 e8 rfl ?_
      obtain ⟨g9, hf⟩ := m_gd_of hf
      obtain ⟨b10, e11, hf⟩ := m_b1_of hf
      refine gf_X8_362 (q := 33) C dX8_vitrineAt_30 g9 e11 rfl ?_
      refine r_iload_n (q := 34) C 1 dX8_vitrineAt_33 rfl rfl ?_
      obtain ⟨g12, hf⟩ := m_gd_of hf
      obtain ⟨g13, hf⟩ := m_gd_of hf
      obtain ⟨b14, e15, hf⟩ := m_b1_of hf
      refine r_aald18 (q := 35) C dX8_vitrineAt_34 ⟨g12, g13⟩ e15 rfl ?_
      obtain rfl := m_so1 hf
      exact x_aret C F (Nat.le_of_ble_eq_true rfl) (Nat.le_of_ble_eq_true rfl) dX8_vitrineAt_35
    · replace hf := m_if0 hf c6
      obtain rfl := m_so1 hf
      exact x_thrBW (text := "there is no such case") (ti := 17) C F w_285 w_16 (by decide +kernel) dX8_vitrineAt_15 dX8_vitrineAt_18 dX8_vitrineAt_19 dX8_vitrineAt_22 dX8_vitrineAt_25 (Nat.le_of_ble_eq_true rfl) (Nat.le_of_ble_eq_true rfl) (Nat.le_of_ble_eq_true rfl) (Nat.le_of_ble_eq_true rfl) (Nat.le_of_ble_eq_true rfl) (Nat.le_of_ble_eq_true rfl)
def f_X8_kindAt (Z : m_Z) (S : m_S) (a0 : Nat) (p1 : Int32) : Option (Except String Nat) := (if p1 < 0 then some (.error "java/lang/IndexOutOfBoundsException") else m_gd (m_ok Z a0 8) (m_b1 (S.2.2 a0 1) (fun b3 => m_gd (m_ok Z b3 5) ((if p1 < (S.1 b3 6) then m_b1 (S.2.2 b3 7) (fun b7 => m_gd (m_ok Z b7 15) (m_gd (m_in p1 (Z.2.2 b7)) (m_b1 (S.2.2 b7 p1.toNatClampNeg) (fun b11 => some (.ok b11))))) else some (.error "java/lang/IndexOutOfBoundsException"))))))
abbrev rm_X8_kindAt : Room := { frames := 6, cells := 1, slots := 6, locals := 82 }
theorem hd_X8_kindAt : yX8_kindAt.cls = RX8 ∧ yX8_kindAt.cls ≠ "java/lang/invoke/MethodHandle" ∧ yX8_kindAt.cls ≠ "java/lang/invoke/VarHandle" ∧ (parseMethodDescriptor yX8_kindAt.desc).map (fun d => d.parameters.length) = some 1 := by decide +kernel
set_option maxHeartbeats 4000000 in
set_option maxRecDepth 100000 in
theorem c_X8_kindAt {l : Launch} (hl : l.stackTraces = false) {Z : m_Z} {S : m_S} {a0 : Nat} {p1 : Int32} {rZ9 : Except String Nat} (hf : f_X8_kindAt Z S a0 p1 = some rZ9) : m_Cx l yX8_kindAt (.code yX8_kindAt cX8_kindAt 2 (some (.object "MuseumCases$Kind")) :: m_ws) rm_X8_kindAt 1 6 (fun f => [.ref a0, .int p1]) Z S (m_rv (fun r => some (.ref r)) rZ9) S := by
  unfold f_X8_kindAt at hf
  refine m_entX hl (by decide) (fun _ => Nat.le_of_ble_eq_true rfl) (fun x C F => ?_)
  have C : m_H x l RX8 cX8_kindAt 2 rm_X8_kindAt := C
  show m_G x Z S 2 0 0 0 [(0, .ref a0), (1, .int p1)] []
  refine r_iload_n (q := 1) C 1 dX8_kindAt_0 rfl rfl ?_
  refine r_if_lt (t := 15) (q := 4) C dX8_kindAt_1 (by decide) rfl (fun c1 => ?_) (fun c1 => ?_)
  · replace hf := m_if1 hf c1
    obtain rfl := m_so1 hf
    exact x_thrBW (text := "there is no such kind") (ti := 14) C F w_285 w_16 (by decide +kernel) dX8_kindAt_15 dX8_kindAt_18 dX8_kindAt_19 dX8_kindAt_22 dX8_kindAt_25 (Nat.le_of_ble_eq_true rfl) (Nat.le_of_ble_eq_true rfl) (Nat.le_of_ble_eq_true rfl) (Nat.le_of_ble_eq_true rfl) (Nat.le_of_ble_eq_true rfl) (Nat.le_of_ble_eq_true rfl)
  · replace hf := m_if0 hf c1
    refine r_iload_n (q := 5) C 1 dX8_kindAt_4 rfl rfl ?_
    refine r_aload_n (q := 6) C 0 dX8_kindAt_5 rfl rfl ?_
    obtain ⟨g2, hf⟩ := m_gd_of hf
    obtain ⟨b3, e4, hf⟩ := m_b1_of hf
    refine gf_X8_19 (q := 9) C dX8_kindAt_6 g2 e4 rfl ?_
    obtain ⟨g5, hf⟩ := m_gd_of hf
    refine gf_X8_108 (q := 12) C dX8_kindAt_9 g5 rfl ?_
    refine r_icmp_lt (t := 26) (q := 15) C dX8_kindAt_12 (by decide) rfl (fun c6 => ?_) (fun c6 => ?_)
    · replace hf := m_if1 hf c6
      refine r_aload_n (q := 27) C 0 dX8_kindAt_26 rfl rfl ?_
      refine gf_X8_19 (q := 30) C dX8_kindAt_27 g2 e4 rfl ?_
      obtain ⟨b7, e8, hf⟩ := m_b1_of hf
      refine gf_X8_372 (q := 33) C dX8_kindAt_30 g5 e8 rfl ?_
      refine r_iload_n (q := 34) C 1 dX8_kindAt_33 rfl rfl ?_
      obtain ⟨g9, hf⟩ := m_gd_of hf
      obtain ⟨g10, hf⟩ := m_gd_of hf
      obtain ⟨b11, e12, hf⟩ := m_b1_of hf
      refine r_aald15 (q := 35) C dX8_kindAt_34 ⟨g9, g10⟩ e12 rfl ?_
      obtain rfl := m_so1 hf
      exact x_aret C F (Nat.le_of_ble_eq_true rfl) (Nat.le_of_ble_eq_true rfl) dX8_kindAt_35
    · replace hf := m_if0 hf c6
      obtain rfl := m_so1 hf
      exact x_thrBW (text := "there is no such kind") (ti := 14) C F w_285 w_16 (by decide +kernel) dX8_kindAt_15 dX8_kindAt_18 dX8_kindAt_19 dX8_kindAt_22 dX8_kindAt_25 (Nat.le_of_ble_eq_true rfl) (Nat.le_of_ble_eq_true rfl) (Nat.le_of_ble_eq_true rfl) (Nat.le_of_ble_eq_true rfl) (Nat.le_of_ble_eq_true rfl) (Nat.le_of_ble_eq_true rfl)
def f_X8_requireHumidity (Z : m_Z) (S : m_S) (a0 : Nat) (p1 : Int32) : Option (Except String Unit) := (if p1 < 0 then some (.error "java/lang/IllegalArgumentException") else (if p1 ≤ (1000 : Int32) then some (.ok ()) else some (.error "java/lang/IllegalArgumentException")))
abbrev rm_X8_requireHumidity : Room := { frames := 6, cells := 1, slots := 6, locals := 82 }
theorem hd_X8_requireHumidity : yX8_requireHumidity.cls = RX8 ∧ yX8_requireHumidity.cls ≠ "java/lang/invoke/MethodHandle" ∧ yX8_requireHumidity.cls ≠ "java/lang/invoke/VarHandle" ∧ (parseMethodDescriptor yX8_requireHumidity.desc).map (fun d => d.parameters.length) = some 1 := by decide +kernel
set_option maxHeartbeats 4000000 in
set_option maxRecDepth 100000 in
theorem c_X8_requireHumidity {l : Launch} (hl : l.stackTraces = false) {Z : m_Z} {S : m_S} {a0 : Nat} {p1 : Int32} {rZ9 : Except String Unit} (hf : f_X8_requireHumidity Z S a0 p1 = some rZ9) : m_Cx l yX8_requireHumidity (.code yX8_requireHumidity cX8_requireHumidity 2 none :: m_ws) rm_X8_requireHumidity 1 6 (fun f => [.ref a0, .int p1]) Z S (m_rv (fun _ => none) rZ9) S := by
  unfold f_X8_requireHumidity at hf
  refine m_entX hl (by decide) (fun _ => Nat.le_of_ble_eq_true rfl) (fun x C F => ?_)
  have C : m_H x l RX8 cX8_requireHumidity 2 rm_X8_requireHumidity := C
  show m_G x Z S 2 0 0 0 [(0, .ref a0), (1, .int p1)] []
  refine r_iload_n (q := 1) C 1 dX8_requireHumidity_0 rfl rfl ?_
  refine r_if_lt (t := 11) (q := 4) C dX8_requireHumidity_1 (by decide) rfl (fun c1 => ?_) (fun c1 => ?_)
  · replace hf := m_if1 hf c1
    obtain rfl := m_so1 hf
    exact x_thrAW (text := "a humidity is 0 to 1000") (ti := 25) C F w_553 w_21 (by decide +kernel) dX8_requireHumidity_11 dX8_requireHumidity_14 dX8_requireHumidity_15 dX8_requireHumidity_18 dX8_requireHumidity_21 (Nat.le_of_ble_eq_true rfl) (Nat.le_of_ble_eq_true rfl) (Nat.le_of_ble_eq_true rfl) (Nat.le_of_ble_eq_true rfl) (Nat.le_of_ble_eq_true rfl) (Nat.le_of_ble_eq_true rfl)
  · replace hf := m_if0 hf c1
    refine r_iload_n (q := 5) C 1 dX8_requireHumidity_4 rfl rfl ?_
    refine r_sipush (q := 8) (v := (1000 : Int32)) C dX8_requireHumidity_5 (by decide) rfl ?_
    refine r_icmp_le (t := 22) (q := 11) C dX8_requireHumidity_8 (by decide) rfl (fun c2 => ?_) (fun c2 => ?_)
    · replace hf := m_if1 hf c2
      obtain rfl := m_so1 hf
      exact x_vret C F (Nat.le_of_ble_eq_true rfl) (Nat.le_of_ble_eq_true rfl) dX8_requireHumidity_22
    · replace hf := m_if0 hf c2
      obtain rfl := m_so1 hf
      exact x_thrAW (text := "a humidity is 0 to 1000") (ti := 25) C F w_553 w_21 (by decide +kernel) dX8_requireHumidity_11 dX8_requireHumidity_14 dX8_requireHumidity_15 dX8_requireHumidity_18 dX8_requireHumidity_21 (Nat.le_of_ble_eq_true rfl) (Nat.le_of_ble_eq_true rfl) (Nat.le_of_ble_eq_true rfl) (Nat.le_of_ble_eq_true rfl) (Nat.le_of_ble_eq_true rfl) (Nat.le_of_ble_eq_true rfl)
def f_X8_logbookAt (Z : m_Z) (S : m_S) (a0 : Nat) (p1 : Int32) : Option (Except String Nat) := (if p1 < 0 then some (.error "java/lang/IndexOutOfBoundsException") else m_gd (m_ok Z a0 8) (m_b1 (S.2.2 a0 1) (fun b3 => m_gd (m_ok Z b3 5) ((if p1 < (S.1 b3 8) then m_b1 (S.2.2 a0 3) (fun b7 => m_gd (m_ok Z b7 6) (m_b1 (S.2.2 b7 4) (fun b10 => m_gd (m_ok Z b10 16) (m_gd (m_in p1 (Z.2.2 b10)) (m_b1 (S.2.2 b10 p1.toNatClampNeg) (fun b14 => some (.ok b14))))))) else some (.error "java/lang/IndexOutOfBoundsException"))))))
abbrev rm_X8_logbookAt : Room := { frames := 6, cells := 1, slots := 6, locals := 82 }
theorem hd_X8_logbookAt : yX8_logbookAt.cls = RX8 ∧ yX8_logbookAt.cls ≠ "java/lang/invoke/MethodHandle" ∧ yX8_logbookAt.cls ≠ "java/lang/invoke/VarHandle" ∧ (parseMethodDescriptor yX8_logbookAt.desc).map (fun d => d.parameters.length) = some 1 := by decide +kernel
set_option maxHeartbeats 4000000 in
set_option maxRecDepth 100000 in
theorem c_X8_logbookAt {l : Launch} (hl : l.stackTraces = false) {Z : m_Z} {S : m_S} {a0 : Nat} {p1 : Int32} {rZ9 : Except String Nat} (hf : f_X8_logbookAt Z S a0 p1 = some rZ9) : m_Cx l yX8_logbookAt (.code yX8_logbookAt cX8_logbookAt 2 (some (.object "MuseumCases$Logbook")) :: m_ws) rm_X8_logbookAt 1 6 (fun f => [.ref a0, .int p1]) Z S (m_rv (fun r => some (.ref r)) rZ9) S := by
  unfold f_X8_logbookAt at hf
  refine m_entX hl (by decide) (fun _ => Nat.le_of_ble_eq_true rfl) (fun x C F => ?_)
  have C : m_H x l RX8 cX8_logbookAt 2 rm_X8_logbookAt := C
  show m_G x Z S 2 0 0 0 [(0, .ref a0), (1, .int p1)] []
  refine r_iload_n (q := 1) C 1 dX8_logbookAt_0 rfl rfl ?_
  refine r_if_lt (t := 15) (q := 4) C dX8_logbookAt_1 (by decide) rfl (fun c1 => ?_) (fun c1 => ?_)
  · replace hf := m_if1 hf c1
    obtain rfl := m_so1 hf
    exact x_thrBW (text := "there is no such case") (ti := 17) C F w_285 w_16 (by decide +kernel) dX8_logbookAt_15 dX8_logbookAt_18 dX8_logbookAt_19 dX8_logbookAt_22 dX8_logbookAt_25 (Nat.le_of_ble_eq_true rfl) (Nat.le_of_ble_eq_true rfl) (Nat.le_of_ble_eq_true rfl) (Nat.le_of_ble_eq_true rfl) (Nat.le_of_ble_eq_true rfl) (Nat.le_of_ble_eq_true rfl)
  · replace hf := m_if0 hf c1
    refine r_iload_n (q := 5) C 1 dX8_logbookAt_4 rfl rfl ?_
    refine r_aload_n (q := 6) C 0 dX8_logbookAt_5 rfl rfl ?_
    obtain ⟨g2, hf⟩ := m_gd_of hf
    obtain ⟨b3, e4, hf⟩ := m_b1_of hf
    refine gf_X8_19 (q := 9) C dX8_logbookAt_6 g2 e4 rfl ?_
    obtain ⟨g5, hf⟩ := m_gd_of hf
    refine gf_X8_86 (q := 12) C dX8_logbookAt_9 g5 rfl ?_
    refine r_icmp_lt (t := 26) (q := 15) C dX8_logbookAt_12 (by decide) rfl (fun c6 => ?_) (fun c6 => ?_)
    · replace hf := m_if1 hf c6
      refine r_aload_n (q := 27) C 0 dX8_logbookAt_26 rfl rfl ?_
      obtain ⟨b7, e8, hf⟩ := m_b1_of hf
      refine gf_X8_29 (q := 30) C dX8_logbookAt_27 g2 e8 rfl ?_
      obtain ⟨g9, hf⟩ := m_gd_of hf
      obtain ⟨b10, e11, hf⟩ := m_b1_of hf
      refine gf_X8_366 (q := 33) C dX8_logbookAt_30 g9 e11 rfl ?_
      refine r_iload_n (q := 34) C 1 dX8_logbookAt_33 rfl rfl ?_
      obtain ⟨g12, hf⟩ := m_gd_of hf
      obtain ⟨g13, hf⟩ := m_gd_of hf
      obtain ⟨b14, e15, hf⟩ := m_b1_of hf
      refine r_aald16 (q := 35) C dX8_logbookAt_34 ⟨g12, g13⟩ e15 rfl ?_
      obtain rfl := m_so1 hf
      exact x_aret C F (Nat.le_of_ble_eq_true rfl) (Nat.le_of_ble_eq_true rfl) dX8_logbookAt_35
    · replace hf := m_if0 hf c6
      obtain rfl := m_so1 hf
      exact x_thrBW (text := "there is no such case") (ti := 17) C F w_285 w_16 (by decide +kernel) dX8_logbookAt_15 dX8_logbookAt_18 dX8_logbookAt_19 dX8_logbookAt_22 dX8_logbookAt_25 (Nat.le_of_ble_eq_true rfl) (Nat.le_of_ble_eq_true rfl) (Nat.le_of_ble_eq_true rfl) (Nat.le_of_ble_eq_true rfl) (Nat.le_of_ble_eq_true rfl) (Nat.le_of_ble_eq_true rfl)
def f_X8_add (Z : m_Z) (S : m_S) (a0 : Nat) (p1 : Int32) (p2 : Int32) (p3 : Int32) (p4 : Int32) : Option ((Except String Int32) × m_S) := m_gd (m_ok Z a0 8) (m_btw (f_X8_vitrineAt Z S a0 p1) S (fun b3 => m_btw (f_X8_kindAt Z S a0 p2) S (fun b6 => (if p3 < (1 : Int32) then some (.error "java/lang/IllegalArgumentException", S) else (if p3 ≤ (999 : Int32) then m_btw (f_X8_requireHumidity Z S a0 p4) S (fun _u => m_gd (m_ok Z b3 7) (m_b1 (f_X7_isFull Z S b3) (fun v14 => (if v14 = 0 then m_gd (m_ok Z b6 1) (m_b1 (f_X1_moistureAt Z S b6 p4 p3) (fun v18 => m_b1 (S.2.2 a0 3) (fun b19 => m_gd (m_ok Z b19 6) (m_bw (f_X7_put Z S b3 (S.1 b19 1) b6 p3 v18) (fun _u S23 => m_btw (f_X8_logbookAt Z S23 a0 p1) S23 (fun b25 => m_gd (m_ok Z b25 2) (m_lt (m_pJ S23 b25 2 ((S23.2.1 b25 2) + v18.toInt64)) (fun S28 => m_b1 (S28.2.2 a0 3) (fun b30 => m_gd (m_ok Z b30 6) (m_bw (f_X6_takeSerial Z S28 b30) (fun v35 S34 => some ((.ok v35), S34)))))))))))) else some (.error "java/lang/IllegalStateException", S))))) else some (.error "java/lang/IllegalArgumentException", S))))))
abbrev rm_X8_add : Room := { frames := 7, cells := 4, slots := 24, locals := 103 }
theorem hd_X8_add : yX8_add.cls = RX8 ∧ yX8_add.cls ≠ "java/lang/invoke/MethodHandle" ∧ yX8_add.cls ≠ "java/lang/invoke/VarHandle" ∧ (parseMethodDescriptor yX8_add.desc).map (fun d => d.parameters.length) = some 4 := by decide +kernel
set_option maxHeartbeats 4000000 in
set_option maxRecDepth 100000 in
theorem c_X8_add {l : Launch} (hl : l.stackTraces = false) {Z : m_Z} {S : m_S} {a0 : Nat} {p1 : Int32} {p2 : Int32} {p3 : Int32} {p4 : Int32} {rZ9 : Except String Int32} {SZ9 : m_S} (hf : f_X8_add Z S a0 p1 p2 p3 p4 = some (rZ9, SZ9)) : m_Cx l yX8_add (.code yX8_add cX8_add 8 (some .int) :: m_ws) rm_X8_add 4 24 (fun f => [.ref a0, .int p1, .int p2, .int p3, .int p4]) Z S (m_rv (fun r => some (.int r)) rZ9) SZ9 := by
  unfold f_X8_add at hf
  refine m_entX hl (by decide) (fun _ => Nat.le_of_ble_eq_true rfl) (fun x C F => ?_)
  have C : m_H x l RX8 cX8_add 8 rm_X8_add := C
  show m_G x Z S 8 0 0 0 [(0, .ref a0), (1, .int p1), (2, .int p2), (3, .int p3), (4, .int p4)] []
  refine r_aload_n (q := 1) C 0 dX8_add_0 rfl rfl ?_
  refine r_iload_n (q := 2) C 1 dX8_add_1 rfl rfl ?_
  obtain ⟨g1, hf⟩ := m_gd_of hf
  rcases m_btw_of hf with ⟨b3, h2, hf⟩ | ⟨x4, h2, hf⟩
  · refine x_okV (q := 5) (mcQ := 4) (msQ := 24) (retQ := (some .int)) (st1 := [.ref b3]) C (c_X8_vitrineAt hl h2) rfl w_599 w_600 w_1315 w_2 w_601 hd_X8_vitrineAt rfl (by decide) g1 rfl rfl rfl ⟨(Nat.le_of_ble_eq_true rfl), (Nat.le_of_ble_eq_true rfl)⟩ (Nat.le_of_ble_eq_true rfl) ⟨(Nat.le_of_ble_eq_true rfl), (Nat.le_of_ble_eq_true rfl)⟩ dX8_add_2 rfl (Nat.le_of_ble_eq_true rfl) (Nat.le_of_ble_eq_true rfl) rfl ?_
    refine r_astore (q := 7) (L' := [(5, .ref b3), (0, .ref a0), (1, .int p1), (2, .int p2), (3, .int p3), (4, .int p4)]) C dX8_add_5 rfl (by decide) rfl ?_
    refine r_aload_n (q := 8) C 1 dX8_add_7 rfl rfl ?_
    refine r_iload_n (q := 9) C 3 dX8_add_8 rfl rfl ?_
    rcases m_btw_of hf with ⟨b6, h5, hf⟩ | ⟨x7, h5, hf⟩
    · refine x_okV (q := 12) (mcQ := 4) (msQ := 24) (retQ := (some .int)) (st1 := [.ref b6]) C (c_X8_kindAt hl h5) rfl w_581 w_582 w_1314 w_2 w_583 hd_X8_kindAt rfl (by decide) g1 rfl rfl rfl ⟨(Nat.le_of_ble_eq_true rfl), (Nat.le_of_ble_eq_true rfl)⟩ (Nat.le_of_ble_eq_true rfl) ⟨(Nat.le_of_ble_eq_true rfl), (Nat.le_of_ble_eq_true rfl)⟩ dX8_add_9 rfl (Nat.le_of_ble_eq_true rfl) (Nat.le_of_ble_eq_true rfl) rfl ?_
      refine r_astore (q := 14) (L' := [(6, .ref b6), (5, .ref b3), (0, .ref a0), (1, .int p1), (2, .int p2), (3, .int p3), (4, .int p4)]) C dX8_add_12 rfl (by decide) rfl ?_
      refine r_iload_n (q := 15) C 5 dX8_add_14 rfl rfl ?_
      refine r_iconst (q := 16) (v := (1 : Int32)) C dX8_add_15 (by decide) rfl ?_
      refine r_icmp_lt (t := 26) (q := 19) C dX8_add_16 (by decide) rfl (fun c8 => ?_) (fun c8 => ?_)
      · replace hf := m_if1 hf c8
        obtain ⟨rfl, rfl⟩ := m_so2 hf
        exact x_thrAW (text := "a mass is 1 to 999") (ti := 29) C F w_553 w_21 (by decide +kernel) dX8_add_26 dX8_add_29 dX8_add_30 dX8_add_33 dX8_add_36 (Nat.le_of_ble_eq_true rfl) (Nat.le_of_ble_eq_true rfl) (Nat.le_of_ble_eq_true rfl) (Nat.le_of_ble_eq_true rfl) (Nat.le_of_ble_eq_true rfl) (Nat.le_of_ble_eq_true rfl)
      · replace hf := m_if0 hf c8
        refine r_iload_n (q := 20) C 5 dX8_add_19 rfl rfl ?_
        refine r_sipush (q := 23) (v := (999 : Int32)) C dX8_add_20 (by decide) rfl ?_
        refine r_icmp_le (t := 37) (q := 26) C dX8_add_23 (by decide) rfl (fun c9 => ?_) (fun c9 => ?_)
        · replace hf := m_if1 hf c9
          refine r_aload_n (q := 38) C 2 dX8_add_37 rfl rfl ?_
          refine r_iload (q := 40) C 6 dX8_add_38 rfl rfl ?_
          rcases m_btw_of hf with ⟨_u, h10, hf⟩ | ⟨x11, h10, hf⟩
          · refine x_okV (q := 43) (mcQ := 4) (msQ := 24) (retQ := (some .int)) (st1 := []) C (c_X8_requireHumidity hl h10) rfl w_685 w_686 w_1318 w_2 w_687 hd_X8_requireHumidity rfl (by decide) g1 rfl rfl rfl ⟨(Nat.le_of_ble_eq_true rfl), (Nat.le_of_ble_eq_true rfl)⟩ (Nat.le_of_ble_eq_true rfl) ⟨(Nat.le_of_ble_eq_true rfl), (Nat.le_of_ble_eq_true rfl)⟩ dX8_add_40 rfl (Nat.le_of_ble_eq_true rfl) (Nat.le_of_ble_eq_true rfl) rfl ?_
            refine r_aload (q := 45) C 1 dX8_add_43 rfl rfl ?_
            obtain ⟨g12, hf⟩ := m_gd_of hf
            obtain ⟨v14, h13, hf⟩ := m_b1_of hf
            refine r_callV (mc := 0) (ms := 0) (q := 48) (st1 := [.int v14]) C (c_X7_isFull hl h13) rfl w_738 w_475 w_476 w_6 w_477 hd_X7_isFull rfl (by decide) g12 rfl rfl rfl ⟨(Nat.le_of_ble_eq_true rfl), (Nat.le_of_ble_eq_true rfl)⟩ (Nat.le_of_ble_eq_true rfl) ⟨(Nat.le_of_ble_eq_true rfl), (Nat.le_of_ble_eq_true rfl)⟩ dX8_add_45 rfl rfl ?_
            refine r_if_eq (t := 62) (q := 51) C dX8_add_48 (by decide) rfl (fun c15 => ?_) (fun c15 => ?_)
            · replace hf := m_if1 hf c15
              refine r_aload (q := 64) C 0 dX8_add_62 rfl rfl ?_
              refine r_iload (q := 66) C 6 dX8_add_64 rfl rfl ?_
              refine r_iload_n (q := 67) C 5 dX8_add_66 rfl rfl ?_
              obtain ⟨g16, hf⟩ := m_gd_of hf
              obtain ⟨v18, h17, hf⟩ := m_b1_of hf
              refine r_callV (mc := 0) (ms := 0) (q := 70) (st1 := [.int v18]) C (c_X1_moistureAt hl h17) rfl w_739 w_479 w_480 w_5 w_481 hd_X1_moistureAt rfl (by decide) g16 rfl rfl rfl ⟨(Nat.le_of_ble_eq_true rfl), (Nat.le_of_ble_eq_true rfl)⟩ (Nat.le_of_ble_eq_true rfl) ⟨(Nat.le_of_ble_eq_true rfl), (Nat.le_of_ble_eq_true rfl)⟩ dX8_add_67 rfl rfl ?_
              refine r_istore (q := 72) (L' := [(7, .int v18), (6, .ref b6), (5, .ref b3), (0, .ref a0), (1, .int p1), (2, .int p2), (3, .int p3), (4, .int p4)]) C dX8_add_70 rfl (by decide) rfl ?_
              refine r_aload (q := 74) C 2 dX8_add_72 rfl rfl ?_
              refine r_aload_n (q := 75) C 3 dX8_add_74 rfl rfl ?_
              obtain ⟨b19, e20, hf⟩ := m_b1_of hf
              refine gf_X8_29 (q := 78) C dX8_add_75 g1 e20 rfl ?_
              obtain ⟨g21, hf⟩ := m_gd_of hf
              refine gf_X8_114 (q := 81) C dX8_add_78 g21 rfl ?_
              refine r_aload (q := 83) C 1 dX8_add_81 rfl rfl ?_
              refine r_iload_n (q := 84) C 6 dX8_add_83 rfl rfl ?_
              refine r_iload (q := 86) C 0 dX8_add_84 rfl rfl ?_
              obtain ⟨_u, S23, h22, hf⟩ := m_bw_of hf
              refine r_callV (mc := 0) (ms := 0) (q := 89) (st1 := []) C (c_X7_put hl h22) rfl w_740 w_490 w_491 w_6 w_492 hd_X7_put rfl (by decide) g12 rfl rfl rfl ⟨(Nat.le_of_ble_eq_true rfl), (Nat.le_of_ble_eq_true rfl)⟩ (Nat.le_of_ble_eq_true rfl) ⟨(Nat.le_of_ble_eq_true rfl), (Nat.le_of_ble_eq_true rfl)⟩ dX8_add_86 rfl rfl ?_
              refine r_aload_n (q := 90) C 3 dX8_add_89 rfl rfl ?_
              refine r_iload_n (q := 91) C 4 dX8_add_90 rfl rfl ?_
              rcases m_btw_of hf with ⟨b25, h24, hf⟩ | ⟨x26, h24, hf⟩
              · refine x_okV (q := 94) (mcQ := 4) (msQ := 24) (retQ := (some .int)) (st1 := [.ref b25]) C (c_X8_logbookAt hl h24) rfl w_602 w_603 w_1316 w_2 w_604 hd_X8_logbookAt rfl (by decide) g1 rfl rfl rfl ⟨(Nat.le_of_ble_eq_true rfl), (Nat.le_of_ble_eq_true rfl)⟩ (Nat.le_of_ble_eq_true rfl) ⟨(Nat.le_of_ble_eq_true rfl), (Nat.le_of_ble_eq_true rfl)⟩ dX8_add_91 rfl (Nat.le_of_ble_eq_true rfl) (Nat.le_of_ble_eq_true rfl) rfl ?_
                refine r_dup (q := 95) C dX8_add_94 rfl rfl ?_
                obtain ⟨g27, hf⟩ := m_gd_of hf
                refine gf_X8_207 (q := 98) C dX8_add_95 g27 rfl ?_
                refine r_iload (q := 100) C 0 dX8_add_98 rfl rfl ?_
                refine r_i2l (q := 101) C dX8_add_100 rfl ?_
                refine r_ladd (q := 102) C dX8_add_101 rfl ?_
                obtain ⟨S28, e29, hf⟩ := m_lt_of hf
                refine pf_X8_207 (q := 105) C dX8_add_102 g27 e29 rfl ?_
                refine r_aload_n (q := 106) C 3 dX8_add_105 rfl rfl ?_
                obtain ⟨b30, e31, hf⟩ := m_b1_of hf
                refine gf_X8_29 (q := 109) C dX8_add_106 g1 e31 rfl ?_
                obtain ⟨g32, hf⟩ := m_gd_of hf
                obtain ⟨v35, S34, h33, hf⟩ := m_bw_of hf
                refine r_callV (mc := 0) (ms := 0) (q := 112) (st1 := [.int v35]) C (c_X6_takeSerial hl h33) rfl w_741 w_742 w_743 w_8 w_744 hd_X6_takeSerial rfl (by decide) g32 rfl rfl rfl ⟨(Nat.le_of_ble_eq_true rfl), (Nat.le_of_ble_eq_true rfl)⟩ (Nat.le_of_ble_eq_true rfl) ⟨(Nat.le_of_ble_eq_true rfl), (Nat.le_of_ble_eq_true rfl)⟩ dX8_add_109 rfl rfl ?_
                obtain ⟨rfl, rfl⟩ := m_so2 hf
                exact x_iret C F (Nat.le_of_ble_eq_true rfl) (Nat.le_of_ble_eq_true rfl) dX8_add_112
              · obtain ⟨rfl, rfl⟩ := Prod.mk.inj hf
                exact x_erV C (c_X8_logbookAt hl h24) F rfl w_602 w_603 w_1316 w_2 w_604 hd_X8_logbookAt rfl (by decide) g1 rfl rfl rfl ⟨(Nat.le_of_ble_eq_true rfl), (Nat.le_of_ble_eq_true rfl)⟩ (Nat.le_of_ble_eq_true rfl) ⟨(Nat.le_of_ble_eq_true rfl), (Nat.le_of_ble_eq_true rfl)⟩ dX8_add_91 rfl (Nat.le_of_ble_eq_true rfl) (Nat.le_of_ble_eq_true rfl)
            · replace hf := m_if0 hf c15
              obtain ⟨rfl, rfl⟩ := m_so2 hf
              exact x_thrIW (text := "the case has 5 cassettes") (ti := 30) C F w_226 w_15 (by decide +kernel) dX8_add_51 dX8_add_54 dX8_add_55 dX8_add_58 dX8_add_61 (Nat.le_of_ble_eq_true rfl) (Nat.le_of_ble_eq_true rfl) (Nat.le_of_ble_eq_true rfl) (Nat.le_of_ble_eq_true rfl) (Nat.le_of_ble_eq_true rfl) (Nat.le_of_ble_eq_true rfl)
          · obtain ⟨rfl, rfl⟩ := Prod.mk.inj hf
            exact x_erV C (c_X8_requireHumidity hl h10) F rfl w_685 w_686 w_1318 w_2 w_687 hd_X8_requireHumidity rfl (by decide) g1 rfl rfl rfl ⟨(Nat.le_of_ble_eq_true rfl), (Nat.le_of_ble_eq_true rfl)⟩ (Nat.le_of_ble_eq_true rfl) ⟨(Nat.le_of_ble_eq_true rfl), (Nat.le_of_ble_eq_true rfl)⟩ dX8_add_40 rfl (Nat.le_of_ble_eq_true rfl) (Nat.le_of_ble_eq_true rfl)
        · replace hf := m_if0 hf c9
          obtain ⟨rfl, rfl⟩ := m_so2 hf
          exact x_thrAW (text := "a mass is 1 to 999") (ti := 29) C F w_553 w_21 (by decide +kernel) dX8_add_26 dX8_add_29 dX8_add_30 dX8_add_33 dX8_add_36 (Nat.le_of_ble_eq_true rfl) (Nat.le_of_ble_eq_true rfl) (Nat.le_of_ble_eq_true rfl) (Nat.le_of_ble_eq_true rfl) (Nat.le_of_ble_eq_true rfl) (Nat.le_of_ble_eq_true rfl)
    · obtain ⟨rfl, rfl⟩ := Prod.mk.inj hf
      exact x_erV C (c_X8_kindAt hl h5) F rfl w_581 w_582 w_1314 w_2 w_583 hd_X8_kindAt rfl (by decide) g1 rfl rfl rfl ⟨(Nat.le_of_ble_eq_true rfl), (Nat.le_of_ble_eq_true rfl)⟩ (Nat.le_of_ble_eq_true rfl) ⟨(Nat.le_of_ble_eq_true rfl), (Nat.le_of_ble_eq_true rfl)⟩ dX8_add_9 rfl (Nat.le_of_ble_eq_true rfl) (Nat.le_of_ble_eq_true rfl)
  · obtain ⟨rfl, rfl⟩ := Prod.mk.inj hf
    exact x_erV C (c_X8_vitrineAt hl h2) F rfl w_599 w_600 w_1315 w_2 w_601 hd_X8_vitrineAt rfl (by decide) g1 rfl rfl rfl ⟨(Nat.le_of_ble_eq_true rfl), (Nat.le_of_ble_eq_true rfl)⟩ (Nat.le_of_ble_eq_true rfl) ⟨(Nat.le_of_ble_eq_true rfl), (Nat.le_of_ble_eq_true rfl)⟩ dX8_add_2 rfl (Nat.le_of_ble_eq_true rfl) (Nat.le_of_ble_eq_true rfl)
def f_X8_requireHours (Z : m_Z) (S : m_S) (a0 : Nat) (p1 : Int32) (p2 : Int32) (p3 : Int32) : Option (Except String Unit) := (if p1 < p2 then some (.error "java/lang/IllegalArgumentException") else (if p1 ≤ p3 then some (.ok ()) else some (.error "java/lang/IllegalArgumentException")))
abbrev rm_X8_requireHours : Room := { frames := 6, cells := 1, slots := 6, locals := 82 }
theorem hd_X8_requireHours : yX8_requireHours.cls = RX8 ∧ yX8_requireHours.cls ≠ "java/lang/invoke/MethodHandle" ∧ yX8_requireHours.cls ≠ "java/lang/invoke/VarHandle" ∧ (parseMethodDescriptor yX8_requireHours.desc).map (fun d => d.parameters.length) = some 3 := by decide +kernel
set_option maxHeartbeats 4000000 in
set_option maxRecDepth 100000 in
theorem c_X8_requireHours {l : Launch} (hl : l.stackTraces = false) {Z : m_Z} {S : m_S} {a0 : Nat} {p1 : Int32} {p2 : Int32} {p3 : Int32} {rZ9 : Except String Unit} (hf : f_X8_requireHours Z S a0 p1 p2 p3 = some rZ9) : m_Cx l yX8_requireHours (.code yX8_requireHours cX8_requireHours 4 none :: m_ws) rm_X8_requireHours 1 6 (fun f => [.ref a0, .int p1, .int p2, .int p3]) Z S (m_rv (fun _ => none) rZ9) S := by
  unfold f_X8_requireHours at hf
  refine m_entX hl (by decide) (fun _ => Nat.le_of_ble_eq_true rfl) (fun x C F => ?_)
  have C : m_H x l RX8 cX8_requireHours 4 rm_X8_requireHours := C
  show m_G x Z S 4 0 0 0 [(0, .ref a0), (1, .int p1), (2, .int p2), (3, .int p3)] []
  refine r_iload_n (q := 1) C 1 dX8_requireHours_0 rfl rfl ?_
  refine r_iload_n (q := 2) C 2 dX8_requireHours_1 rfl rfl ?_
  refine r_icmp_lt (t := 10) (q := 5) C dX8_requireHours_2 (by decide) rfl (fun c1 => ?_) (fun c1 => ?_)
  · replace hf := m_if1 hf c1
    obtain rfl := m_so1 hf
    exact x_thrAW (text := "hours are out of range") (ti := 32) C F w_553 w_21 (by decide +kernel) dX8_requireHours_10 dX8_requireHours_13 dX8_requireHours_14 dX8_requireHours_17 dX8_requireHours_20 (Nat.le_of_ble_eq_true rfl) (Nat.le_of_ble_eq_true rfl) (Nat.le_of_ble_eq_true rfl) (Nat.le_of_ble_eq_true rfl) (Nat.le_of_ble_eq_true rfl) (Nat.le_of_ble_eq_true rfl)
  · replace hf := m_if0 hf c1
    refine r_iload_n (q := 6) C 1 dX8_requireHours_5 rfl rfl ?_
    refine r_iload_n (q := 7) C 3 dX8_requireHours_6 rfl rfl ?_
    refine r_icmp_le (t := 21) (q := 10) C dX8_requireHours_7 (by decide) rfl (fun c2 => ?_) (fun c2 => ?_)
    · replace hf := m_if1 hf c2
      obtain rfl := m_so1 hf
      exact x_vret C F (Nat.le_of_ble_eq_true rfl) (Nat.le_of_ble_eq_true rfl) dX8_requireHours_21
    · replace hf := m_if0 hf c2
      obtain rfl := m_so1 hf
      exact x_thrAW (text := "hours are out of range") (ti := 32) C F w_553 w_21 (by decide +kernel) dX8_requireHours_10 dX8_requireHours_13 dX8_requireHours_14 dX8_requireHours_17 dX8_requireHours_20 (Nat.le_of_ble_eq_true rfl) (Nat.le_of_ble_eq_true rfl) (Nat.le_of_ble_eq_true rfl) (Nat.le_of_ble_eq_true rfl) (Nat.le_of_ble_eq_true rfl) (Nat.le_of_ble_eq_true rfl)
def F_X8_advance_42 (Z : m_Z) (a0 : Nat) (p1 : Int32) (j13 : (Int32 → m_S → Option ((Except String Int32) × m_S))) (lp17 : (Int32 × Int32 × m_S) → Option ((Except String Int32) × m_S)) (p34 : (Int32 × Int32 × m_S)) : Option ((Except String Int32) × m_S) := match p34 with
  | (v14, v15, S16) => (if p1 ≤ v15 then j13 v14 S16 else m_b1 (S16.2.2 a0 3) (fun b22 => m_b1 (S16.2.2 a0 1) (fun b24 => m_gd (m_ok Z b22 6) (m_bw (f_X6_passHour Z S16 b22 b24) (fun v29 S28 => m_lt (v14 + v29) (fun v30 => m_lt (v15 + (1 : Int32)) (fun v32 => lp17 (v30, v32, S28))))))))
def f_X8_advance (Z : m_Z) (S : m_S) (a0 : Nat) (p1 : Int32) : Option ((Except String Int32) × m_S) := m_gd (m_ok Z a0 8) (m_btw (f_X8_requireHours Z S a0 p1 (1 : Int32) (2000 : Int32)) S (fun _u => m_b1 (S.2.2 a0 3) (fun b4 => m_gd (m_ok Z b4 6) (m_b1 (S.2.2 b4 0) (fun b7 => m_gd (m_ok Z b7 4) ((if p1 ≤ ((99999 : Int32) - (S.1 b7 0)) then m_jp (fun (v11 : Int32) (S12 : m_S) => some ((.ok v11), S12)) (fun j13 => m_fx (F_X8_advance_42 Z a0 p1 j13) 100000 ((0 : Int32), (0 : Int32), S)) else some (.error "java/lang/IllegalStateException", S))))))))
abbrev rm_X8_advance : Room := { frames := 7, cells := 2, slots := 12, locals := 143 }
theorem hd_X8_advance : yX8_advance.cls = RX8 ∧ yX8_advance.cls ≠ "java/lang/invoke/MethodHandle" ∧ yX8_advance.cls ≠ "java/lang/invoke/VarHandle" ∧ (parseMethodDescriptor yX8_advance.desc).map (fun d => d.parameters.length) = some 1 := by decide +kernel
set_option maxHeartbeats 4000000 in
set_option maxRecDepth 100000 in
theorem c_X8_advance {l : Launch} (hl : l.stackTraces = false) {Z : m_Z} {S : m_S} {a0 : Nat} {p1 : Int32} {rZ9 : Except String Int32} {SZ9 : m_S} (hf : f_X8_advance Z S a0 p1 = some (rZ9, SZ9)) : m_Cx l yX8_advance (.code yX8_advance cX8_advance 4 (some .int) :: m_ws) rm_X8_advance 2 12 (fun f => [.ref a0, .int p1]) Z S (m_rv (fun r => some (.int r)) rZ9) SZ9 := by
  unfold f_X8_advance at hf
  refine m_entX hl (by decide) (fun _ => Nat.le_of_ble_eq_true rfl) (fun x C F => ?_)
  have C : m_H x l RX8 cX8_advance 4 rm_X8_advance := C
  show m_G x Z S 4 0 0 0 [(0, .ref a0), (1, .int p1)] []
  refine r_aload_n (q := 1) C 0 dX8_advance_0 rfl rfl ?_
  refine r_iload_n (q := 2) C 1 dX8_advance_1 rfl rfl ?_
  refine r_iconst (q := 3) (v := (1 : Int32)) C dX8_advance_2 (by decide) rfl ?_
  refine r_sipush (q := 6) (v := (2000 : Int32)) C dX8_advance_3 (by decide) rfl ?_
  obtain ⟨g1, hf⟩ := m_gd_of hf
  rcases m_btw_of hf with ⟨_u, h2, hf⟩ | ⟨x3, h2, hf⟩
  · refine x_okV (q := 9) (mcQ := 2) (msQ := 12) (retQ := (some .int)) (st1 := []) C (c_X8_requireHours hl h2) rfl w_795 w_796 w_1319 w_2 w_797 hd_X8_requireHours rfl (by decide) g1 rfl rfl rfl ⟨(Nat.le_of_ble_eq_true rfl), (Nat.le_of_ble_eq_true rfl)⟩ (Nat.le_of_ble_eq_true rfl) ⟨(Nat.le_of_ble_eq_true rfl), (Nat.le_of_ble_eq_true rfl)⟩ dX8_advance_6 rfl (Nat.le_of_ble_eq_true rfl) (Nat.le_of_ble_eq_true rfl) rfl ?_
    refine r_iload_n (q := 10) C 1 dX8_advance_9 rfl rfl ?_
    refine r_ldc_w (q := 13) C dX8_advance_10 w_798 rfl ?_
    refine r_aload_n (q := 14) C 0 dX8_advance_13 rfl rfl ?_
    obtain ⟨b4, e5, hf⟩ := m_b1_of hf
    refine gf_X8_29 (q := 17) C dX8_advance_14 g1 e5 rfl ?_
    obtain ⟨g6, hf⟩ := m_gd_of hf
    obtain ⟨b7, e8, hf⟩ := m_b1_of hf
    refine gf_X8_95 (q := 20) C dX8_advance_17 g6 e8 rfl ?_
    obtain ⟨g9, hf⟩ := m_gd_of hf
    refine gf_X8_98 (q := 23) C dX8_advance_20 g9 rfl ?_
    refine r_isub (q := 24) C dX8_advance_23 rfl ?_
    refine r_icmp_le (t := 38) (q := 27) C dX8_advance_24 (by decide) rfl (fun c10 => ?_) (fun c10 => ?_)
    · replace hf := m_if1 hf c10
      refine r_iconst (q := 39) (v := (0 : Int32)) C dX8_advance_38 (by decide) rfl ?_
      refine r_istore_n (q := 40) (L' := [(2, .int (0 : Int32)), (0, .ref a0), (1, .int p1)]) C dX8_advance_39 rfl rfl (by decide) rfl ?_
      refine r_iconst (q := 41) (v := (0 : Int32)) C dX8_advance_40 (by decide) rfl ?_
      refine r_istore_n (q := 42) (L' := [(3, .int (0 : Int32)), (2, .int (0 : Int32)), (0, .ref a0), (1, .int p1)]) C dX8_advance_41 rfl rfl (by decide) rfl ?_
      obtain ⟨j13, ej13, hf⟩ := m_jp_of hf
      have J13 : ∀ (v11 : Int32) (S12 : m_S), j13 v11 S12 = some (rZ9, SZ9) → m_G x Z S12 4 1 6 67 [(2, .int v11)] [] := by
        intro v11 S12 hf
        rw [ej13] at hf
        refine r_iload_n (q := 68) C 0 dX8_advance_67 rfl rfl ?_
        obtain ⟨rfl, rfl⟩ := m_so2 hf
        exact x_iret C F (Nat.le_of_ble_eq_true rfl) (Nat.le_of_ble_eq_true rfl) dX8_advance_68
      have LL20 : ∀ (fu19 : Nat) (v14 : Int32) (v15 : Int32) (S16 : m_S), m_fx (F_X8_advance_42 Z a0 p1 j13) fu19 (v14, v15, S16) = some (rZ9, SZ9) → m_G x Z S16 4 1 6 42 [(0, .ref a0), (1, .int p1), (2, .int v14), (3, .int v15)] [] := by
        intro fu19
        induction fu19 with
        | zero => intros; rename_i hf; cases hf
        | succ fu19 ih18 =>
          intro v14 v15 S16 hf
          replace hf : F_X8_advance_42 Z a0 p1 j13 (m_fx (F_X8_advance_42 Z a0 p1 j13) fu19) (v14, v15, S16) = some (rZ9, SZ9) := hf
          unfold F_X8_advance_42 at hf
          dsimp only at hf
          refine r_iload_n (q := 43) C 3 dX8_advance_42 rfl rfl ?_
          refine r_iload_n (q := 44) C 1 dX8_advance_43 rfl rfl ?_
          refine r_icmp_ge (t := 67) (q := 47) C dX8_advance_44 (by decide) rfl (fun c21 => ?_) (fun c21 => ?_)
          · replace hf := m_if1 hf c21
            refine r_sub [2] rfl ?_
            exact J13 v14 S16 hf
          · replace hf := m_if0 hf c21
            refine r_iload_n (q := 48) C 2 dX8_advance_47 rfl rfl ?_
            refine r_aload_n (q := 49) C 0 dX8_advance_48 rfl rfl ?_
            obtain ⟨b22, e23, hf⟩ := m_b1_of hf
            refine gf_X8_29 (q := 52) C dX8_advance_49 g1 e23 rfl ?_
            refine r_aload_n (q := 53) C 0 dX8_advance_52 rfl rfl ?_
            obtain ⟨b24, e25, hf⟩ := m_b1_of hf
            refine gf_X8_19 (q := 56) C dX8_advance_53 g1 e25 rfl ?_
            obtain ⟨g26, hf⟩ := m_gd_of hf
            obtain ⟨v29, S28, h27, hf⟩ := m_bw_of hf
            refine r_callV (mc := 0) (ms := 0) (q := 59) (st1 := [.int v29, .int v14]) C (c_X6_passHour hl h27) rfl w_799 w_800 w_801 w_8 w_802 hd_X6_passHour rfl (by decide) g26 rfl rfl rfl ⟨(Nat.le_of_ble_eq_true rfl), (Nat.le_of_ble_eq_true rfl)⟩ (Nat.le_of_ble_eq_true rfl) ⟨(Nat.le_of_ble_eq_true rfl), (Nat.le_of_ble_eq_true rfl)⟩ dX8_advance_56 rfl rfl ?_
            refine r_iadd (q := 60) C dX8_advance_59 rfl ?_
            obtain ⟨v30, e31, hf⟩ := m_lt_of hf
            refine r_nm e31 ?_
            refine r_istore_n (q := 61) (L' := [(2, .int v30), (0, .ref a0), (1, .int p1), (3, .int v15)]) C dX8_advance_60 rfl rfl (by decide) rfl ?_
            obtain ⟨v32, e33, hf⟩ := m_lt_of hf
            refine r_iinc (q := 64) (v := v32) (L' := [(3, .int v32), (2, .int v30), (0, .ref a0), (1, .int p1)]) C 3 dX8_advance_61 rfl (by rw [e33]; rfl) rfl (by decide) rfl ?_
            refine r_goto (t := 42) C dX8_advance_64 (by decide) ?_
            refine r_sub [2, 3, 1, 0] rfl ?_
            exact ih18 v30 v32 S28 hf
      refine r_sub [2, 3, 1, 0] rfl ?_
      exact LL20 100000 (0 : Int32) (0 : Int32) S hf
    · replace hf := m_if0 hf c10
      obtain ⟨rfl, rfl⟩ := m_so2 hf
      exact x_thrIW (text := "the time would exceed 99999") (ti := 33) C F w_226 w_15 (by decide +kernel) dX8_advance_27 dX8_advance_30 dX8_advance_31 dX8_advance_34 dX8_advance_37 (Nat.le_of_ble_eq_true rfl) (Nat.le_of_ble_eq_true rfl) (Nat.le_of_ble_eq_true rfl) (Nat.le_of_ble_eq_true rfl) (Nat.le_of_ble_eq_true rfl) (Nat.le_of_ble_eq_true rfl)
  · obtain ⟨rfl, rfl⟩ := Prod.mk.inj hf
    exact x_erV C (c_X8_requireHours hl h2) F rfl w_795 w_796 w_1319 w_2 w_797 hd_X8_requireHours rfl (by decide) g1 rfl rfl rfl ⟨(Nat.le_of_ble_eq_true rfl), (Nat.le_of_ble_eq_true rfl)⟩ (Nat.le_of_ble_eq_true rfl) ⟨(Nat.le_of_ble_eq_true rfl), (Nat.le_of_ble_eq_true rfl)⟩ dX8_advance_6 rfl (Nat.le_of_ble_eq_true rfl) (Nat.le_of_ble_eq_true rfl)
def f_X8_announce (Z : m_Z) (S : m_S) (a0 : Nat) (p1 : Int32) : Option ((Except String Int32) × m_S) := (if p1 < (1 : Int32) then some (.error "java/lang/IllegalArgumentException", S) else (if p1 ≤ (999 : Int32) then m_gd (m_ok Z a0 8) (m_b1 (S.2.2 a0 3) (fun b4 => m_gd (m_ok Z b4 6) (m_b1 (S.2.2 b4 0) (fun b7 => m_gd (m_ok Z b7 4) ((if p1 ≤ ((5000 : Int32) - (S.1 b7 2)) then m_lt (m_pI S b7 2 ((S.1 b7 2) + p1)) (fun S11 => m_b1 (S11.2.2 a0 3) (fun b13 => m_gd (m_ok Z b13 6) (m_b1 (S11.2.2 b13 0) (fun b16 => m_gd (m_ok Z b16 4) (some ((.ok (S11.1 b16 2)), S11)))))) else some (.error "java/lang/IllegalStateException", S))))))) else some (.error "java/lang/IllegalArgumentException", S)))
abbrev rm_X8_announce : Room := { frames := 6, cells := 1, slots := 6, locals := 82 }
theorem hd_X8_announce : yX8_announce.cls = RX8 ∧ yX8_announce.cls ≠ "java/lang/invoke/MethodHandle" ∧ yX8_announce.cls ≠ "java/lang/invoke/VarHandle" ∧ (parseMethodDescriptor yX8_announce.desc).map (fun d => d.parameters.length) = some 1 := by decide +kernel
set_option maxHeartbeats 4000000 in
set_option maxRecDepth 100000 in
theorem c_X8_announce {l : Launch} (hl : l.stackTraces = false) {Z : m_Z} {S : m_S} {a0 : Nat} {p1 : Int32} {rZ9 : Except String Int32} {SZ9 : m_S} (hf : f_X8_announce Z S a0 p1 = some (rZ9, SZ9)) : m_Cx l yX8_announce (.code yX8_announce cX8_announce 2 (some .int) :: m_ws) rm_X8_announce 1 6 (fun f => [.ref a0, .int p1]) Z S (m_rv (fun r => some (.int r)) rZ9) SZ9 := by
  unfold f_X8_announce at hf
  refine m_entX hl (by decide) (fun _ => Nat.le_of_ble_eq_true rfl) (fun x C F => ?_)
  have C : m_H x l RX8 cX8_announce 2 rm_X8_announce := C
  show m_G x Z S 2 0 0 0 [(0, .ref a0), (1, .int p1)] []
  refine r_iload_n (q := 1) C 1 dX8_announce_0 rfl rfl ?_
  refine r_iconst (q := 2) (v := (1 : Int32)) C dX8_announce_1 (by decide) rfl ?_
  refine r_icmp_lt (t := 12) (q := 5) C dX8_announce_2 (by decide) rfl (fun c1 => ?_) (fun c1 => ?_)
  · replace hf := m_if1 hf c1
    obtain ⟨rfl, rfl⟩ := m_so2 hf
    exact x_thrA (text := "a group has 1 to 999 visitors") (ti := 15) C F w_553 w_21 (by decide +kernel) dX8_announce_12 dX8_announce_15 dX8_announce_16 dX8_announce_18 dX8_announce_21 (Nat.le_of_ble_eq_true rfl) (Nat.le_of_ble_eq_true rfl) (Nat.le_of_ble_eq_true rfl) (Nat.le_of_ble_eq_true rfl) (Nat.le_of_ble_eq_true rfl) (Nat.le_of_ble_eq_true rfl)
  · replace hf := m_if0 hf c1
    refine r_iload_n (q := 6) C 1 dX8_announce_5 rfl rfl ?_
    refine r_sipush (q := 9) (v := (999 : Int32)) C dX8_announce_6 (by decide) rfl ?_
    refine r_icmp_le (t := 22) (q := 12) C dX8_announce_9 (by decide) rfl (fun c2 => ?_) (fun c2 => ?_)
    · replace hf := m_if1 hf c2
      refine r_iload_n (q := 23) C 1 dX8_announce_22 rfl rfl ?_
      refine r_sipush (q := 26) (v := (5000 : Int32)) C dX8_announce_23 (by decide) rfl ?_
      refine r_aload_n (q := 27) C 0 dX8_announce_26 rfl rfl ?_
      obtain ⟨g3, hf⟩ := m_gd_of hf
      obtain ⟨b4, e5, hf⟩ := m_b1_of hf
      refine gf_X8_29 (q := 30) C dX8_announce_27 g3 e5 rfl ?_
      obtain ⟨g6, hf⟩ := m_gd_of hf
      obtain ⟨b7, e8, hf⟩ := m_b1_of hf
      refine gf_X8_95 (q := 33) C dX8_announce_30 g6 e8 rfl ?_
      obtain ⟨g9, hf⟩ := m_gd_of hf
      refine gf_X8_124 (q := 36) C dX8_announce_33 g9 rfl ?_
      refine r_isub (q := 37) C dX8_announce_36 rfl ?_
      refine r_icmp_le (t := 50) (q := 40) C dX8_announce_37 (by decide) rfl (fun c10 => ?_) (fun c10 => ?_)
      · replace hf := m_if1 hf c10
        refine r_aload_n (q := 51) C 0 dX8_announce_50 rfl rfl ?_
        refine gf_X8_29 (q := 54) C dX8_announce_51 g3 e5 rfl ?_
        refine gf_X8_95 (q := 57) C dX8_announce_54 g6 e8 rfl ?_
        refine r_dup (q := 58) C dX8_announce_57 rfl rfl ?_
        refine gf_X8_124 (q := 61) C dX8_announce_58 g9 rfl ?_
        refine r_iload_n (q := 62) C 1 dX8_announce_61 rfl rfl ?_
        refine r_iadd (q := 63) C dX8_announce_62 rfl ?_
        obtain ⟨S11, e12, hf⟩ := m_lt_of hf
        refine pf_X8_124 (q := 66) C dX8_announce_63 g9 e12 rfl ?_
        refine r_aload_n (q := 67) C 0 dX8_announce_66 rfl rfl ?_
        obtain ⟨b13, e14, hf⟩ := m_b1_of hf
        refine gf_X8_29 (q := 70) C dX8_announce_67 g3 e14 rfl ?_
        obtain ⟨g15, hf⟩ := m_gd_of hf
        obtain ⟨b16, e17, hf⟩ := m_b1_of hf
        refine gf_X8_95 (q := 73) C dX8_announce_70 g15 e17 rfl ?_
        obtain ⟨g18, hf⟩ := m_gd_of hf
        refine gf_X8_124 (q := 76) C dX8_announce_73 g18 rfl ?_
        obtain ⟨rfl, rfl⟩ := m_so2 hf
        exact x_iret C F (Nat.le_of_ble_eq_true rfl) (Nat.le_of_ble_eq_true rfl) dX8_announce_76
      · replace hf := m_if0 hf c10
        obtain ⟨rfl, rfl⟩ := m_so2 hf
        exact x_thrI (text := "all groups have at most 5000 visitors") (ti := 16) C F w_226 w_15 (by decide +kernel) dX8_announce_40 dX8_announce_43 dX8_announce_44 dX8_announce_46 dX8_announce_49 (Nat.le_of_ble_eq_true rfl) (Nat.le_of_ble_eq_true rfl) (Nat.le_of_ble_eq_true rfl) (Nat.le_of_ble_eq_true rfl) (Nat.le_of_ble_eq_true rfl) (Nat.le_of_ble_eq_true rfl)
    · replace hf := m_if0 hf c2
      obtain ⟨rfl, rfl⟩ := m_so2 hf
      exact x_thrA (text := "a group has 1 to 999 visitors") (ti := 15) C F w_553 w_21 (by decide +kernel) dX8_announce_12 dX8_announce_15 dX8_announce_16 dX8_announce_18 dX8_announce_21 (Nat.le_of_ble_eq_true rfl) (Nat.le_of_ble_eq_true rfl) (Nat.le_of_ble_eq_true rfl) (Nat.le_of_ble_eq_true rfl) (Nat.le_of_ble_eq_true rfl) (Nat.le_of_ble_eq_true rfl)
def f_X8_append (Z : m_Z) (S : m_S) (a0 : Nat) (p1 : Int32) (p2 : Int32) (p3 : Int32) (p4 : Int32) (p5 : Int32) : Option ((Except String Int32) × m_S) := m_gd (m_ok Z a0 8) (m_b1 (S.2.2 a0 0) (fun b2 => m_gd (m_ok Z b2 3) ((if (S.1 b2 1) ≤ (880 : Int32) then m_bw (f_X3_appendBytes Z S b2 p1) (fun _u S7 => m_b1 (S7.2.2 a0 0) (fun b8 => m_gd (m_ok Z b8 3) (m_bw (f_X3_appendBytes Z S7 b8 p2) (fun _u S12 => m_b1 (S12.2.2 a0 0) (fun b13 => m_gd (m_ok Z b13 3) (m_bw (f_X3_appendBytes Z S12 b13 p3) (fun _u S17 => m_b1 (S17.2.2 a0 0) (fun b18 => m_gd (m_ok Z b18 3) (m_bw (f_X3_appendBytes Z S17 b18 p4) (fun _u S22 => m_b1 (S22.2.2 a0 0) (fun b23 => m_gd (m_ok Z b23 3) (m_bw (f_X3_appendBytes Z S22 b23 p5) (fun _u S27 => m_b1 (S27.2.2 a0 0) (fun b28 => m_gd (m_ok Z b28 3) (some ((.ok (S27.1 b28 1)), S27)))))))))))))))) else some (.error "java/lang/IllegalStateException", S)))))
abbrev rm_X8_append : Room := { frames := 6, cells := 1, slots := 6, locals := 82 }
theorem hd_X8_append : yX8_append.cls = RX8 ∧ yX8_append.cls ≠ "java/lang/invoke/MethodHandle" ∧ yX8_append.cls ≠ "java/lang/invoke/VarHandle" ∧ (parseMethodDescriptor yX8_append.desc).map (fun d => d.parameters.length) = some 5 := by decide +kernel
set_option maxHeartbeats 4000000 in
set_option maxRecDepth 100000 in
theorem c_X8_append {l : Launch} (hl : l.stackTraces = false) {Z : m_Z} {S : m_S} {a0 : Nat} {p1 : Int32} {p2 : Int32} {p3 : Int32} {p4 : Int32} {p5 : Int32} {rZ9 : Except String Int32} {SZ9 : m_S} (hf : f_X8_append Z S a0 p1 p2 p3 p4 p5 = some (rZ9, SZ9)) : m_Cx l yX8_append (.code yX8_append cX8_append 6 (some .int) :: m_ws) rm_X8_append 1 6 (fun f => [.ref a0, .int p1, .int p2, .int p3, .int p4, .int p5]) Z S (m_rv (fun r => some (.int r)) rZ9) SZ9 := by
  unfold f_X8_append at hf
  refine m_entX hl (by decide) (fun _ => Nat.le_of_ble_eq_true rfl) (fun x C F => ?_)
  have C : m_H x l RX8 cX8_append 6 rm_X8_append := C
  show m_G x Z S 6 0 0 0 [(0, .ref a0), (1, .int p1), (2, .int p2), (3, .int p3), (4, .int p4), (5, .int p5)] []
  refine r_aload_n (q := 1) C 0 dX8_append_0 rfl rfl ?_
  obtain ⟨g1, hf⟩ := m_gd_of hf
  obtain ⟨b2, e3, hf⟩ := m_b1_of hf
  refine gf_X8_10 (q := 4) C dX8_append_1 g1 e3 rfl ?_
  obtain ⟨g4, hf⟩ := m_gd_of hf
  refine gf_X8_59 (q := 7) C dX8_append_4 g4 rfl ?_
  refine r_sipush (q := 10) (v := (880 : Int32)) C dX8_append_7 (by decide) rfl ?_
  refine r_icmp_le (t := 23) (q := 13) C dX8_append_10 (by decide) rfl (fun c5 => ?_) (fun c5 => ?_)
  · replace hf := m_if1 hf c5
    refine r_aload_n (q := 24) C 0 dX8_append_23 rfl rfl ?_
    refine gf_X8_10 (q := 27) C dX8_append_24 g1 e3 rfl ?_
    refine r_iload_n (q := 28) C 1 dX8_append_27 rfl rfl ?_
    obtain ⟨_u, S7, h6, hf⟩ := m_bw_of hf
    refine r_callV (mc := 0) (ms := 0) (q := 31) (st1 := []) C (c_X3_appendBytes hl h6) rfl w_273 w_274 w_275 w_3 w_276 hd_X3_appendBytes rfl (by decide) g4 rfl rfl rfl ⟨(Nat.le_of_ble_eq_true rfl), (Nat.le_of_ble_eq_true rfl)⟩ (Nat.le_of_ble_eq_true rfl) ⟨(Nat.le_of_ble_eq_true rfl), (Nat.le_of_ble_eq_true rfl)⟩ dX8_append_28 rfl rfl ?_
    refine r_aload_n (q := 32) C 0 dX8_append_31 rfl rfl ?_
    obtain ⟨b8, e9, hf⟩ := m_b1_of hf
    refine gf_X8_10 (q := 35) C dX8_append_32 g1 e9 rfl ?_
    refine r_iload_n (q := 36) C 2 dX8_append_35 rfl rfl ?_
    obtain ⟨g10, hf⟩ := m_gd_of hf
    obtain ⟨_u, S12, h11, hf⟩ := m_bw_of hf
    refine r_callV (mc := 0) (ms := 0) (q := 39) (st1 := []) C (c_X3_appendBytes hl h11) rfl w_273 w_274 w_275 w_3 w_276 hd_X3_appendBytes rfl (by decide) g10 rfl rfl rfl ⟨(Nat.le_of_ble_eq_true rfl), (Nat.le_of_ble_eq_true rfl)⟩ (Nat.le_of_ble_eq_true rfl) ⟨(Nat.le_of_ble_eq_true rfl), (Nat.le_of_ble_eq_true rfl)⟩ dX8_append_36 rfl rfl ?_
    refine r_aload_n (q := 40) C 0 dX8_append_39 rfl rfl ?_
    obtain ⟨b13, e14, hf⟩ := m_b1_of hf
    refine gf_X8_10 (q := 43) C dX8_append_40 g1 e14 rfl ?_
    refine r_iload_n (q := 44) C 3 dX8_append_43 rfl rfl ?_
    obtain ⟨g15, hf⟩ := m_gd_of hf
    obtain ⟨_u, S17, h16, hf⟩ := m_bw_of hf
    refine r_callV (mc := 0) (ms := 0) (q := 47) (st1 := []) C (c_X3_appendBytes hl h16) rfl w_273 w_274 w_275 w_3 w_276 hd_X3_appendBytes rfl (by decide) g15 rfl rfl rfl ⟨(Nat.le_of_ble_eq_true rfl), (Nat.le_of_ble_eq_true rfl)⟩ (Nat.le_of_ble_eq_true rfl) ⟨(Nat.le_of_ble_eq_true rfl), (Nat.le_of_ble_eq_true rfl)⟩ dX8_append_44 rfl rfl ?_
    refine r_aload_n (q := 48) C 0 dX8_append_47 rfl rfl ?_
    obtain ⟨b18, e19, hf⟩ := m_b1_of hf
    refine gf_X8_10 (q := 51) C dX8_append_48 g1 e19 rfl ?_
    refine r_iload (q := 53) C 4 dX8_append_51 rfl rfl ?_
    obtain ⟨g20, hf⟩ := m_gd_of hf
    obtain ⟨_u, S22, h21, hf⟩ := m_bw_of hf
    refine r_callV (mc := 0) (ms := 0) (q := 56) (st1 := []) C (c_X3_appendBytes hl h21) rfl w_273 w_274 w_275 w_3 w_276 hd_X3_appendBytes rfl (by decide) g20 rfl rfl rfl ⟨(Nat.le_of_ble_eq_true rfl), (Nat.le_of_ble_eq_true rfl)⟩ (Nat.le_of_ble_eq_true rfl) ⟨(Nat.le_of_ble_eq_true rfl), (Nat.le_of_ble_eq_true rfl)⟩ dX8_append_53 rfl rfl ?_
    refine r_aload_n (q := 57) C 0 dX8_append_56 rfl rfl ?_
    obtain ⟨b23, e24, hf⟩ := m_b1_of hf
    refine gf_X8_10 (q := 60) C dX8_append_57 g1 e24 rfl ?_
    refine r_iload (q := 62) C 5 dX8_append_60 rfl rfl ?_
    obtain ⟨g25, hf⟩ := m_gd_of hf
    obtain ⟨_u, S27, h26, hf⟩ := m_bw_of hf
    refine r_callV (mc := 0) (ms := 0) (q := 65) (st1 := []) C (c_X3_appendBytes hl h26) rfl w_273 w_274 w_275 w_3 w_276 hd_X3_appendBytes rfl (by decide) g25 rfl rfl rfl ⟨(Nat.le_of_ble_eq_true rfl), (Nat.le_of_ble_eq_true rfl)⟩ (Nat.le_of_ble_eq_true rfl) ⟨(Nat.le_of_ble_eq_true rfl), (Nat.le_of_ble_eq_true rfl)⟩ dX8_append_62 rfl rfl ?_
    refine r_aload_n (q := 66) C 0 dX8_append_65 rfl rfl ?_
    obtain ⟨b28, e29, hf⟩ := m_b1_of hf
    refine gf_X8_10 (q := 69) C dX8_append_66 g1 e29 rfl ?_
    obtain ⟨g30, hf⟩ := m_gd_of hf
    refine gf_X8_59 (q := 72) C dX8_append_69 g30 rfl ?_
    obtain ⟨rfl, rfl⟩ := m_so2 hf
    exact x_iret C F (Nat.le_of_ble_eq_true rfl) (Nat.le_of_ble_eq_true rfl) dX8_append_72
  · replace hf := m_if0 hf c5
    obtain ⟨rfl, rfl⟩ := m_so2 hf
    exact x_thrI (text := "the text would exceed 900 bytes") (ti := 8) C F w_226 w_15 (by decide +kernel) dX8_append_13 dX8_append_16 dX8_append_17 dX8_append_19 dX8_append_22 (Nat.le_of_ble_eq_true rfl) (Nat.le_of_ble_eq_true rfl) (Nat.le_of_ble_eq_true rfl) (Nat.le_of_ble_eq_true rfl) (Nat.le_of_ble_eq_true rfl) (Nat.le_of_ble_eq_true rfl)
def f_X8_balance (Z : m_Z) (S : m_S) (a0 : Nat) (p1 : Int32) (p2 : Int32) : Option (Except String Int64) := m_gd (m_ok Z a0 8) (m_bt (f_X8_vitrineAt Z S a0 p1) (fun b3 => m_bt (f_X8_logbookAt Z S a0 p1) (fun b6 => (if p2 = Int32.ofNat 0 then m_gd (m_ok Z b6 2) (some (.ok (S.2.1 b6 0))) else (if p2 = Int32.ofNat 1 then m_gd (m_ok Z b6 2) (some (.ok (S.2.1 b6 1))) else (if p2 = Int32.ofNat 2 then m_gd (m_ok Z b6 2) (some (.ok (S.2.1 b6 2))) else (if p2 = Int32.ofNat 3 then m_gd (m_ok Z b6 2) (some (.ok (S.2.1 b6 3))) else (if p2 = Int32.ofNat 4 then m_gd (m_ok Z b3 7) (m_b1 (f_X7_moisture Z S b3) (fun v19 => some (.ok v19.toInt64))) else some (.error "java/lang/IllegalArgumentException")))))))))
abbrev rm_X8_balance : Room := { frames := 7, cells := 3, slots := 18, locals := 103 }
theorem hd_X8_balance : yX8_balance.cls = RX8 ∧ yX8_balance.cls ≠ "java/lang/invoke/MethodHandle" ∧ yX8_balance.cls ≠ "java/lang/invoke/VarHandle" ∧ (parseMethodDescriptor yX8_balance.desc).map (fun d => d.parameters.length) = some 2 := by decide +kernel
set_option maxHeartbeats 4000000 in
set_option maxRecDepth 100000 in
theorem c_X8_balance {l : Launch} (hl : l.stackTraces = false) {Z : m_Z} {S : m_S} {a0 : Nat} {p1 : Int32} {p2 : Int32} {rZ9 : Except String Int64} (hf : f_X8_balance Z S a0 p1 p2 = some rZ9) : m_Cx l yX8_balance (.code yX8_balance cX8_balance 5 (some .long) :: m_ws) rm_X8_balance 3 18 (fun f => [.ref a0, .int p1, .int p2]) Z S (m_rv (fun r => some (.long r)) rZ9) S := by
  unfold f_X8_balance at hf
  refine m_entX hl (by decide) (fun _ => Nat.le_of_ble_eq_true rfl) (fun x C F => ?_)
  have C : m_H x l RX8 cX8_balance 5 rm_X8_balance := C
  show m_G x Z S 5 0 0 0 [(0, .ref a0), (1, .int p1), (2, .int p2)] []
  refine r_aload_n (q := 1) C 0 dX8_balance_0 rfl rfl ?_
  refine r_iload_n (q := 2) C 1 dX8_balance_1 rfl rfl ?_
  obtain ⟨g1, hf⟩ := m_gd_of hf
  rcases m_bt_of hf with ⟨b3, h2, hf⟩ | ⟨x4, h2, hf⟩
  · refine x_okV (q := 5) (mcQ := 3) (msQ := 18) (retQ := (some .long)) (st1 := [.ref b3]) C (c_X8_vitrineAt hl h2) rfl w_599 w_600 w_1315 w_2 w_601 hd_X8_vitrineAt rfl (by decide) g1 rfl rfl rfl ⟨(Nat.le_of_ble_eq_true rfl), (Nat.le_of_ble_eq_true rfl)⟩ (Nat.le_of_ble_eq_true rfl) ⟨(Nat.le_of_ble_eq_true rfl), (Nat.le_of_ble_eq_true rfl)⟩ dX8_balance_2 rfl (Nat.le_of_ble_eq_true rfl) (Nat.le_of_ble_eq_true rfl) rfl ?_
    refine r_astore_n (q := 6) (L' := [(3, .ref b3), (0, .ref a0), (1, .int p1), (2, .int p2)]) C dX8_balance_5 rfl rfl (by decide) rfl ?_
    refine r_aload_n (q := 7) C 1 dX8_balance_6 rfl rfl ?_
    refine r_iload_n (q := 8) C 2 dX8_balance_7 rfl rfl ?_
    rcases m_bt_of hf with ⟨b6, h5, hf⟩ | ⟨x7, h5, hf⟩
    · refine x_okV (q := 11) (mcQ := 3) (msQ := 18) (retQ := (some .long)) (st1 := [.ref b6]) C (c_X8_logbookAt hl h5) rfl w_602 w_603 w_1316 w_2 w_604 hd_X8_logbookAt rfl (by decide) g1 rfl rfl rfl ⟨(Nat.le_of_ble_eq_true rfl), (Nat.le_of_ble_eq_true rfl)⟩ (Nat.le_of_ble_eq_true rfl) ⟨(Nat.le_of_ble_eq_true rfl), (Nat.le_of_ble_eq_true rfl)⟩ dX8_balance_8 rfl (Nat.le_of_ble_eq_true rfl) (Nat.le_of_ble_eq_true rfl) rfl ?_
      refine r_astore (q := 13) (L' := [(4, .ref b6), (3, .ref b3), (0, .ref a0), (1, .int p1), (2, .int p2)]) C dX8_balance_11 rfl (by decide) rfl ?_
      refine r_iload_n (q := 14) C 4 dX8_balance_13 rfl rfl ?_
      by_cases c8 : p2 = Int32.ofNat 0
      · replace hf := m_if1 hf c8
        refine r_tsw (N := 0) (t := 48) (v := 0) C dX8_balance_14 c8 (by decide) (by decide) rfl (by decide) ?_
        refine r_aload (q := 50) C 0 dX8_balance_48 rfl rfl ?_
        obtain ⟨g9, hf⟩ := m_gd_of hf
        refine gf_X8_200 (q := 53) C dX8_balance_50 g9 rfl ?_
        obtain rfl := m_so1 hf
        exact x_lret C F (Nat.le_of_ble_eq_true rfl) (Nat.le_of_ble_eq_true rfl) dX8_balance_53
      · replace hf := m_if0 hf c8
        by_cases c10 : p2 = Int32.ofNat 1
        · replace hf := m_if1 hf c10
          refine r_tsw (N := 0) (t := 54) (v := 1) C dX8_balance_14 c10 (by decide) (by decide) rfl (by decide) ?_
          refine r_aload (q := 56) C 0 dX8_balance_54 rfl rfl ?_
          obtain ⟨g11, hf⟩ := m_gd_of hf
          refine gf_X8_204 (q := 59) C dX8_balance_56 g11 rfl ?_
          obtain rfl := m_so1 hf
          exact x_lret C F (Nat.le_of_ble_eq_true rfl) (Nat.le_of_ble_eq_true rfl) dX8_balance_59
        · replace hf := m_if0 hf c10
          by_cases c12 : p2 = Int32.ofNat 2
          · replace hf := m_if1 hf c12
            refine r_tsw (N := 0) (t := 60) (v := 2) C dX8_balance_14 c12 (by decide) (by decide) rfl (by decide) ?_
            refine r_aload (q := 62) C 0 dX8_balance_60 rfl rfl ?_
            obtain ⟨g13, hf⟩ := m_gd_of hf
            refine gf_X8_207 (q := 65) C dX8_balance_62 g13 rfl ?_
            obtain rfl := m_so1 hf
            exact x_lret C F (Nat.le_of_ble_eq_true rfl) (Nat.le_of_ble_eq_true rfl) dX8_balance_65
          · replace hf := m_if0 hf c12
            by_cases c14 : p2 = Int32.ofNat 3
            · replace hf := m_if1 hf c14
              refine r_tsw (N := 0) (t := 66) (v := 3) C dX8_balance_14 c14 (by decide) (by decide) rfl (by decide) ?_
              refine r_aload (q := 68) C 0 dX8_balance_66 rfl rfl ?_
              obtain ⟨g15, hf⟩ := m_gd_of hf
              refine gf_X8_210 (q := 71) C dX8_balance_68 g15 rfl ?_
              obtain rfl := m_so1 hf
              exact x_lret C F (Nat.le_of_ble_eq_true rfl) (Nat.le_of_ble_eq_true rfl) dX8_balance_71
            · replace hf := m_if0 hf c14
              by_cases c16 : p2 = Int32.ofNat 4
              · replace hf := m_if1 hf c16
                refine r_tsw (N := 0) (t := 72) (v := 4) C dX8_balance_14 c16 (by decide) (by decide) rfl (by decide) ?_
                refine r_aload_n (q := 73) C 1 dX8_balance_72 rfl rfl ?_
                obtain ⟨g17, hf⟩ := m_gd_of hf
                obtain ⟨v19, h18, hf⟩ := m_b1_of hf
                refine r_callV (mc := 0) (ms := 0) (q := 76) (st1 := [.int v19]) C (c_X7_moisture hl h18) rfl w_617 w_514 w_515 w_6 w_516 hd_X7_moisture rfl (by decide) g17 rfl rfl rfl ⟨(Nat.le_of_ble_eq_true rfl), (Nat.le_of_ble_eq_true rfl)⟩ (Nat.le_of_ble_eq_true rfl) ⟨(Nat.le_of_ble_eq_true rfl), (Nat.le_of_ble_eq_true rfl)⟩ dX8_balance_73 rfl rfl ?_
                refine r_i2l (q := 77) C dX8_balance_76 rfl ?_
                obtain rfl := m_so1 hf
                exact x_lret C F (Nat.le_of_ble_eq_true rfl) (Nat.le_of_ble_eq_true rfl) dX8_balance_77
              · replace hf := m_if0 hf c16
                refine r_tswO (t := 78) (N := 4) C dX8_balance_14 rfl (m_tS (m_tS (m_tS (m_tS (m_tS m_t0 c8) c10) c12) c14) c16) (by decide) ?_
                obtain rfl := m_so1 hf
                exact x_thrA (text := "what is 0 to 4") (ti := 19) C F w_553 w_21 (by decide +kernel) dX8_balance_78 dX8_balance_81 dX8_balance_82 dX8_balance_84 dX8_balance_87 (Nat.le_of_ble_eq_true rfl) (Nat.le_of_ble_eq_true rfl) (Nat.le_of_ble_eq_true rfl) (Nat.le_of_ble_eq_true rfl) (Nat.le_of_ble_eq_true rfl) (Nat.le_of_ble_eq_true rfl)
    · subst hf
      exact x_erV C (c_X8_logbookAt hl h5) F rfl w_602 w_603 w_1316 w_2 w_604 hd_X8_logbookAt rfl (by decide) g1 rfl rfl rfl ⟨(Nat.le_of_ble_eq_true rfl), (Nat.le_of_ble_eq_true rfl)⟩ (Nat.le_of_ble_eq_true rfl) ⟨(Nat.le_of_ble_eq_true rfl), (Nat.le_of_ble_eq_true rfl)⟩ dX8_balance_8 rfl (Nat.le_of_ble_eq_true rfl) (Nat.le_of_ble_eq_true rfl)
  · subst hf
    exact x_erV C (c_X8_vitrineAt hl h2) F rfl w_599 w_600 w_1315 w_2 w_601 hd_X8_vitrineAt rfl (by decide) g1 rfl rfl rfl ⟨(Nat.le_of_ble_eq_true rfl), (Nat.le_of_ble_eq_true rfl)⟩ (Nat.le_of_ble_eq_true rfl) ⟨(Nat.le_of_ble_eq_true rfl), (Nat.le_of_ble_eq_true rfl)⟩ dX8_balance_2 rfl (Nat.le_of_ble_eq_true rfl) (Nat.le_of_ble_eq_true rfl)
def f_X8_caseOf (Z : m_Z) (S : m_S) (a0 : Nat) (p1 : Int32) : Option (Except String Int32) := m_gd (m_ok Z a0 8) (m_b1 (S.2.2 a0 3) (fun b2 => m_gd (m_ok Z b2 6) (m_b1 (f_X6_holderOf Z S b2 p1) (fun v6 => (if ¬ v6 = (-1 : Int32) then some (.ok v6) else some (.error "java/util/NoSuchElementException"))))))
abbrev rm_X8_caseOf : Room := { frames := 6, cells := 1, slots := 6, locals := 82 }
theorem hd_X8_caseOf : yX8_caseOf.cls = RX8 ∧ yX8_caseOf.cls ≠ "java/lang/invoke/MethodHandle" ∧ yX8_caseOf.cls ≠ "java/lang/invoke/VarHandle" ∧ (parseMethodDescriptor yX8_caseOf.desc).map (fun d => d.parameters.length) = some 1 := by decide +kernel
set_option maxHeartbeats 4000000 in
set_option maxRecDepth 100000 in
theorem c_X8_caseOf {l : Launch} (hl : l.stackTraces = false) {Z : m_Z} {S : m_S} {a0 : Nat} {p1 : Int32} {rZ9 : Except String Int32} (hf : f_X8_caseOf Z S a0 p1 = some rZ9) : m_Cx l yX8_caseOf (.code yX8_caseOf cX8_caseOf 3 (some .int) :: m_ws) rm_X8_caseOf 1 6 (fun f => [.ref a0, .int p1]) Z S (m_rv (fun r => some (.int r)) rZ9) S := by
  unfold f_X8_caseOf at hf
  refine m_entX hl (by decide) (fun _ => Nat.le_of_ble_eq_true rfl) (fun x C F => ?_)
  have C : m_H x l RX8 cX8_caseOf 3 rm_X8_caseOf := C
  show m_G x Z S 3 0 0 0 [(0, .ref a0), (1, .int p1)] []
  refine r_aload_n (q := 1) C 0 dX8_caseOf_0 rfl rfl ?_
  obtain ⟨g1, hf⟩ := m_gd_of hf
  obtain ⟨b2, e3, hf⟩ := m_b1_of hf
  refine gf_X8_29 (q := 4) C dX8_caseOf_1 g1 e3 rfl ?_
  refine r_iload_n (q := 5) C 1 dX8_caseOf_4 rfl rfl ?_
  obtain ⟨g4, hf⟩ := m_gd_of hf
  obtain ⟨v6, h5, hf⟩ := m_b1_of hf
  refine r_callV (mc := 0) (ms := 0) (q := 8) (st1 := [.int v6]) C (c_X6_holderOf hl h5) rfl w_723 w_724 w_725 w_8 w_726 hd_X6_holderOf rfl (by decide) g4 rfl rfl rfl ⟨(Nat.le_of_ble_eq_true rfl), (Nat.le_of_ble_eq_true rfl)⟩ (Nat.le_of_ble_eq_true rfl) ⟨(Nat.le_of_ble_eq_true rfl), (Nat.le_of_ble_eq_true rfl)⟩ dX8_caseOf_5 rfl rfl ?_
  refine r_istore_n (q := 9) (L' := [(2, .int v6), (0, .ref a0), (1, .int p1)]) C dX8_caseOf_8 rfl rfl (by decide) rfl ?_
  refine r_iload_n (q := 10) C 0 dX8_caseOf_9 rfl rfl ?_
  refine r_iconst (q := 11) (v := (-1 : Int32)) C dX8_caseOf_10 (by decide) rfl ?_
  refine r_icmp_ne (t := 25) (q := 14) C dX8_caseOf_11 (by decide) rfl (fun c7 => ?_) (fun c7 => ?_)
  · replace hf := m_if1 hf c7
    refine r_iload_n (q := 26) C 0 dX8_caseOf_25 rfl rfl ?_
    obtain rfl := m_so1 hf
    exact x_iret C F (Nat.le_of_ble_eq_true rfl) (Nat.le_of_ble_eq_true rfl) dX8_caseOf_26
  · replace hf := m_if0 hf (fun z => z c7)
    obtain rfl := m_so1 hf
    exact x_thrNW (text := "no case has this cassette") (ti := 28) C F w_626 w_22 (by decide +kernel) dX8_caseOf_14 dX8_caseOf_17 dX8_caseOf_18 dX8_caseOf_21 dX8_caseOf_24 (Nat.le_of_ble_eq_true rfl) (Nat.le_of_ble_eq_true rfl) (Nat.le_of_ble_eq_true rfl) (Nat.le_of_ble_eq_true rfl) (Nat.le_of_ble_eq_true rfl) (Nat.le_of_ble_eq_true rfl)
def F_X8_foreseeRooms_16 (Z : m_Z) (a0 : Nat) (p1 : Int32) (j13 : (m_S → Option (Unit × m_S))) (lp16 : (Int32 × m_S) → Option (Unit × m_S)) (p38 : (Int32 × m_S)) : Option (Unit × m_S) := match p38 with
  | (v14, S15) => (if p1 ≤ v14 then j13 S15 else m_b1 (S15.2.2 a0 8) (fun b21 => m_gd (m_ok Z b21 11) ((if (Int32.ofNat (Z.2.2 b21)) ≤ v14 then j13 S15 else m_b1 (S15.2.2 a0 6) (fun b25 => m_b1 (S15.2.2 a0 1) (fun b27 => m_gd (m_ok Z b25 4) (m_bw (f_X4_passHour Z S15 b25 b27) (fun v32 S31 => m_gd (m_in v14 (Z.2.2 b21)) (m_lt (m_pI S31 b21 v14.toNatClampNeg v32) (fun S34 => m_lt (v14 + (1 : Int32)) (fun v36 => lp16 (v36, S34))))))))))))
def f_X8_foreseeRooms (Z : m_Z) (S : m_S) (a0 : Nat) (p1 : Int32) : Option (Unit × m_S) := m_gd (m_ok Z a0 8) (m_b1 (S.2.2 a0 6) (fun b2 => m_b1 (S.2.2 a0 3) (fun b4 => m_gd (m_ok Z b4 6) (m_b1 (S.2.2 b4 0) (fun b7 => m_gd (m_ok Z b2 4) (m_bw (f_X4_copyFrom Z S b2 b7) (fun _u S11 => m_jp (fun (S12 : m_S) => some ((), S12)) (fun j13 => m_fx (F_X8_foreseeRooms_16 Z a0 p1 j13) 100000 ((0 : Int32), S11)))))))))
abbrev rm_X8_foreseeRooms : Room := { frames := 4, cells := 0, slots := 0, locals := 94 }
theorem hd_X8_foreseeRooms : yX8_foreseeRooms.cls = RX8 ∧ yX8_foreseeRooms.cls ≠ "java/lang/invoke/MethodHandle" ∧ yX8_foreseeRooms.cls ≠ "java/lang/invoke/VarHandle" ∧ (parseMethodDescriptor yX8_foreseeRooms.desc).map (fun d => d.parameters.length) = some 1 := by decide +kernel
set_option maxHeartbeats 4000000 in
set_option maxRecDepth 100000 in
theorem c_X8_foreseeRooms {l : Launch} (hl : l.stackTraces = false) {Z : m_Z} {S : m_S} {a0 : Nat} {p1 : Int32} {rZ9 : Unit} {SZ9 : m_S} (hf : f_X8_foreseeRooms Z S a0 p1 = some (rZ9, SZ9)) : m_Ct l yX8_foreseeRooms (.code yX8_foreseeRooms cX8_foreseeRooms 3 none :: m_ws) rm_X8_foreseeRooms (fun f => [.ref a0, .int p1]) Z S (none) SZ9 := by
  unfold f_X8_foreseeRooms at hf
  refine m_ent hl (by decide) (fun _ => Nat.le_of_ble_eq_true rfl) (fun x C F => ?_)
  have C : m_H x l RX8 cX8_foreseeRooms 3 rm_X8_foreseeRooms := C
  show m_G x Z S 3 0 0 0 [(0, .ref a0), (1, .int p1)] []
  refine r_aload_n (q := 1) C 0 dX8_foreseeRooms_0 rfl rfl ?_
  obtain ⟨g1, hf⟩ := m_gd_of hf
  obtain ⟨b2, e3, hf⟩ := m_b1_of hf
  refine gf_X8_44 (q := 4) C dX8_foreseeRooms_1 g1 e3 rfl ?_
  refine r_aload_n (q := 5) C 0 dX8_foreseeRooms_4 rfl rfl ?_
  obtain ⟨b4, e5, hf⟩ := m_b1_of hf
  refine gf_X8_29 (q := 8) C dX8_foreseeRooms_5 g1 e5 rfl ?_
  obtain ⟨g6, hf⟩ := m_gd_of hf
  obtain ⟨b7, e8, hf⟩ := m_b1_of hf
  refine gf_X8_95 (q := 11) C dX8_foreseeRooms_8 g6 e8 rfl ?_
  obtain ⟨g9, hf⟩ := m_gd_of hf
  obtain ⟨_u, S11, h10, hf⟩ := m_bw_of hf
  refine r_callV (mc := 0) (ms := 0) (q := 14) (st1 := []) C (c_X4_copyFrom hl h10) rfl w_837 w_838 w_839 w_9 w_840 hd_X4_copyFrom rfl (by decide) g9 rfl rfl rfl ⟨(Nat.le_of_ble_eq_true rfl), (Nat.le_of_ble_eq_true rfl)⟩ (Nat.le_of_ble_eq_true rfl) ⟨(Nat.le_of_ble_eq_true rfl), (Nat.le_of_ble_eq_true rfl)⟩ dX8_foreseeRooms_11 rfl rfl ?_
  refine r_iconst (q := 15) (v := (0 : Int32)) C dX8_foreseeRooms_14 (by decide) rfl ?_
  refine r_istore_n (q := 16) (L' := [(2, .int (0 : Int32)), (0, .ref a0), (1, .int p1)]) C dX8_foreseeRooms_15 rfl rfl (by decide) rfl ?_
  obtain ⟨j13, ej13, hf⟩ := m_jp_of hf
  have J13 : ∀ (S12 : m_S), j13 S12 = some (rZ9, SZ9) → m_G x Z S12 3 0 0 53 [] [] := by
    intro S12 hf
    rw [ej13] at hf
    obtain ⟨rfl, rfl⟩ := m_so2 hf
    exact r_vret C F dX8_foreseeRooms_53
  have LL19 : ∀ (fu18 : Nat) (v14 : Int32) (S15 : m_S), m_fx (F_X8_foreseeRooms_16 Z a0 p1 j13) fu18 (v14, S15) = some (rZ9, SZ9) → m_G x Z S15 3 0 0 16 [(0, .ref a0), (1, .int p1), (2, .int v14)] [] := by
    intro fu18
    induction fu18 with
    | zero => intros; rename_i hf; cases hf
    | succ fu18 ih17 =>
      intro v14 S15 hf
      replace hf : F_X8_foreseeRooms_16 Z a0 p1 j13 (m_fx (F_X8_foreseeRooms_16 Z a0 p1 j13) fu18) (v14, S15) = some (rZ9, SZ9) := hf
      unfold F_X8_foreseeRooms_16 at hf
      dsimp only at hf
      refine r_iload_n (q := 17) C 2 dX8_foreseeRooms_16 rfl rfl ?_
      refine r_iload_n (q := 18) C 1 dX8_foreseeRooms_17 rfl rfl ?_
      refine r_icmp_ge (t := 53) (q := 21) C dX8_foreseeRooms_18 (by decide) rfl (fun c20 => ?_) (fun c20 => ?_)
      · replace hf := m_if1 hf c20
        refine r_sub [] rfl ?_
        exact J13 S15 hf
      · replace hf := m_if0 hf c20
        refine r_iload_n (q := 22) C 2 dX8_foreseeRooms_21 rfl rfl ?_
        refine r_aload_n (q := 23) C 0 dX8_foreseeRooms_22 rfl rfl ?_
        obtain ⟨b21, e22, hf⟩ := m_b1_of hf
        refine gf_X8_55 (q := 26) C dX8_foreseeRooms_23 g1 e22 rfl ?_
        obtain ⟨g23, hf⟩ := m_gd_of hf
        refine r_alen (q := 27) 11 1 C dX8_foreseeRooms_26 g23 (by decide) rfl rfl ?_
        refine r_icmp_ge (t := 53) (q := 30) C dX8_foreseeRooms_27 (by decide) rfl (fun c24 => ?_) (fun c24 => ?_)
        · replace hf := m_if1 hf c24
          refine r_sub [] rfl ?_
          exact J13 S15 hf
        · replace hf := m_if0 hf c24
          refine r_aload_n (q := 31) C 0 dX8_foreseeRooms_30 rfl rfl ?_
          refine gf_X8_55 (q := 34) C dX8_foreseeRooms_31 g1 e22 rfl ?_
          refine r_iload_n (q := 35) C 2 dX8_foreseeRooms_34 rfl rfl ?_
          refine r_aload_n (q := 36) C 0 dX8_foreseeRooms_35 rfl rfl ?_
          obtain ⟨b25, e26, hf⟩ := m_b1_of hf
          refine gf_X8_44 (q := 39) C dX8_foreseeRooms_36 g1 e26 rfl ?_
          refine r_aload_n (q := 40) C 0 dX8_foreseeRooms_39 rfl rfl ?_
          obtain ⟨b27, e28, hf⟩ := m_b1_of hf
          refine gf_X8_19 (q := 43) C dX8_foreseeRooms_40 g1 e28 rfl ?_
          obtain ⟨g29, hf⟩ := m_gd_of hf
          obtain ⟨v32, S31, h30, hf⟩ := m_bw_of hf
          refine r_callV (mc := 0) (ms := 0) (q := 46) (st1 := [.int v32, .int v14, .ref b21]) C (c_X4_passHour hl h30) rfl w_841 w_804 w_805 w_9 w_806 hd_X4_passHour rfl (by decide) g29 rfl rfl rfl ⟨(Nat.le_of_ble_eq_true rfl), (Nat.le_of_ble_eq_true rfl)⟩ (Nat.le_of_ble_eq_true rfl) ⟨(Nat.le_of_ble_eq_true rfl), (Nat.le_of_ble_eq_true rfl)⟩ dX8_foreseeRooms_43 rfl rfl ?_
          obtain ⟨g33, hf⟩ := m_gd_of hf
          obtain ⟨S34, e35, hf⟩ := m_lt_of hf
          refine r_iast (q := 47) C dX8_foreseeRooms_46 ⟨g23, g33⟩ rfl ?_
          rw [← e35]
          obtain ⟨v36, e37, hf⟩ := m_lt_of hf
          refine r_iinc (q := 50) (v := v36) (L' := [(2, .int v36), (0, .ref a0), (1, .int p1)]) C 2 dX8_foreseeRooms_47 rfl (by rw [e37]; rfl) rfl (by decide) rfl ?_
          refine r_goto (t := 16) C dX8_foreseeRooms_50 (by decide) ?_
          refine r_sub [1, 2, 0] rfl ?_
          exact ih17 v36 S34 hf
  refine r_sub [1, 2, 0] rfl ?_
  exact LL19 100000 (0 : Int32) S11 hf
def F_X8_unsafeHoursOfTrial_5 (Z : m_Z) (a0 : Nat) (p1 : Int32) (p2 : Int32) (j3 : (Int32 → m_S → Option (Int32 × m_S))) (lp7 : (Int32 × Int32 × m_S) → Option (Int32 × m_S)) (p37 : (Int32 × Int32 × m_S)) : Option (Int32 × m_S) := match p37 with
  | (v4, v5, S6) => (if p1 ≤ v5 then j3 v4 S6 else m_gd (m_ok Z a0 8) (m_b1 (S6.2.2 a0 8) (fun b13 => m_gd (m_ok Z b13 11) ((if (Int32.ofNat (Z.2.2 b13)) ≤ v5 then j3 v4 S6 else (if p2 ≤ v4 then j3 v4 S6 else m_b1 (S6.2.2 a0 7) (fun b18 => m_gd (m_in v5 (Z.2.2 b13)) (m_gd (m_ok Z b18 7) (m_bw (f_X7_passHour Z S6 b18 (S6.1 b13 v5.toNatClampNeg)) (fun v24 S23 => m_b1 (S23.2.2 a0 7) (fun b25 => m_gd (m_ok Z b25 7) (m_b1 (f_X7_isUnsafe Z S23 b25) (fun v29 => (if v29 = 0 then m_lt (v5 + (1 : Int32)) (fun v31 => lp7 (v4, v31, S23)) else m_lt (v4 + (1 : Int32)) (fun v33 => m_lt (v5 + (1 : Int32)) (fun v35 => lp7 (v33, v35, S23)))))))))))))))))
def f_X8_unsafeHoursOfTrial (Z : m_Z) (S : m_S) (a0 : Nat) (p1 : Int32) (p2 : Int32) : Option (Int32 × m_S) := m_jp (fun (v1 : Int32) (S2 : m_S) => some (v1, S2)) (fun j3 => m_fx (F_X8_unsafeHoursOfTrial_5 Z a0 p1 p2 j3) 100000 ((0 : Int32), (0 : Int32), S))
abbrev rm_X8_unsafeHoursOfTrial : Room := { frames := 5, cells := 0, slots := 0, locals := 116 }
theorem hd_X8_unsafeHoursOfTrial : yX8_unsafeHoursOfTrial.cls = RX8 ∧ yX8_unsafeHoursOfTrial.cls ≠ "java/lang/invoke/MethodHandle" ∧ yX8_unsafeHoursOfTrial.cls ≠ "java/lang/invoke/VarHandle" ∧ (parseMethodDescriptor yX8_unsafeHoursOfTrial.desc).map (fun d => d.parameters.length) = some 2 := by decide +kernel
set_option maxHeartbeats 4000000 in
set_option maxRecDepth 100000 in
theorem c_X8_unsafeHoursOfTrial {l : Launch} (hl : l.stackTraces = false) {Z : m_Z} {S : m_S} {a0 : Nat} {p1 : Int32} {p2 : Int32} {rZ9 : Int32} {SZ9 : m_S} (hf : f_X8_unsafeHoursOfTrial Z S a0 p1 p2 = some (rZ9, SZ9)) : m_Ct l yX8_unsafeHoursOfTrial (.code yX8_unsafeHoursOfTrial cX8_unsafeHoursOfTrial 5 (some .int) :: m_ws) rm_X8_unsafeHoursOfTrial (fun f => [.ref a0, .int p1, .int p2]) Z S (some (.int rZ9)) SZ9 := by
  unfold f_X8_unsafeHoursOfTrial at hf
  refine m_ent hl (by decide) (fun _ => Nat.le_of_ble_eq_true rfl) (fun x C F => ?_)
  have C : m_H x l RX8 cX8_unsafeHoursOfTrial 5 rm_X8_unsafeHoursOfTrial := C
  show m_G x Z S 5 0 0 0 [(0, .ref a0), (1, .int p1), (2, .int p2)] []
  refine r_iconst (q := 1) (v := (0 : Int32)) C dX8_unsafeHoursOfTrial_0 (by decide) rfl ?_
  refine r_istore_n (q := 2) (L' := [(3, .int (0 : Int32)), (0, .ref a0), (1, .int p1), (2, .int p2)]) C dX8_unsafeHoursOfTrial_1 rfl rfl (by decide) rfl ?_
  refine r_iconst (q := 3) (v := (0 : Int32)) C dX8_unsafeHoursOfTrial_2 (by decide) rfl ?_
  refine r_istore (q := 5) (L' := [(4, .int (0 : Int32)), (3, .int (0 : Int32)), (0, .ref a0), (1, .int p1), (2, .int p2)]) C dX8_unsafeHoursOfTrial_3 rfl (by decide) rfl ?_
  obtain ⟨j3, ej3, hf⟩ := m_jp_of hf
  have J3 : ∀ (v1 : Int32) (S2 : m_S), j3 v1 S2 = some (rZ9, SZ9) → m_G x Z S2 5 0 0 60 [(3, .int v1)] [] := by
    intro v1 S2 hf
    rw [ej3] at hf
    refine r_iload_n (q := 61) C 0 dX8_unsafeHoursOfTrial_60 rfl rfl ?_
    obtain ⟨rfl, rfl⟩ := m_so2 hf
    exact r_iret C F dX8_unsafeHoursOfTrial_61
  have LL10 : ∀ (fu9 : Nat) (v4 : Int32) (v5 : Int32) (S6 : m_S), m_fx (F_X8_unsafeHoursOfTrial_5 Z a0 p1 p2 j3) fu9 (v4, v5, S6) = some (rZ9, SZ9) → m_G x Z S6 5 0 0 5 [(0, .ref a0), (1, .int p1), (2, .int p2), (3, .int v4), (4, .int v5)] [] := by
    intro fu9
    induction fu9 with
    | zero => intros; rename_i hf; cases hf
    | succ fu9 ih8 =>
      intro v4 v5 S6 hf
      replace hf : F_X8_unsafeHoursOfTrial_5 Z a0 p1 p2 j3 (m_fx (F_X8_unsafeHoursOfTrial_5 Z a0 p1 p2 j3) fu9) (v4, v5, S6) = some (rZ9, SZ9) := hf
      unfold F_X8_unsafeHoursOfTrial_5 at hf
      dsimp only at hf
      refine r_iload (q := 7) C 4 dX8_unsafeHoursOfTrial_5 rfl rfl ?_
      refine r_iload_n (q := 8) C 1 dX8_unsafeHoursOfTrial_7 rfl rfl ?_
      refine r_icmp_ge (t := 60) (q := 11) C dX8_unsafeHoursOfTrial_8 (by decide) rfl (fun c11 => ?_) (fun c11 => ?_)
      · replace hf := m_if1 hf c11
        refine r_sub [3] rfl ?_
        exact J3 v4 S6 hf
      · replace hf := m_if0 hf c11
        refine r_iload (q := 13) C 4 dX8_unsafeHoursOfTrial_11 rfl rfl ?_
        refine r_aload_n (q := 14) C 0 dX8_unsafeHoursOfTrial_13 rfl rfl ?_
        obtain ⟨g12, hf⟩ := m_gd_of hf
        obtain ⟨b13, e14, hf⟩ := m_b1_of hf
        refine gf_X8_55 (q := 17) C dX8_unsafeHoursOfTrial_14 g12 e14 rfl ?_
        obtain ⟨g15, hf⟩ := m_gd_of hf
        refine r_alen (q := 18) 11 1 C dX8_unsafeHoursOfTrial_17 g15 (by decide) rfl rfl ?_
        refine r_icmp_ge (t := 60) (q := 21) C dX8_unsafeHoursOfTrial_18 (by decide) rfl (fun c16 => ?_) (fun c16 => ?_)
        · replace hf := m_if1 hf c16
          refine r_sub [3] rfl ?_
          exact J3 v4 S6 hf
        · replace hf := m_if0 hf c16
          refine r_iload_n (q := 22) C 3 dX8_unsafeHoursOfTrial_21 rfl rfl ?_
          refine r_iload_n (q := 23) C 2 dX8_unsafeHoursOfTrial_22 rfl rfl ?_
          refine r_icmp_ge (t := 60) (q := 26) C dX8_unsafeHoursOfTrial_23 (by decide) rfl (fun c17 => ?_) (fun c17 => ?_)
          · replace hf := m_if1 hf c17
            refine r_sub [3] rfl ?_
            exact J3 v4 S6 hf
          · replace hf := m_if0 hf c17
            refine r_aload_n (q := 27) C 0 dX8_unsafeHoursOfTrial_26 rfl rfl ?_
            obtain ⟨b18, e19, hf⟩ := m_b1_of hf
            refine gf_X8_51 (q := 30) C dX8_unsafeHoursOfTrial_27 g12 e19 rfl ?_
            refine r_aload_n (q := 31) C 0 dX8_unsafeHoursOfTrial_30 rfl rfl ?_
            refine gf_X8_55 (q := 34) C dX8_unsafeHoursOfTrial_31 g12 e14 rfl ?_
            refine r_iload (q := 36) C 4 dX8_unsafeHoursOfTrial_34 rfl rfl ?_
            obtain ⟨g20, hf⟩ := m_gd_of hf
            refine r_iald (q := 37) C dX8_unsafeHoursOfTrial_36 ⟨g15, g20⟩ rfl ?_
            obtain ⟨g21, hf⟩ := m_gd_of hf
            obtain ⟨v24, S23, h22, hf⟩ := m_bw_of hf
            refine r_callV (mc := 0) (ms := 0) (q := 40) (st1 := [.int v24]) C (c_X7_passHour hl h22) rfl w_850 w_812 w_813 w_6 w_814 hd_X7_passHour rfl (by decide) g21 rfl rfl rfl ⟨(Nat.le_of_ble_eq_true rfl), (Nat.le_of_ble_eq_true rfl)⟩ (Nat.le_of_ble_eq_true rfl) ⟨(Nat.le_of_ble_eq_true rfl), (Nat.le_of_ble_eq_true rfl)⟩ dX8_unsafeHoursOfTrial_37 rfl rfl ?_
            refine r_pop (q := 41) C dX8_unsafeHoursOfTrial_40 rfl rfl ?_
            refine r_aload_n (q := 42) C 0 dX8_unsafeHoursOfTrial_41 rfl rfl ?_
            obtain ⟨b25, e26, hf⟩ := m_b1_of hf
            refine gf_X8_51 (q := 45) C dX8_unsafeHoursOfTrial_42 g12 e26 rfl ?_
            obtain ⟨g27, hf⟩ := m_gd_of hf
            obtain ⟨v29, h28, hf⟩ := m_b1_of hf
            refine r_callV (mc := 0) (ms := 0) (q := 48) (st1 := [.int v29]) C (c_X7_isUnsafe hl h28) rfl w_858 w_822 w_823 w_6 w_824 hd_X7_isUnsafe rfl (by decide) g27 rfl rfl rfl ⟨(Nat.le_of_ble_eq_true rfl), (Nat.le_of_ble_eq_true rfl)⟩ (Nat.le_of_ble_eq_true rfl) ⟨(Nat.le_of_ble_eq_true rfl), (Nat.le_of_ble_eq_true rfl)⟩ dX8_unsafeHoursOfTrial_45 rfl rfl ?_
            refine r_if_eq (t := 54) (q := 51) C dX8_unsafeHoursOfTrial_48 (by decide) rfl (fun c30 => ?_) (fun c30 => ?_)
            · replace hf := m_if1 hf c30
              obtain ⟨v31, e32, hf⟩ := m_lt_of hf
              refine r_iinc (q := 57) (v := v31) (L' := [(4, .int v31), (0, .ref a0), (1, .int p1), (2, .int p2), (3, .int v4)]) C 4 dX8_unsafeHoursOfTrial_54 rfl (by rw [e32]; rfl) rfl (by decide) rfl ?_
              refine r_goto (t := 5) C dX8_unsafeHoursOfTrial_57 (by decide) ?_
              refine r_sub [1, 2, 3, 4, 0] rfl ?_
              exact ih8 v4 v31 S23 hf
            · replace hf := m_if0 hf c30
              obtain ⟨v33, e34, hf⟩ := m_lt_of hf
              refine r_iinc (q := 54) (v := v33) (L' := [(3, .int v33), (0, .ref a0), (1, .int p1), (2, .int p2), (4, .int v5)]) C 3 dX8_unsafeHoursOfTrial_51 rfl (by rw [e34]; rfl) rfl (by decide) rfl ?_
              obtain ⟨v35, e36, hf⟩ := m_lt_of hf
              refine r_iinc (q := 57) (v := v35) (L' := [(4, .int v35), (3, .int v33), (0, .ref a0), (1, .int p1), (2, .int p2)]) C 4 dX8_unsafeHoursOfTrial_54 rfl (by rw [e36]; rfl) rfl (by decide) rfl ?_
              refine r_goto (t := 5) C dX8_unsafeHoursOfTrial_57 (by decide) ?_
              refine r_sub [2, 3, 4, 1, 0] rfl ?_
              exact ih8 v33 v35 S23 hf
  refine r_sub [2, 3, 4, 1, 0] rfl ?_
  exact LL10 100000 (0 : Int32) (0 : Int32) S hf
def F_X8_bestFor_41 (Z : m_Z) (a0 : Nat) (p2 : Int32) (b6 : Nat) (v14 : Int32) (j19 : (Int32 → m_S → Option ((Except String Int32) × m_S))) (lp24 : (Int32 × Int32 × Int32 × m_S) → Option ((Except String Int32) × m_S)) (p50 : (Int32 × Int32 × Int32 × m_S)) : Option ((Except String Int32) × m_S) := match p50 with
  | (v20, v21, v22, S23) => (if (1000 : Int32) < v22 then j19 v20 S23 else m_b1 (S23.2.2 a0 7) (fun b29 => m_gd (m_ok Z b29 7) (m_bw (f_X7_copyFrom Z S23 b29 b6) (fun _u S33 => m_b1 (S33.2.2 a0 7) (fun b34 => m_b1 (S33.2.2 a0 3) (fun b36 => m_gd (m_ok Z b36 6) (m_gd (m_ok Z b34 7) (m_bw (f_X7_recondition Z S33 b34 v14 (S33.1 b36 1) v22) (fun _u S41 => m_bw (f_X8_unsafeHoursOfTrial Z S41 a0 p2 v21) (fun v44 S43 => (if v21 ≤ v44 then m_lt (v22 + (50 : Int32)) (fun v46 => lp24 (v20, v21, v46, S43)) else m_lt (v22 + (50 : Int32)) (fun v48 => lp24 (v22, v44, v48, S43)))))))))))))
def f_X8_bestFor (Z : m_Z) (S : m_S) (a0 : Nat) (p1 : Int32) (p2 : Int32) : Option ((Except String Int32) × m_S) := m_gd (m_ok Z a0 8) (m_btw (f_X8_caseOf Z S a0 p1) S (fun v3 => m_btw (f_X8_vitrineAt Z S a0 v3) S (fun b6 => m_btw (f_X8_requireHours Z S a0 p2 (1 : Int32) (72 : Int32)) S (fun _u => m_bw (f_X8_foreseeRooms Z S a0 p2) (fun _u S11 => m_gd (m_ok Z b6 7) (m_b1 (f_X7_indexOf Z S11 b6 p1) (fun v14 => m_lt (p2 + (1 : Int32)) (fun v15 => m_jp (fun (v17 : Int32) (S18 : m_S) => some ((.ok v17), S18)) (fun j19 => m_fx (F_X8_bestFor_41 Z a0 p2 b6 v14 j19) 100000 ((0 : Int32), v15, (0 : Int32), S11))))))))))
abbrev rm_X8_bestFor : Room := { frames := 7, cells := 3, slots := 18, locals := 140 }
theorem hd_X8_bestFor : yX8_bestFor.cls = RX8 ∧ yX8_bestFor.cls ≠ "java/lang/invoke/MethodHandle" ∧ yX8_bestFor.cls ≠ "java/lang/invoke/VarHandle" ∧ (parseMethodDescriptor yX8_bestFor.desc).map (fun d => d.parameters.length) = some 2 := by decide +kernel
set_option maxHeartbeats 4000000 in
set_option maxRecDepth 100000 in
theorem c_X8_bestFor {l : Launch} (hl : l.stackTraces = false) {Z : m_Z} {S : m_S} {a0 : Nat} {p1 : Int32} {p2 : Int32} {rZ9 : Except String Int32} {SZ9 : m_S} (hf : f_X8_bestFor Z S a0 p1 p2 = some (rZ9, SZ9)) : m_Cx l yX8_bestFor (.code yX8_bestFor cX8_bestFor 9 (some .int) :: m_ws) rm_X8_bestFor 3 18 (fun f => [.ref a0, .int p1, .int p2]) Z S (m_rv (fun r => some (.int r)) rZ9) SZ9 := by
  unfold f_X8_bestFor at hf
  refine m_entX hl (by decide) (fun _ => Nat.le_of_ble_eq_true rfl) (fun x C F => ?_)
  have C : m_H x l RX8 cX8_bestFor 9 rm_X8_bestFor := C
  show m_G x Z S 9 0 0 0 [(0, .ref a0), (1, .int p1), (2, .int p2)] []
  refine r_aload_n (q := 1) C 0 dX8_bestFor_0 rfl rfl ?_
  refine r_aload_n (q := 2) C 0 dX8_bestFor_1 rfl rfl ?_
  refine r_iload_n (q := 3) C 1 dX8_bestFor_2 rfl rfl ?_
  obtain ⟨g1, hf⟩ := m_gd_of hf
  rcases m_btw_of hf with ⟨v3, h2, hf⟩ | ⟨x4, h2, hf⟩
  · refine x_okV (q := 6) (mcQ := 3) (msQ := 18) (retQ := (some .int)) (st1 := [.int v3, .ref a0]) C (c_X8_caseOf hl h2) rfl w_752 w_720 w_721 w_2 w_722 hd_X8_caseOf rfl (by decide) g1 rfl rfl rfl ⟨(Nat.le_of_ble_eq_true rfl), (Nat.le_of_ble_eq_true rfl)⟩ (Nat.le_of_ble_eq_true rfl) ⟨(Nat.le_of_ble_eq_true rfl), (Nat.le_of_ble_eq_true rfl)⟩ dX8_bestFor_3 rfl (Nat.le_of_ble_eq_true rfl) (Nat.le_of_ble_eq_true rfl) rfl ?_
    rcases m_btw_of hf with ⟨b6, h5, hf⟩ | ⟨x7, h5, hf⟩
    · refine x_okV (q := 9) (mcQ := 3) (msQ := 18) (retQ := (some .int)) (st1 := [.ref b6]) C (c_X8_vitrineAt hl h5) rfl w_599 w_600 w_1315 w_2 w_601 hd_X8_vitrineAt rfl (by decide) g1 rfl rfl rfl ⟨(Nat.le_of_ble_eq_true rfl), (Nat.le_of_ble_eq_true rfl)⟩ (Nat.le_of_ble_eq_true rfl) ⟨(Nat.le_of_ble_eq_true rfl), (Nat.le_of_ble_eq_true rfl)⟩ dX8_bestFor_6 rfl (Nat.le_of_ble_eq_true rfl) (Nat.le_of_ble_eq_true rfl) rfl ?_
      refine r_astore_n (q := 10) (L' := [(3, .ref b6), (0, .ref a0), (1, .int p1), (2, .int p2)]) C dX8_bestFor_9 rfl rfl (by decide) rfl ?_
      refine r_aload_n (q := 11) C 1 dX8_bestFor_10 rfl rfl ?_
      refine r_iload_n (q := 12) C 3 dX8_bestFor_11 rfl rfl ?_
      refine r_iconst (q := 13) (v := (1 : Int32)) C dX8_bestFor_12 (by decide) rfl ?_
      refine r_bipush (q := 15) (v := (72 : Int32)) C dX8_bestFor_13 (by decide) rfl ?_
      rcases m_btw_of hf with ⟨_u, h8, hf⟩ | ⟨x9, h8, hf⟩
      · refine x_okV (q := 18) (mcQ := 3) (msQ := 18) (retQ := (some .int)) (st1 := []) C (c_X8_requireHours hl h8) rfl w_795 w_796 w_1319 w_2 w_797 hd_X8_requireHours rfl (by decide) g1 rfl rfl rfl ⟨(Nat.le_of_ble_eq_true rfl), (Nat.le_of_ble_eq_true rfl)⟩ (Nat.le_of_ble_eq_true rfl) ⟨(Nat.le_of_ble_eq_true rfl), (Nat.le_of_ble_eq_true rfl)⟩ dX8_bestFor_15 rfl (Nat.le_of_ble_eq_true rfl) (Nat.le_of_ble_eq_true rfl) rfl ?_
        refine r_aload_n (q := 19) C 1 dX8_bestFor_18 rfl rfl ?_
        refine r_iload_n (q := 20) C 3 dX8_bestFor_19 rfl rfl ?_
        obtain ⟨_u, S11, h10, hf⟩ := m_bw_of hf
        refine r_callV (mc := 0) (ms := 0) (q := 23) (st1 := []) C (c_X8_foreseeRooms hl h10) rfl w_883 w_884 w_1320 w_2 w_885 hd_X8_foreseeRooms rfl (by decide) g1 rfl rfl rfl ⟨(Nat.le_of_ble_eq_true rfl), (Nat.le_of_ble_eq_true rfl)⟩ (Nat.le_of_ble_eq_true rfl) ⟨(Nat.le_of_ble_eq_true rfl), (Nat.le_of_ble_eq_true rfl)⟩ dX8_bestFor_20 rfl rfl ?_
        refine r_aload_n (q := 24) C 0 dX8_bestFor_23 rfl rfl ?_
        refine r_iload_n (q := 25) C 2 dX8_bestFor_24 rfl rfl ?_
        obtain ⟨g12, hf⟩ := m_gd_of hf
        obtain ⟨v14, h13, hf⟩ := m_b1_of hf
        refine r_callV (mc := 0) (ms := 0) (q := 28) (st1 := [.int v14]) C (c_X7_indexOf hl h13) rfl w_753 w_728 w_729 w_6 w_730 hd_X7_indexOf rfl (by decide) g12 rfl rfl rfl ⟨(Nat.le_of_ble_eq_true rfl), (Nat.le_of_ble_eq_true rfl)⟩ (Nat.le_of_ble_eq_true rfl) ⟨(Nat.le_of_ble_eq_true rfl), (Nat.le_of_ble_eq_true rfl)⟩ dX8_bestFor_25 rfl rfl ?_
        refine r_istore (q := 30) (L' := [(4, .int v14), (3, .ref b6), (0, .ref a0), (1, .int p1), (2, .int p2)]) C dX8_bestFor_28 rfl (by decide) rfl ?_
        refine r_iconst (q := 31) (v := (0 : Int32)) C dX8_bestFor_30 (by decide) rfl ?_
        refine r_istore (q := 33) (L' := [(5, .int (0 : Int32)), (4, .int v14), (3, .ref b6), (0, .ref a0), (1, .int p1), (2, .int p2)]) C dX8_bestFor_31 rfl (by decide) rfl ?_
        refine r_iload_n (q := 34) C 5 dX8_bestFor_33 rfl rfl ?_
        refine r_iconst (q := 35) (v := (1 : Int32)) C dX8_bestFor_34 (by decide) rfl ?_
        refine r_iadd (q := 36) C dX8_bestFor_35 rfl ?_
        obtain ⟨v15, e16, hf⟩ := m_lt_of hf
        refine r_nm e16 ?_
        refine r_istore (q := 38) (L' := [(6, .int v15), (5, .int (0 : Int32)), (4, .int v14), (3, .ref b6), (0, .ref a0), (1, .int p1), (2, .int p2)]) C dX8_bestFor_36 rfl (by decide) rfl ?_
        refine r_iconst (q := 39) (v := (0 : Int32)) C dX8_bestFor_38 (by decide) rfl ?_
        refine r_istore (q := 41) (L' := [(7, .int (0 : Int32)), (6, .int v15), (5, .int (0 : Int32)), (4, .int v14), (3, .ref b6), (0, .ref a0), (1, .int p1), (2, .int p2)]) C dX8_bestFor_39 rfl (by decide) rfl ?_
        obtain ⟨j19, ej19, hf⟩ := m_jp_of hf
        have J19 : ∀ (v17 : Int32) (S18 : m_S), j19 v17 S18 = some (rZ9, SZ9) → m_G x Z S18 9 3 18 105 [(5, .int v17)] [] := by
          intro v17 S18 hf
          rw [ej19] at hf
          refine r_iload (q := 107) C 0 dX8_bestFor_105 rfl rfl ?_
          obtain ⟨rfl, rfl⟩ := m_so2 hf
          exact x_iret C F (Nat.le_of_ble_eq_true rfl) (Nat.le_of_ble_eq_true rfl) dX8_bestFor_107
        have LL27 : ∀ (fu26 : Nat) (v20 : Int32) (v21 : Int32) (v22 : Int32) (S23 : m_S), m_fx (F_X8_bestFor_41 Z a0 p2 b6 v14 j19) fu26 (v20, v21, v22, S23) = some (rZ9, SZ9) → m_G x Z S23 9 3 18 41 [(0, .ref a0), (2, .int p2), (3, .ref b6), (4, .int v14), (5, .int v20), (6, .int v21), (7, .int v22)] [] := by
          intro fu26
          induction fu26 with
          | zero => intros; rename_i hf; cases hf
          | succ fu26 ih25 =>
            intro v20 v21 v22 S23 hf
            replace hf : F_X8_bestFor_41 Z a0 p2 b6 v14 j19 (m_fx (F_X8_bestFor_41 Z a0 p2 b6 v14 j19) fu26) (v20, v21, v22, S23) = some (rZ9, SZ9) := hf
            unfold F_X8_bestFor_41 at hf
            dsimp only at hf
            refine r_iload (q := 43) C 6 dX8_bestFor_41 rfl rfl ?_
            refine r_sipush (q := 46) (v := (1000 : Int32)) C dX8_bestFor_43 (by decide) rfl ?_
            refine r_icmp_gt (t := 105) (q := 49) C dX8_bestFor_46 (by decide) rfl (fun c28 => ?_) (fun c28 => ?_)
            · replace hf := m_if1 hf c28
              refine r_sub [4] rfl ?_
              exact J19 v20 S23 hf
            · replace hf := m_if0 hf c28
              refine r_aload_n (q := 50) C 0 dX8_bestFor_49 rfl rfl ?_
              obtain ⟨b29, e30, hf⟩ := m_b1_of hf
              refine gf_X8_51 (q := 53) C dX8_bestFor_50 g1 e30 rfl ?_
              refine r_aload_n (q := 54) C 2 dX8_bestFor_53 rfl rfl ?_
              obtain ⟨g31, hf⟩ := m_gd_of hf
              obtain ⟨_u, S33, h32, hf⟩ := m_bw_of hf
              refine r_callV (mc := 0) (ms := 0) (q := 57) (st1 := []) C (c_X7_copyFrom hl h32) rfl w_849 w_506 w_507 w_6 w_508 hd_X7_copyFrom rfl (by decide) g31 rfl rfl rfl ⟨(Nat.le_of_ble_eq_true rfl), (Nat.le_of_ble_eq_true rfl)⟩ (Nat.le_of_ble_eq_true rfl) ⟨(Nat.le_of_ble_eq_true rfl), (Nat.le_of_ble_eq_true rfl)⟩ dX8_bestFor_54 rfl rfl ?_
              refine r_aload_n (q := 58) C 0 dX8_bestFor_57 rfl rfl ?_
              obtain ⟨b34, e35, hf⟩ := m_b1_of hf
              refine gf_X8_51 (q := 61) C dX8_bestFor_58 g1 e35 rfl ?_
              refine r_iload (q := 63) C 3 dX8_bestFor_61 rfl rfl ?_
              refine r_aload_n (q := 64) C 0 dX8_bestFor_63 rfl rfl ?_
              obtain ⟨b36, e37, hf⟩ := m_b1_of hf
              refine gf_X8_29 (q := 67) C dX8_bestFor_64 g1 e37 rfl ?_
              obtain ⟨g38, hf⟩ := m_gd_of hf
              refine gf_X8_114 (q := 70) C dX8_bestFor_67 g38 rfl ?_
              refine r_iload (q := 72) C 6 dX8_bestFor_70 rfl rfl ?_
              obtain ⟨g39, hf⟩ := m_gd_of hf
              obtain ⟨_u, S41, h40, hf⟩ := m_bw_of hf
              refine r_callV (mc := 0) (ms := 0) (q := 75) (st1 := []) C (c_X7_recondition hl h40) rfl w_780 w_781 w_782 w_6 w_783 hd_X7_recondition rfl (by decide) g39 rfl rfl rfl ⟨(Nat.le_of_ble_eq_true rfl), (Nat.le_of_ble_eq_true rfl)⟩ (Nat.le_of_ble_eq_true rfl) ⟨(Nat.le_of_ble_eq_true rfl), (Nat.le_of_ble_eq_true rfl)⟩ dX8_bestFor_72 rfl rfl ?_
              refine r_aload_n (q := 76) C 0 dX8_bestFor_75 rfl rfl ?_
              refine r_iload_n (q := 77) C 1 dX8_bestFor_76 rfl rfl ?_
              refine r_iload (q := 79) C 5 dX8_bestFor_77 rfl rfl ?_
              obtain ⟨v44, S43, h42, hf⟩ := m_bw_of hf
              refine r_callV (mc := 0) (ms := 0) (q := 82) (st1 := [.int v44]) C (c_X8_unsafeHoursOfTrial hl h42) rfl w_886 w_887 w_1321 w_2 w_888 hd_X8_unsafeHoursOfTrial rfl (by decide) g1 rfl rfl rfl ⟨(Nat.le_of_ble_eq_true rfl), (Nat.le_of_ble_eq_true rfl)⟩ (Nat.le_of_ble_eq_true rfl) ⟨(Nat.le_of_ble_eq_true rfl), (Nat.le_of_ble_eq_true rfl)⟩ dX8_bestFor_79 rfl rfl ?_
              refine r_istore (q := 84) (L' := [(8, .int v44), (0, .ref a0), (2, .int p2), (3, .ref b6), (4, .int v14), (5, .int v20), (6, .int v21), (7, .int v22)]) C dX8_bestFor_82 rfl (by decide) rfl ?_
              refine r_iload (q := 86) C 0 dX8_bestFor_84 rfl rfl ?_
              refine r_iload (q := 88) C 6 dX8_bestFor_86 rfl rfl ?_
              refine r_icmp_ge (t := 99) (q := 91) C dX8_bestFor_88 (by decide) rfl (fun c45 => ?_) (fun c45 => ?_)
              · replace hf := m_if1 hf c45
                obtain ⟨v46, e47, hf⟩ := m_lt_of hf
                refine r_iinc (q := 102) (v := v46) (L' := [(7, .int v46), (8, .int v44), (0, .ref a0), (2, .int p2), (3, .ref b6), (4, .int v14), (5, .int v20), (6, .int v21)]) C 7 dX8_bestFor_99 rfl (by rw [e47]; rfl) rfl (by decide) rfl ?_
                refine r_goto (t := 41) C dX8_bestFor_102 (by decide) ?_
                refine r_sub [2, 3, 4, 5, 6, 7, 0] rfl ?_
                exact ih25 v20 v21 v46 S43 hf
              · replace hf := m_if0 hf c45
                refine r_iload (q := 93) C 0 dX8_bestFor_91 rfl rfl ?_
                refine r_istore (q := 95) (L' := [(6, .int v44), (8, .int v44), (0, .ref a0), (2, .int p2), (3, .ref b6), (4, .int v14), (5, .int v20), (7, .int v22)]) C dX8_bestFor_93 rfl (by decide) rfl ?_
                refine r_iload (q := 97) C 7 dX8_bestFor_95 rfl rfl ?_
                refine r_istore (q := 99) (L' := [(5, .int v22), (6, .int v44), (8, .int v44), (0, .ref a0), (2, .int p2), (3, .ref b6), (4, .int v14), (7, .int v22)]) C dX8_bestFor_97 rfl (by decide) rfl ?_
                obtain ⟨v48, e49, hf⟩ := m_lt_of hf
                refine r_iinc (q := 102) (v := v48) (L' := [(7, .int v48), (5, .int v22), (6, .int v44), (8, .int v44), (0, .ref a0), (2, .int p2), (3, .ref b6), (4, .int v14)]) C 7 dX8_bestFor_99 rfl (by rw [e49]; rfl) rfl (by decide) rfl ?_
                refine r_goto (t := 41) C dX8_bestFor_102 (by decide) ?_
                refine r_sub [4, 5, 6, 7, 1, 2, 0] rfl ?_
                exact ih25 v22 v44 v48 S43 hf
        refine r_sub [5, 7, 4, 3, 2, 1, 0] rfl ?_
        exact LL27 100000 (0 : Int32) v15 (0 : Int32) S11 hf
      · obtain ⟨rfl, rfl⟩ := Prod.mk.inj hf
        exact x_erV C (c_X8_requireHours hl h8) F rfl w_795 w_796 w_1319 w_2 w_797 hd_X8_requireHours rfl (by decide) g1 rfl rfl rfl ⟨(Nat.le_of_ble_eq_true rfl), (Nat.le_of_ble_eq_true rfl)⟩ (Nat.le_of_ble_eq_true rfl) ⟨(Nat.le_of_ble_eq_true rfl), (Nat.le_of_ble_eq_true rfl)⟩ dX8_bestFor_15 rfl (Nat.le_of_ble_eq_true rfl) (Nat.le_of_ble_eq_true rfl)
    · obtain ⟨rfl, rfl⟩ := Prod.mk.inj hf
      exact x_erV C (c_X8_vitrineAt hl h5) F rfl w_599 w_600 w_1315 w_2 w_601 hd_X8_vitrineAt rfl (by decide) g1 rfl rfl rfl ⟨(Nat.le_of_ble_eq_true rfl), (Nat.le_of_ble_eq_true rfl)⟩ (Nat.le_of_ble_eq_true rfl) ⟨(Nat.le_of_ble_eq_true rfl), (Nat.le_of_ble_eq_true rfl)⟩ dX8_bestFor_6 rfl (Nat.le_of_ble_eq_true rfl) (Nat.le_of_ble_eq_true rfl)
  · obtain ⟨rfl, rfl⟩ := Prod.mk.inj hf
    exact x_erV C (c_X8_caseOf hl h2) F rfl w_752 w_720 w_721 w_2 w_722 hd_X8_caseOf rfl (by decide) g1 rfl rfl rfl ⟨(Nat.le_of_ble_eq_true rfl), (Nat.le_of_ble_eq_true rfl)⟩ (Nat.le_of_ble_eq_true rfl) ⟨(Nat.le_of_ble_eq_true rfl), (Nat.le_of_ble_eq_true rfl)⟩ dX8_bestFor_3 rfl (Nat.le_of_ble_eq_true rfl) (Nat.le_of_ble_eq_true rfl)
def f_X8_buffering (Z : m_Z) (S : m_S) (a0 : Nat) (p1 : Int32) : Option (Except String UInt64) := m_gd (m_ok Z a0 8) (m_bt (f_X8_vitrineAt Z S a0 p1) (fun b3 => m_gd (m_ok Z b3 7) (m_b1 (f_X7_moisture Z S b3) (fun v7 => (if ¬ v7 = 0 then m_b1 (f_X7_moistureOfCassettes Z S b3) (fun v10 => m_gd (isNaN32 (FP.fdiv (FP.i2f v10) (FP.i2f v7)) = false) (m_gd (isNaN64 (FP.f2d (FP.fdiv (FP.i2f v10) (FP.i2f v7))) = false) (some (.ok (FP.f2d (FP.fdiv (FP.i2f v10) (FP.i2f v7))))))) else some (.error "java/util/NoSuchElementException"))))))
abbrev rm_X8_buffering : Room := { frames := 7, cells := 2, slots := 12, locals := 103 }
theorem hd_X8_buffering : yX8_buffering.cls = RX8 ∧ yX8_buffering.cls ≠ "java/lang/invoke/MethodHandle" ∧ yX8_buffering.cls ≠ "java/lang/invoke/VarHandle" ∧ (parseMethodDescriptor yX8_buffering.desc).map (fun d => d.parameters.length) = some 1 := by decide +kernel
set_option maxHeartbeats 4000000 in
set_option maxRecDepth 100000 in
theorem c_X8_buffering {l : Launch} (hl : l.stackTraces = false) {Z : m_Z} {S : m_S} {a0 : Nat} {p1 : Int32} {rZ9 : Except String UInt64} (hf : f_X8_buffering Z S a0 p1 = some rZ9) : m_Cx l yX8_buffering (.code yX8_buffering cX8_buffering 4 (some .double) :: m_ws) rm_X8_buffering 2 12 (fun f => [.ref a0, .int p1]) Z S (m_rv (fun r => some (.double r)) rZ9) S := by
  unfold f_X8_buffering at hf
  refine m_entX hl (by decide) (fun _ => Nat.le_of_ble_eq_true rfl) (fun x C F => ?_)
  have C : m_H x l RX8 cX8_buffering 4 rm_X8_buffering := C
  show m_G x Z S 4 0 0 0 [(0, .ref a0), (1, .int p1)] []
  refine r_aload_n (q := 1) C 0 dX8_buffering_0 rfl rfl ?_
  refine r_iload_n (q := 2) C 1 dX8_buffering_1 rfl rfl ?_
  obtain ⟨g1, hf⟩ := m_gd_of hf
  rcases m_bt_of hf with ⟨b3, h2, hf⟩ | ⟨x4, h2, hf⟩
  · refine x_okV (q := 5) (mcQ := 2) (msQ := 12) (retQ := (some .double)) (st1 := [.ref b3]) C (c_X8_vitrineAt hl h2) rfl w_599 w_600 w_1315 w_2 w_601 hd_X8_vitrineAt rfl (by decide) g1 rfl rfl rfl ⟨(Nat.le_of_ble_eq_true rfl), (Nat.le_of_ble_eq_true rfl)⟩ (Nat.le_of_ble_eq_true rfl) ⟨(Nat.le_of_ble_eq_true rfl), (Nat.le_of_ble_eq_true rfl)⟩ dX8_buffering_2 rfl (Nat.le_of_ble_eq_true rfl) (Nat.le_of_ble_eq_true rfl) rfl ?_
    refine r_astore_n (q := 6) (L' := [(2, .ref b3), (0, .ref a0), (1, .int p1)]) C dX8_buffering_5 rfl rfl (by decide) rfl ?_
    refine r_aload_n (q := 7) C 0 dX8_buffering_6 rfl rfl ?_
    obtain ⟨g5, hf⟩ := m_gd_of hf
    obtain ⟨v7, h6, hf⟩ := m_b1_of hf
    refine r_callV (mc := 0) (ms := 0) (q := 10) (st1 := [.int v7]) C (c_X7_moisture hl h6) rfl w_617 w_514 w_515 w_6 w_516 hd_X7_moisture rfl (by decide) g5 rfl rfl rfl ⟨(Nat.le_of_ble_eq_true rfl), (Nat.le_of_ble_eq_true rfl)⟩ (Nat.le_of_ble_eq_true rfl) ⟨(Nat.le_of_ble_eq_true rfl), (Nat.le_of_ble_eq_true rfl)⟩ dX8_buffering_7 rfl rfl ?_
    refine r_istore_n (q := 11) (L' := [(3, .int v7), (2, .ref b3), (0, .ref a0), (1, .int p1)]) C dX8_buffering_10 rfl rfl (by decide) rfl ?_
    refine r_iload_n (q := 12) C 0 dX8_buffering_11 rfl rfl ?_
    refine r_if_ne (t := 25) (q := 15) C dX8_buffering_12 (by decide) rfl (fun c8 => ?_) (fun c8 => ?_)
    · replace hf := m_if1 hf c8
      refine r_aload_n (q := 26) C 1 dX8_buffering_25 rfl rfl ?_
      obtain ⟨v10, h9, hf⟩ := m_b1_of hf
      refine r_callV (mc := 0) (ms := 0) (q := 29) (st1 := [.int v10]) C (c_X7_moistureOfCassettes hl h9) rfl w_609 w_518 w_519 w_6 w_520 hd_X7_moistureOfCassettes rfl (by decide) g5 rfl rfl rfl ⟨(Nat.le_of_ble_eq_true rfl), (Nat.le_of_ble_eq_true rfl)⟩ (Nat.le_of_ble_eq_true rfl) ⟨(Nat.le_of_ble_eq_true rfl), (Nat.le_of_ble_eq_true rfl)⟩ dX8_buffering_26 rfl rfl ?_
      refine r_i2f (q := 30) C dX8_buffering_29 rfl ?_
      refine r_iload_n (q := 31) C 0 dX8_buffering_30 rfl rfl ?_
      refine r_i2f (q := 32) C dX8_buffering_31 rfl ?_
      obtain ⟨g11, hf⟩ := m_gd_of hf
      refine r_fdiv (q := 33) C dX8_buffering_32 (m_n32 g11) rfl ?_
      obtain ⟨g12, hf⟩ := m_gd_of hf
      refine r_f2d (q := 34) C dX8_buffering_33 (m_n64 g12) rfl ?_
      obtain rfl := m_so1 hf
      exact x_dret C F (Nat.le_of_ble_eq_true rfl) (Nat.le_of_ble_eq_true rfl) dX8_buffering_34
    · replace hf := m_if0 hf (fun z => z c8)
      obtain rfl := m_so1 hf
      exact x_thrN (text := "the case has no moisture") (ti := 23) C F w_626 w_22 (by decide +kernel) dX8_buffering_15 dX8_buffering_18 dX8_buffering_19 dX8_buffering_21 dX8_buffering_24 (Nat.le_of_ble_eq_true rfl) (Nat.le_of_ble_eq_true rfl) (Nat.le_of_ble_eq_true rfl) (Nat.le_of_ble_eq_true rfl) (Nat.le_of_ble_eq_true rfl) (Nat.le_of_ble_eq_true rfl)
  · subst hf
    exact x_erV C (c_X8_vitrineAt hl h2) F rfl w_599 w_600 w_1315 w_2 w_601 hd_X8_vitrineAt rfl (by decide) g1 rfl rfl rfl ⟨(Nat.le_of_ble_eq_true rfl), (Nat.le_of_ble_eq_true rfl)⟩ (Nat.le_of_ble_eq_true rfl) ⟨(Nat.le_of_ble_eq_true rfl), (Nat.le_of_ble_eq_true rfl)⟩ dX8_buffering_2 rfl (Nat.le_of_ble_eq_true rfl) (Nat.le_of_ble_eq_true rfl)
def f_X8_cassette (Z : m_Z) (S : m_S) (a0 : Nat) (p1 : Int32) (p2 : Int32) (p3 : Int32) : Option (Except String Int32) := m_gd (m_ok Z a0 8) (m_bt (f_X8_vitrineAt Z S a0 p1) (fun b3 => (if p2 < 0 then some (.error "java/lang/IndexOutOfBoundsException") else m_gd (m_ok Z b3 7) ((if p2 < (S.1 b3 5) then m_b1 (S.2.2 b3 6) (fun b8 => m_gd (m_ok Z b8 14) (m_gd (m_in p2 (Z.2.2 b8)) (m_b1 (S.2.2 b8 p2.toNatClampNeg) (fun b12 => (if p3 = Int32.ofNat 0 then m_gd (m_ok Z b12 0) (some (.ok (S.1 b12 0))) else (if p3 = Int32.ofNat 1 then m_gd (m_ok Z b12 0) (m_b1 (f_X0_kindNumber Z S b12) (fun v19 => some (.ok v19))) else (if p3 = Int32.ofNat 2 then m_gd (m_ok Z b12 0) (some (.ok (S.1 b12 2))) else (if p3 = Int32.ofNat 3 then m_gd (m_ok Z b12 0) (some (.ok (S.1 b12 3))) else (if p3 = Int32.ofNat 4 then m_gd (m_ok Z b12 0) (m_b1 (f_X0_ownHumidity Z S b12) (fun v27 => some (.ok v27))) else some (.error "java/lang/IllegalArgumentException")))))))))) else some (.error "java/lang/IndexOutOfBoundsException"))))))
abbrev rm_X8_cassette : Room := { frames := 7, cells := 2, slots := 12, locals := 111 }
theorem hd_X8_cassette : yX8_cassette.cls = RX8 ∧ yX8_cassette.cls ≠ "java/lang/invoke/MethodHandle" ∧ yX8_cassette.cls ≠ "java/lang/invoke/VarHandle" ∧ (parseMethodDescriptor yX8_cassette.desc).map (fun d => d.parameters.length) = some 3 := by decide +kernel
set_option maxHeartbeats 4000000 in
set_option maxRecDepth 100000 in
theorem c_X8_cassette {l : Launch} (hl : l.stackTraces = false) {Z : m_Z} {S : m_S} {a0 : Nat} {p1 : Int32} {p2 : Int32} {p3 : Int32} {rZ9 : Except String Int32} (hf : f_X8_cassette Z S a0 p1 p2 p3 = some rZ9) : m_Cx l yX8_cassette (.code yX8_cassette cX8_cassette 6 (some .int) :: m_ws) rm_X8_cassette 2 12 (fun f => [.ref a0, .int p1, .int p2, .int p3]) Z S (m_rv (fun r => some (.int r)) rZ9) S := by
  unfold f_X8_cassette at hf
  refine m_entX hl (by decide) (fun _ => Nat.le_of_ble_eq_true rfl) (fun x C F => ?_)
  have C : m_H x l RX8 cX8_cassette 6 rm_X8_cassette := C
  show m_G x Z S 6 0 0 0 [(0, .ref a0), (1, .int p1), (2, .int p2), (3, .int p3)] []
  refine r_aload_n (q := 1) C 0 dX8_cassette_0 rfl rfl ?_
  refine r_iload_n (q := 2) C 1 dX8_cassette_1 rfl rfl ?_
  obtain ⟨g1, hf⟩ := m_gd_of hf
  rcases m_bt_of hf with ⟨b3, h2, hf⟩ | ⟨x4, h2, hf⟩
  · refine x_okV (q := 5) (mcQ := 2) (msQ := 12) (retQ := (some .int)) (st1 := [.ref b3]) C (c_X8_vitrineAt hl h2) rfl w_599 w_600 w_1315 w_2 w_601 hd_X8_vitrineAt rfl (by decide) g1 rfl rfl rfl ⟨(Nat.le_of_ble_eq_true rfl), (Nat.le_of_ble_eq_true rfl)⟩ (Nat.le_of_ble_eq_true rfl) ⟨(Nat.le_of_ble_eq_true rfl), (Nat.le_of_ble_eq_true rfl)⟩ dX8_cassette_2 rfl (Nat.le_of_ble_eq_true rfl) (Nat.le_of_ble_eq_true rfl) rfl ?_
    refine r_astore (q := 7) (L' := [(4, .ref b3), (0, .ref a0), (1, .int p1), (2, .int p2), (3, .int p3)]) C dX8_cassette_5 rfl (by decide) rfl ?_
    refine r_iload_n (q := 8) C 3 dX8_cassette_7 rfl rfl ?_
    refine r_if_lt (t := 20) (q := 11) C dX8_cassette_8 (by decide) rfl (fun c5 => ?_) (fun c5 => ?_)
    · replace hf := m_if1 hf c5
      obtain rfl := m_so1 hf
      exact x_thrB (text := "there is no such cassette") (ti := 27) C F w_285 w_16 (by decide +kernel) dX8_cassette_20 dX8_cassette_23 dX8_cassette_24 dX8_cassette_26 dX8_cassette_29 (Nat.le_of_ble_eq_true rfl) (Nat.le_of_ble_eq_true rfl) (Nat.le_of_ble_eq_true rfl) (Nat.le_of_ble_eq_true rfl) (Nat.le_of_ble_eq_true rfl) (Nat.le_of_ble_eq_true rfl)
    · replace hf := m_if0 hf c5
      refine r_iload_n (q := 12) C 3 dX8_cassette_11 rfl rfl ?_
      refine r_aload (q := 14) C 0 dX8_cassette_12 rfl rfl ?_
      obtain ⟨g6, hf⟩ := m_gd_of hf
      refine gf_X8_175 (q := 17) C dX8_cassette_14 g6 rfl ?_
      refine r_icmp_lt (t := 30) (q := 20) C dX8_cassette_17 (by decide) rfl (fun c7 => ?_) (fun c7 => ?_)
      · replace hf := m_if1 hf c7
        refine r_aload (q := 32) C 0 dX8_cassette_30 rfl rfl ?_
        obtain ⟨b8, e9, hf⟩ := m_b1_of hf
        refine gf_X8_251 (q := 35) C dX8_cassette_32 g6 e9 rfl ?_
        refine r_iload_n (q := 36) C 3 dX8_cassette_35 rfl rfl ?_
        obtain ⟨g10, hf⟩ := m_gd_of hf
        obtain ⟨g11, hf⟩ := m_gd_of hf
        obtain ⟨b12, e13, hf⟩ := m_b1_of hf
        refine r_aald14 (q := 37) C dX8_cassette_36 ⟨g10, g11⟩ e13 rfl ?_
        refine r_astore (q := 39) (L' := [(5, .ref b12), (4, .ref b3), (0, .ref a0), (1, .int p1), (2, .int p2), (3, .int p3)]) C dX8_cassette_37 rfl (by decide) rfl ?_
        refine r_iload_n (q := 40) C 5 dX8_cassette_39 rfl rfl ?_
        by_cases c14 : p3 = Int32.ofNat 0
        · replace hf := m_if1 hf c14
          refine r_tsw (N := 0) (t := 76) (v := 0) C dX8_cassette_40 c14 (by decide) (by decide) rfl (by decide) ?_
          refine r_aload (q := 78) C 0 dX8_cassette_76 rfl rfl ?_
          obtain ⟨g15, hf⟩ := m_gd_of hf
          refine gf_X8_255 (q := 81) C dX8_cassette_78 g15 rfl ?_
          obtain rfl := m_so1 hf
          exact x_iret C F (Nat.le_of_ble_eq_true rfl) (Nat.le_of_ble_eq_true rfl) dX8_cassette_81
        · replace hf := m_if0 hf c14
          by_cases c16 : p3 = Int32.ofNat 1
          · replace hf := m_if1 hf c16
            refine r_tsw (N := 0) (t := 82) (v := 1) C dX8_cassette_40 c16 (by decide) (by decide) rfl (by decide) ?_
            refine r_aload (q := 84) C 0 dX8_cassette_82 rfl rfl ?_
            obtain ⟨g17, hf⟩ := m_gd_of hf
            obtain ⟨v19, h18, hf⟩ := m_b1_of hf
            refine r_callV (mc := 0) (ms := 0) (q := 87) (st1 := [.int v19]) C (c_X0_kindNumber hl h18) rfl w_703 w_704 w_705 w_7 w_706 hd_X0_kindNumber rfl (by decide) g17 rfl rfl rfl ⟨(Nat.le_of_ble_eq_true rfl), (Nat.le_of_ble_eq_true rfl)⟩ (Nat.le_of_ble_eq_true rfl) ⟨(Nat.le_of_ble_eq_true rfl), (Nat.le_of_ble_eq_true rfl)⟩ dX8_cassette_84 rfl rfl ?_
            obtain rfl := m_so1 hf
            exact x_iret C F (Nat.le_of_ble_eq_true rfl) (Nat.le_of_ble_eq_true rfl) dX8_cassette_87
          · replace hf := m_if0 hf c16
            by_cases c20 : p3 = Int32.ofNat 2
            · replace hf := m_if1 hf c20
              refine r_tsw (N := 0) (t := 88) (v := 2) C dX8_cassette_40 c20 (by decide) (by decide) rfl (by decide) ?_
              refine r_aload (q := 90) C 0 dX8_cassette_88 rfl rfl ?_
              obtain ⟨g21, hf⟩ := m_gd_of hf
              refine gf_X8_263 (q := 93) C dX8_cassette_90 g21 rfl ?_
              obtain rfl := m_so1 hf
              exact x_iret C F (Nat.le_of_ble_eq_true rfl) (Nat.le_of_ble_eq_true rfl) dX8_cassette_93
            · replace hf := m_if0 hf c20
              by_cases c22 : p3 = Int32.ofNat 3
              · replace hf := m_if1 hf c22
                refine r_tsw (N := 0) (t := 94) (v := 3) C dX8_cassette_40 c22 (by decide) (by decide) rfl (by decide) ?_
                refine r_aload (q := 96) C 0 dX8_cassette_94 rfl rfl ?_
                obtain ⟨g23, hf⟩ := m_gd_of hf
                refine gf_X8_266 (q := 99) C dX8_cassette_96 g23 rfl ?_
                obtain rfl := m_so1 hf
                exact x_iret C F (Nat.le_of_ble_eq_true rfl) (Nat.le_of_ble_eq_true rfl) dX8_cassette_99
              · replace hf := m_if0 hf c22
                by_cases c24 : p3 = Int32.ofNat 4
                · replace hf := m_if1 hf c24
                  refine r_tsw (N := 0) (t := 100) (v := 4) C dX8_cassette_40 c24 (by decide) (by decide) rfl (by decide) ?_
                  refine r_aload (q := 102) C 0 dX8_cassette_100 rfl rfl ?_
                  obtain ⟨g25, hf⟩ := m_gd_of hf
                  obtain ⟨v27, h26, hf⟩ := m_b1_of hf
                  refine r_callV (mc := 0) (ms := 0) (q := 105) (st1 := [.int v27]) C (c_X0_ownHumidity hl h26) rfl w_707 w_708 w_709 w_7 w_710 hd_X0_ownHumidity rfl (by decide) g25 rfl rfl rfl ⟨(Nat.le_of_ble_eq_true rfl), (Nat.le_of_ble_eq_true rfl)⟩ (Nat.le_of_ble_eq_true rfl) ⟨(Nat.le_of_ble_eq_true rfl), (Nat.le_of_ble_eq_true rfl)⟩ dX8_cassette_102 rfl rfl ?_
                  obtain rfl := m_so1 hf
                  exact x_iret C F (Nat.le_of_ble_eq_true rfl) (Nat.le_of_ble_eq_true rfl) dX8_cassette_105
                · replace hf := m_if0 hf c24
                  refine r_tswO (t := 106) (N := 4) C dX8_cassette_40 rfl (m_tS (m_tS (m_tS (m_tS (m_tS m_t0 c14) c16) c20) c22) c24) (by decide) ?_
                  obtain rfl := m_so1 hf
                  exact x_thrA (text := "what is 0 to 4") (ti := 19) C F w_553 w_21 (by decide +kernel) dX8_cassette_106 dX8_cassette_109 dX8_cassette_110 dX8_cassette_112 dX8_cassette_115 (Nat.le_of_ble_eq_true rfl) (Nat.le_of_ble_eq_true rfl) (Nat.le_of_ble_eq_true rfl) (Nat.le_of_ble_eq_true rfl) (Nat.le_of_ble_eq_true rfl) (Nat.le_of_ble_eq_true rfl)
      · replace hf := m_if0 hf c7
        obtain rfl := m_so1 hf
        exact x_thrB (text := "there is no such cassette") (ti := 27) C F w_285 w_16 (by decide +kernel) dX8_cassette_20 dX8_cassette_23 dX8_cassette_24 dX8_cassette_26 dX8_cassette_29 (Nat.le_of_ble_eq_true rfl) (Nat.le_of_ble_eq_true rfl) (Nat.le_of_ble_eq_true rfl) (Nat.le_of_ble_eq_true rfl) (Nat.le_of_ble_eq_true rfl) (Nat.le_of_ble_eq_true rfl)
  · subst hf
    exact x_erV C (c_X8_vitrineAt hl h2) F rfl w_599 w_600 w_1315 w_2 w_601 hd_X8_vitrineAt rfl (by decide) g1 rfl rfl rfl ⟨(Nat.le_of_ble_eq_true rfl), (Nat.le_of_ble_eq_true rfl)⟩ (Nat.le_of_ble_eq_true rfl) ⟨(Nat.le_of_ble_eq_true rfl), (Nat.le_of_ble_eq_true rfl)⟩ dX8_cassette_2 rfl (Nat.le_of_ble_eq_true rfl) (Nat.le_of_ble_eq_true rfl)
def f_X8_content (Z : m_Z) (S : m_S) (a0 : Nat) (p1 : Int32) (p2 : Int32) : Option (Except String Int32) := m_gd (m_ok Z a0 8) (m_bt (f_X8_kindAt Z S a0 p1) (fun b3 => m_gd (m_ok Z b3 1) (m_b1 (f_X1_contentAt Z S b3 p2) (fun v7 => some (.ok v7)))))
abbrev rm_X8_content : Room := { frames := 7, cells := 1, slots := 6, locals := 103 }
theorem hd_X8_content : yX8_content.cls = RX8 ∧ yX8_content.cls ≠ "java/lang/invoke/MethodHandle" ∧ yX8_content.cls ≠ "java/lang/invoke/VarHandle" ∧ (parseMethodDescriptor yX8_content.desc).map (fun d => d.parameters.length) = some 2 := by decide +kernel
set_option maxHeartbeats 4000000 in
set_option maxRecDepth 100000 in
theorem c_X8_content {l : Launch} (hl : l.stackTraces = false) {Z : m_Z} {S : m_S} {a0 : Nat} {p1 : Int32} {p2 : Int32} {rZ9 : Except String Int32} (hf : f_X8_content Z S a0 p1 p2 = some rZ9) : m_Cx l yX8_content (.code yX8_content cX8_content 3 (some .int) :: m_ws) rm_X8_content 1 6 (fun f => [.ref a0, .int p1, .int p2]) Z S (m_rv (fun r => some (.int r)) rZ9) S := by
  unfold f_X8_content at hf
  refine m_entX hl (by decide) (fun _ => Nat.le_of_ble_eq_true rfl) (fun x C F => ?_)
  have C : m_H x l RX8 cX8_content 3 rm_X8_content := C
  show m_G x Z S 3 0 0 0 [(0, .ref a0), (1, .int p1), (2, .int p2)] []
  refine r_aload_n (q := 1) C 0 dX8_content_0 rfl rfl ?_
  refine r_iload_n (q := 2) C 1 dX8_content_1 rfl rfl ?_
  obtain ⟨g1, hf⟩ := m_gd_of hf
  rcases m_bt_of hf with ⟨b3, h2, hf⟩ | ⟨x4, h2, hf⟩
  · refine x_okV (q := 5) (mcQ := 1) (msQ := 6) (retQ := (some .int)) (st1 := [.ref b3]) C (c_X8_kindAt hl h2) rfl w_581 w_582 w_1314 w_2 w_583 hd_X8_kindAt rfl (by decide) g1 rfl rfl rfl ⟨(Nat.le_of_ble_eq_true rfl), (Nat.le_of_ble_eq_true rfl)⟩ (Nat.le_of_ble_eq_true rfl) ⟨(Nat.le_of_ble_eq_true rfl), (Nat.le_of_ble_eq_true rfl)⟩ dX8_content_2 rfl (Nat.le_of_ble_eq_true rfl) (Nat.le_of_ble_eq_true rfl) rfl ?_
    refine r_iload_n (q := 6) C 2 dX8_content_5 rfl rfl ?_
    obtain ⟨g5, hf⟩ := m_gd_of hf
    obtain ⟨v7, h6, hf⟩ := m_b1_of hf
    refine r_callV (mc := 0) (ms := 0) (q := 9) (st1 := [.int v7]) C (c_X1_contentAt hl h6) rfl w_584 w_483 w_484 w_5 w_485 hd_X1_contentAt rfl (by decide) g5 rfl rfl rfl ⟨(Nat.le_of_ble_eq_true rfl), (Nat.le_of_ble_eq_true rfl)⟩ (Nat.le_of_ble_eq_true rfl) ⟨(Nat.le_of_ble_eq_true rfl), (Nat.le_of_ble_eq_true rfl)⟩ dX8_content_6 rfl rfl ?_
    obtain rfl := m_so1 hf
    exact x_iret C F (Nat.le_of_ble_eq_true rfl) (Nat.le_of_ble_eq_true rfl) dX8_content_9
  · subst hf
    exact x_erV C (c_X8_kindAt hl h2) F rfl w_581 w_582 w_1314 w_2 w_583 hd_X8_kindAt rfl (by decide) g1 rfl rfl rfl ⟨(Nat.le_of_ble_eq_true rfl), (Nat.le_of_ble_eq_true rfl)⟩ (Nat.le_of_ble_eq_true rfl) ⟨(Nat.le_of_ble_eq_true rfl), (Nat.le_of_ble_eq_true rfl)⟩ dX8_content_2 rfl (Nat.le_of_ble_eq_true rfl) (Nat.le_of_ble_eq_true rfl)
def f_X8_displayCase (Z : m_Z) (S : m_S) (a0 : Nat) (p1 : Int32) (p2 : Int32) : Option (Except String Int32) := m_gd (m_ok Z a0 8) (m_bt (f_X8_vitrineAt Z S a0 p1) (fun b3 => m_bt (f_X8_logbookAt Z S a0 p1) (fun b6 => (if p2 = Int32.ofNat 0 then m_gd (m_ok Z b3 7) (some (.ok (S.1 b3 0))) else (if p2 = Int32.ofNat 1 then m_gd (m_ok Z b3 7) (some (.ok (S.1 b3 1))) else (if p2 = Int32.ofNat 2 then m_gd (m_ok Z b3 7) (some (.ok (S.1 b3 4))) else (if p2 = Int32.ofNat 3 then m_gd (m_ok Z b3 7) (m_b1 (f_X7_humidity Z S b3) (fun v17 => some (.ok v17))) else (if p2 = Int32.ofNat 4 then m_gd (m_ok Z b3 7) (some (.ok (S.1 b3 5))) else (if p2 = Int32.ofNat 5 then m_gd (m_ok Z b3 7) (m_b1 (f_X7_moistureOfCassettes Z S b3) (fun v23 => some (.ok v23))) else (if p2 = Int32.ofNat 6 then m_gd (m_ok Z b3 7) (some (.ok (S.1 b3 2))) else (if p2 = Int32.ofNat 7 then m_gd (m_ok Z b3 7) (some (.ok (S.1 b3 3))) else (if p2 = Int32.ofNat 8 then m_gd (m_ok Z b6 2) (some (.ok (S.1 b6 4))) else (if p2 = Int32.ofNat 9 then m_gd (m_ok Z b6 2) (some (.ok (S.1 b6 5))) else (if p2 = Int32.ofNat 10 then m_gd (m_ok Z b6 2) (some (.ok (S.1 b6 6))) else some (.error "java/lang/IllegalArgumentException")))))))))))))))
abbrev rm_X8_displayCase : Room := { frames := 7, cells := 3, slots := 18, locals := 103 }
theorem hd_X8_displayCase : yX8_displayCase.cls = RX8 ∧ yX8_displayCase.cls ≠ "java/lang/invoke/MethodHandle" ∧ yX8_displayCase.cls ≠ "java/lang/invoke/VarHandle" ∧ (parseMethodDescriptor yX8_displayCase.desc).map (fun d => d.parameters.length) = some 2 := by decide +kernel
set_option maxHeartbeats 4000000 in
set_option maxRecDepth 100000 in
theorem c_X8_displayCase {l : Launch} (hl : l.stackTraces = false) {Z : m_Z} {S : m_S} {a0 : Nat} {p1 : Int32} {p2 : Int32} {rZ9 : Except String Int32} (hf : f_X8_displayCase Z S a0 p1 p2 = some rZ9) : m_Cx l yX8_displayCase (.code yX8_displayCase cX8_displayCase 5 (some .int) :: m_ws) rm_X8_displayCase 3 18 (fun f => [.ref a0, .int p1, .int p2]) Z S (m_rv (fun r => some (.int r)) rZ9) S := by
  unfold f_X8_displayCase at hf
  refine m_entX hl (by decide) (fun _ => Nat.le_of_ble_eq_true rfl) (fun x C F => ?_)
  have C : m_H x l RX8 cX8_displayCase 5 rm_X8_displayCase := C
  show m_G x Z S 5 0 0 0 [(0, .ref a0), (1, .int p1), (2, .int p2)] []
  refine r_aload_n (q := 1) C 0 dX8_displayCase_0 rfl rfl ?_
  refine r_iload_n (q := 2) C 1 dX8_displayCase_1 rfl rfl ?_
  obtain ⟨g1, hf⟩ := m_gd_of hf
  rcases m_bt_of hf with ⟨b3, h2, hf⟩ | ⟨x4, h2, hf⟩
  · refine x_okV (q := 5) (mcQ := 3) (msQ := 18) (retQ := (some .int)) (st1 := [.ref b3]) C (c_X8_vitrineAt hl h2) rfl w_599 w_600 w_1315 w_2 w_601 hd_X8_vitrineAt rfl (by decide) g1 rfl rfl rfl ⟨(Nat.le_of_ble_eq_true rfl), (Nat.le_of_ble_eq_true rfl)⟩ (Nat.le_of_ble_eq_true rfl) ⟨(Nat.le_of_ble_eq_true rfl), (Nat.le_of_ble_eq_true rfl)⟩ dX8_displayCase_2 rfl (Nat.le_of_ble_eq_true rfl) (Nat.le_of_ble_eq_true rfl) rfl ?_
    refine r_astore_n (q := 6) (L' := [(3, .ref b3), (0, .ref a0), (1, .int p1), (2, .int p2)]) C dX8_displayCase_5 rfl rfl (by decide) rfl ?_
    refine r_aload_n (q := 7) C 1 dX8_displayCase_6 rfl rfl ?_
    refine r_iload_n (q := 8) C 2 dX8_displayCase_7 rfl rfl ?_
    rcases m_bt_of hf with ⟨b6, h5, hf⟩ | ⟨x7, h5, hf⟩
    · refine x_okV (q := 11) (mcQ := 3) (msQ := 18) (retQ := (some .int)) (st1 := [.ref b6]) C (c_X8_logbookAt hl h5) rfl w_602 w_603 w_1316 w_2 w_604 hd_X8_logbookAt rfl (by decide) g1 rfl rfl rfl ⟨(Nat.le_of_ble_eq_true rfl), (Nat.le_of_ble_eq_true rfl)⟩ (Nat.le_of_ble_eq_true rfl) ⟨(Nat.le_of_ble_eq_true rfl), (Nat.le_of_ble_eq_true rfl)⟩ dX8_displayCase_8 rfl (Nat.le_of_ble_eq_true rfl) (Nat.le_of_ble_eq_true rfl) rfl ?_
      refine r_astore (q := 13) (L' := [(4, .ref b6), (3, .ref b3), (0, .ref a0), (1, .int p1), (2, .int p2)]) C dX8_displayCase_11 rfl (by decide) rfl ?_
      refine r_iload_n (q := 14) C 4 dX8_displayCase_13 rfl rfl ?_
      by_cases c8 : p2 = Int32.ofNat 0
      · replace hf := m_if1 hf c8
        refine r_tsw (N := 0) (t := 72) (v := 0) C dX8_displayCase_14 c8 (by decide) (by decide) rfl (by decide) ?_
        refine r_aload_n (q := 73) C 1 dX8_displayCase_72 rfl rfl ?_
        obtain ⟨g9, hf⟩ := m_gd_of hf
        refine gf_X8_164 (q := 76) C dX8_displayCase_73 g9 rfl ?_
        obtain rfl := m_so1 hf
        exact x_iret C F (Nat.le_of_ble_eq_true rfl) (Nat.le_of_ble_eq_true rfl) dX8_displayCase_76
      · replace hf := m_if0 hf c8
        by_cases c10 : p2 = Int32.ofNat 1
        · replace hf := m_if1 hf c10
          refine r_tsw (N := 0) (t := 77) (v := 1) C dX8_displayCase_14 c10 (by decide) (by decide) rfl (by decide) ?_
          refine r_aload_n (q := 78) C 1 dX8_displayCase_77 rfl rfl ?_
          obtain ⟨g11, hf⟩ := m_gd_of hf
          refine gf_X8_167 (q := 81) C dX8_displayCase_78 g11 rfl ?_
          obtain rfl := m_so1 hf
          exact x_iret C F (Nat.le_of_ble_eq_true rfl) (Nat.le_of_ble_eq_true rfl) dX8_displayCase_81
        · replace hf := m_if0 hf c10
          by_cases c12 : p2 = Int32.ofNat 2
          · replace hf := m_if1 hf c12
            refine r_tsw (N := 0) (t := 82) (v := 2) C dX8_displayCase_14 c12 (by decide) (by decide) rfl (by decide) ?_
            refine r_aload_n (q := 83) C 1 dX8_displayCase_82 rfl rfl ?_
            obtain ⟨g13, hf⟩ := m_gd_of hf
            refine gf_X8_170 (q := 86) C dX8_displayCase_83 g13 rfl ?_
            obtain rfl := m_so1 hf
            exact x_iret C F (Nat.le_of_ble_eq_true rfl) (Nat.le_of_ble_eq_true rfl) dX8_displayCase_86
          · replace hf := m_if0 hf c12
            by_cases c14 : p2 = Int32.ofNat 3
            · replace hf := m_if1 hf c14
              refine r_tsw (N := 0) (t := 87) (v := 3) C dX8_displayCase_14 c14 (by decide) (by decide) rfl (by decide) ?_
              refine r_aload_n (q := 88) C 1 dX8_displayCase_87 rfl rfl ?_
              obtain ⟨g15, hf⟩ := m_gd_of hf
              obtain ⟨v17, h16, hf⟩ := m_b1_of hf
              refine r_callV (mc := 0) (ms := 0) (q := 91) (st1 := [.int v17]) C (c_X7_humidity hl h16) rfl w_605 w_606 w_607 w_6 w_608 hd_X7_humidity rfl (by decide) g15 rfl rfl rfl ⟨(Nat.le_of_ble_eq_true rfl), (Nat.le_of_ble_eq_true rfl)⟩ (Nat.le_of_ble_eq_true rfl) ⟨(Nat.le_of_ble_eq_true rfl), (Nat.le_of_ble_eq_true rfl)⟩ dX8_displayCase_88 rfl rfl ?_
              obtain rfl := m_so1 hf
              exact x_iret C F (Nat.le_of_ble_eq_true rfl) (Nat.le_of_ble_eq_true rfl) dX8_displayCase_91
            · replace hf := m_if0 hf c14
              by_cases c18 : p2 = Int32.ofNat 4
              · replace hf := m_if1 hf c18
                refine r_tsw (N := 0) (t := 92) (v := 4) C dX8_displayCase_14 c18 (by decide) (by decide) rfl (by decide) ?_
                refine r_aload_n (q := 93) C 1 dX8_displayCase_92 rfl rfl ?_
                obtain ⟨g19, hf⟩ := m_gd_of hf
                refine gf_X8_175 (q := 96) C dX8_displayCase_93 g19 rfl ?_
                obtain rfl := m_so1 hf
                exact x_iret C F (Nat.le_of_ble_eq_true rfl) (Nat.le_of_ble_eq_true rfl) dX8_displayCase_96
              · replace hf := m_if0 hf c18
                by_cases c20 : p2 = Int32.ofNat 5
                · replace hf := m_if1 hf c20
                  refine r_tsw (N := 0) (t := 97) (v := 5) C dX8_displayCase_14 c20 (by decide) (by decide) rfl (by decide) ?_
                  refine r_aload_n (q := 98) C 1 dX8_displayCase_97 rfl rfl ?_
                  obtain ⟨g21, hf⟩ := m_gd_of hf
                  obtain ⟨v23, h22, hf⟩ := m_b1_of hf
                  refine r_callV (mc := 0) (ms := 0) (q := 101) (st1 := [.int v23]) C (c_X7_moistureOfCassettes hl h22) rfl w_609 w_518 w_519 w_6 w_520 hd_X7_moistureOfCassettes rfl (by decide) g21 rfl rfl rfl ⟨(Nat.le_of_ble_eq_true rfl), (Nat.le_of_ble_eq_true rfl)⟩ (Nat.le_of_ble_eq_true rfl) ⟨(Nat.le_of_ble_eq_true rfl), (Nat.le_of_ble_eq_true rfl)⟩ dX8_displayCase_98 rfl rfl ?_
                  obtain rfl := m_so1 hf
                  exact x_iret C F (Nat.le_of_ble_eq_true rfl) (Nat.le_of_ble_eq_true rfl) dX8_displayCase_101
                · replace hf := m_if0 hf c20
                  by_cases c24 : p2 = Int32.ofNat 6
                  · replace hf := m_if1 hf c24
                    refine r_tsw (N := 0) (t := 102) (v := 6) C dX8_displayCase_14 c24 (by decide) (by decide) rfl (by decide) ?_
                    refine r_aload_n (q := 103) C 1 dX8_displayCase_102 rfl rfl ?_
                    obtain ⟨g25, hf⟩ := m_gd_of hf
                    refine gf_X8_181 (q := 106) C dX8_displayCase_103 g25 rfl ?_
                    obtain rfl := m_so1 hf
                    exact x_iret C F (Nat.le_of_ble_eq_true rfl) (Nat.le_of_ble_eq_true rfl) dX8_displayCase_106
                  · replace hf := m_if0 hf c24
                    by_cases c26 : p2 = Int32.ofNat 7
                    · replace hf := m_if1 hf c26
                      refine r_tsw (N := 0) (t := 107) (v := 7) C dX8_displayCase_14 c26 (by decide) (by decide) rfl (by decide) ?_
                      refine r_aload_n (q := 108) C 1 dX8_displayCase_107 rfl rfl ?_
                      obtain ⟨g27, hf⟩ := m_gd_of hf
                      refine gf_X8_184 (q := 111) C dX8_displayCase_108 g27 rfl ?_
                      obtain rfl := m_so1 hf
                      exact x_iret C F (Nat.le_of_ble_eq_true rfl) (Nat.le_of_ble_eq_true rfl) dX8_displayCase_111
                    · replace hf := m_if0 hf c26
                      by_cases c28 : p2 = Int32.ofNat 8
                      · replace hf := m_if1 hf c28
                        refine r_tsw (N := 0) (t := 112) (v := 8) C dX8_displayCase_14 c28 (by decide) (by decide) rfl (by decide) ?_
                        refine r_aload (q := 114) C 0 dX8_displayCase_112 rfl rfl ?_
                        obtain ⟨g29, hf⟩ := m_gd_of hf
                        refine gf_X8_187 (q := 117) C dX8_displayCase_114 g29 rfl ?_
                        obtain rfl := m_so1 hf
                        exact x_iret C F (Nat.le_of_ble_eq_true rfl) (Nat.le_of_ble_eq_true rfl) dX8_displayCase_117
                      · replace hf := m_if0 hf c28
                        by_cases c30 : p2 = Int32.ofNat 9
                        · replace hf := m_if1 hf c30
                          refine r_tsw (N := 0) (t := 118) (v := 9) C dX8_displayCase_14 c30 (by decide) (by decide) rfl (by decide) ?_
                          refine r_aload (q := 120) C 0 dX8_displayCase_118 rfl rfl ?_
                          obtain ⟨g31, hf⟩ := m_gd_of hf
                          refine gf_X8_192 (q := 123) C dX8_displayCase_120 g31 rfl ?_
                          obtain rfl := m_so1 hf
                          exact x_iret C F (Nat.le_of_ble_eq_true rfl) (Nat.le_of_ble_eq_true rfl) dX8_displayCase_123
                        · replace hf := m_if0 hf c30
                          by_cases c32 : p2 = Int32.ofNat 10
                          · replace hf := m_if1 hf c32
                            refine r_tsw (N := 0) (t := 124) (v := 10) C dX8_displayCase_14 c32 (by decide) (by decide) rfl (by decide) ?_
                            refine r_aload (q := 126) C 0 dX8_displayCase_124 rfl rfl ?_
                            obtain ⟨g33, hf⟩ := m_gd_of hf
                            refine gf_X8_195 (q := 129) C dX8_displayCase_126 g33 rfl ?_
                            obtain rfl := m_so1 hf
                            exact x_iret C F (Nat.le_of_ble_eq_true rfl) (Nat.le_of_ble_eq_true rfl) dX8_displayCase_129
                          · replace hf := m_if0 hf c32
                            refine r_tswO (t := 130) (N := 10) C dX8_displayCase_14 rfl (m_tS (m_tS (m_tS (m_tS (m_tS (m_tS (m_tS (m_tS (m_tS (m_tS (m_tS m_t0 c8) c10) c12) c14) c18) c20) c24) c26) c28) c30) c32) (by decide) ?_
                            obtain rfl := m_so1 hf
                            exact x_thrA (text := "what is 0 to 10") (ti := 18) C F w_553 w_21 (by decide +kernel) dX8_displayCase_130 dX8_displayCase_133 dX8_displayCase_134 dX8_displayCase_136 dX8_displayCase_139 (Nat.le_of_ble_eq_true rfl) (Nat.le_of_ble_eq_true rfl) (Nat.le_of_ble_eq_true rfl) (Nat.le_of_ble_eq_true rfl) (Nat.le_of_ble_eq_true rfl) (Nat.le_of_ble_eq_true rfl)
    · subst hf
      exact x_erV C (c_X8_logbookAt hl h5) F rfl w_602 w_603 w_1316 w_2 w_604 hd_X8_logbookAt rfl (by decide) g1 rfl rfl rfl ⟨(Nat.le_of_ble_eq_true rfl), (Nat.le_of_ble_eq_true rfl)⟩ (Nat.le_of_ble_eq_true rfl) ⟨(Nat.le_of_ble_eq_true rfl), (Nat.le_of_ble_eq_true rfl)⟩ dX8_displayCase_8 rfl (Nat.le_of_ble_eq_true rfl) (Nat.le_of_ble_eq_true rfl)
  · subst hf
    exact x_erV C (c_X8_vitrineAt hl h2) F rfl w_599 w_600 w_1315 w_2 w_601 hd_X8_vitrineAt rfl (by decide) g1 rfl rfl rfl ⟨(Nat.le_of_ble_eq_true rfl), (Nat.le_of_ble_eq_true rfl)⟩ (Nat.le_of_ble_eq_true rfl) ⟨(Nat.le_of_ble_eq_true rfl), (Nat.le_of_ble_eq_true rfl)⟩ dX8_displayCase_2 rfl (Nat.le_of_ble_eq_true rfl) (Nat.le_of_ble_eq_true rfl)
def f_X8_errorCode (Z : m_Z) (S : m_S) (a0 : Nat) : Option (Int32) := m_gd (m_ok Z a0 8) (m_b1 (S.2.2 a0 0) (fun b2 => m_gd (m_ok Z b2 3) (some (S.1 b2 2))))
abbrev rm_X8_errorCode : Room := { frames := 0, cells := 0, slots := 0, locals := 0 }
theorem hd_X8_errorCode : yX8_errorCode.cls = RX8 ∧ yX8_errorCode.cls ≠ "java/lang/invoke/MethodHandle" ∧ yX8_errorCode.cls ≠ "java/lang/invoke/VarHandle" ∧ (parseMethodDescriptor yX8_errorCode.desc).map (fun d => d.parameters.length) = some 0 := by decide +kernel
set_option maxHeartbeats 4000000 in
set_option maxRecDepth 100000 in
theorem c_X8_errorCode {l : Launch} (hl : l.stackTraces = false) {Z : m_Z} {S : m_S} {a0 : Nat} {rZ9 : Int32} (hf : f_X8_errorCode Z S a0 = some rZ9) : m_Ct l yX8_errorCode (.code yX8_errorCode cX8_errorCode 1 (some .int) :: m_ws) rm_X8_errorCode (fun f => [.ref a0]) Z S (some (.int rZ9)) S := by
  unfold f_X8_errorCode at hf
  refine m_ent hl (by decide) (fun _ => Nat.le_of_ble_eq_true rfl) (fun x C F => ?_)
  have C : m_H x l RX8 cX8_errorCode 1 rm_X8_errorCode := C
  show m_G x Z S 1 0 0 0 [(0, .ref a0)] []
  refine r_aload_n (q := 1) C 0 dX8_errorCode_0 rfl rfl ?_
  obtain ⟨g1, hf⟩ := m_gd_of hf
  obtain ⟨b2, e3, hf⟩ := m_b1_of hf
  refine gf_X8_10 (q := 4) C dX8_errorCode_1 g1 e3 rfl ?_
  obtain ⟨g4, hf⟩ := m_gd_of hf
  refine gf_X8_89 (q := 7) C dX8_errorCode_4 g4 rfl ?_
  obtain rfl := m_so1 hf
  exact r_iret C F dX8_errorCode_7
def f_X8_errorPosition (Z : m_Z) (S : m_S) (a0 : Nat) : Option (Int32) := m_gd (m_ok Z a0 8) (m_b1 (S.2.2 a0 0) (fun b2 => m_gd (m_ok Z b2 3) (some (S.1 b2 3))))
abbrev rm_X8_errorPosition : Room := { frames := 0, cells := 0, slots := 0, locals := 0 }
theorem hd_X8_errorPosition : yX8_errorPosition.cls = RX8 ∧ yX8_errorPosition.cls ≠ "java/lang/invoke/MethodHandle" ∧ yX8_errorPosition.cls ≠ "java/lang/invoke/VarHandle" ∧ (parseMethodDescriptor yX8_errorPosition.desc).map (fun d => d.parameters.length) = some 0 := by decide +kernel
set_option maxHeartbeats 4000000 in
set_option maxRecDepth 100000 in
theorem c_X8_errorPosition {l : Launch} (hl : l.stackTraces = false) {Z : m_Z} {S : m_S} {a0 : Nat} {rZ9 : Int32} (hf : f_X8_errorPosition Z S a0 = some rZ9) : m_Ct l yX8_errorPosition (.code yX8_errorPosition cX8_errorPosition 1 (some .int) :: m_ws) rm_X8_errorPosition (fun f => [.ref a0]) Z S (some (.int rZ9)) S := by
  unfold f_X8_errorPosition at hf
  refine m_ent hl (by decide) (fun _ => Nat.le_of_ble_eq_true rfl) (fun x C F => ?_)
  have C : m_H x l RX8 cX8_errorPosition 1 rm_X8_errorPosition := C
  show m_G x Z S 1 0 0 0 [(0, .ref a0)] []
  refine r_aload_n (q := 1) C 0 dX8_errorPosition_0 rfl rfl ?_
  obtain ⟨g1, hf⟩ := m_gd_of hf
  obtain ⟨b2, e3, hf⟩ := m_b1_of hf
  refine gf_X8_10 (q := 4) C dX8_errorPosition_1 g1 e3 rfl ?_
  obtain ⟨g4, hf⟩ := m_gd_of hf
  refine gf_X8_92 (q := 7) C dX8_errorPosition_4 g4 rfl ?_
  obtain rfl := m_so1 hf
  exact r_iret C F dX8_errorPosition_7
def f_X8_exchange (Z : m_Z) (S : m_S) (a0 : Nat) (p1 : Int32) (p2 : Int32) : Option ((Except String Int32) × m_S) := m_gd (m_ok Z a0 8) (m_btw (f_X8_caseOf Z S a0 p1) S (fun v3 => m_btw (f_X8_requireHumidity Z S a0 p2) S (fun _u => m_btw (f_X8_vitrineAt Z S a0 v3) S (fun b8 => m_btw (f_X8_logbookAt Z S a0 v3) S (fun b11 => m_gd (m_ok Z b8 7) (m_b1 (f_X7_indexOf Z S b8 p1) (fun v15 => m_gd (m_ok Z b11 2) (m_b1 (f_X7_moistureOf Z S b8 v15) (fun v18 => m_lt (m_pJ S b11 3 ((S.2.1 b11 3) + v18.toInt64)) (fun S19 => m_b1 (S19.2.2 a0 3) (fun b21 => m_gd (m_ok Z b21 6) (m_bw (f_X7_recondition Z S19 b8 v15 (S19.1 b21 1) p2) (fun _u S25 => m_b1 (f_X7_moistureOf Z S25 b8 v15) (fun v27 => m_lt (m_pJ S25 b11 2 ((S25.2.1 b11 2) + v27.toInt64)) (fun S28 => m_b1 (S28.2.2 a0 3) (fun b30 => m_gd (m_ok Z b30 6) (m_bw (f_X6_takeSerial Z S28 b30) (fun v35 S34 => some ((.ok v35), S34)))))))))))))))))))
abbrev rm_X8_exchange : Room := { frames := 7, cells := 4, slots := 24, locals := 133 }
theorem hd_X8_exchange : yX8_exchange.cls = RX8 ∧ yX8_exchange.cls ≠ "java/lang/invoke/MethodHandle" ∧ yX8_exchange.cls ≠ "java/lang/invoke/VarHandle" ∧ (parseMethodDescriptor yX8_exchange.desc).map (fun d => d.parameters.length) = some 2 := by decide +kernel
set_option maxHeartbeats 4000000 in
set_option maxRecDepth 100000 in
theorem c_X8_exchange {l : Launch} (hl : l.stackTraces = false) {Z : m_Z} {S : m_S} {a0 : Nat} {p1 : Int32} {p2 : Int32} {rZ9 : Except String Int32} {SZ9 : m_S} (hf : f_X8_exchange Z S a0 p1 p2 = some (rZ9, SZ9)) : m_Cx l yX8_exchange (.code yX8_exchange cX8_exchange 7 (some .int) :: m_ws) rm_X8_exchange 4 24 (fun f => [.ref a0, .int p1, .int p2]) Z S (m_rv (fun r => some (.int r)) rZ9) SZ9 := by
  unfold f_X8_exchange at hf
  refine m_entX hl (by decide) (fun _ => Nat.le_of_ble_eq_true rfl) (fun x C F => ?_)
  have C : m_H x l RX8 cX8_exchange 7 rm_X8_exchange := C
  show m_G x Z S 7 0 0 0 [(0, .ref a0), (1, .int p1), (2, .int p2)] []
  refine r_aload_n (q := 1) C 0 dX8_exchange_0 rfl rfl ?_
  refine r_iload_n (q := 2) C 1 dX8_exchange_1 rfl rfl ?_
  obtain ⟨g1, hf⟩ := m_gd_of hf
  rcases m_btw_of hf with ⟨v3, h2, hf⟩ | ⟨x4, h2, hf⟩
  · refine x_okV (q := 5) (mcQ := 4) (msQ := 24) (retQ := (some .int)) (st1 := [.int v3]) C (c_X8_caseOf hl h2) rfl w_752 w_720 w_721 w_2 w_722 hd_X8_caseOf rfl (by decide) g1 rfl rfl rfl ⟨(Nat.le_of_ble_eq_true rfl), (Nat.le_of_ble_eq_true rfl)⟩ (Nat.le_of_ble_eq_true rfl) ⟨(Nat.le_of_ble_eq_true rfl), (Nat.le_of_ble_eq_true rfl)⟩ dX8_exchange_2 rfl (Nat.le_of_ble_eq_true rfl) (Nat.le_of_ble_eq_true rfl) rfl ?_
    refine r_istore_n (q := 6) (L' := [(3, .int v3), (0, .ref a0), (1, .int p1), (2, .int p2)]) C dX8_exchange_5 rfl rfl (by decide) rfl ?_
    refine r_aload_n (q := 7) C 1 dX8_exchange_6 rfl rfl ?_
    refine r_iload_n (q := 8) C 3 dX8_exchange_7 rfl rfl ?_
    rcases m_btw_of hf with ⟨_u, h5, hf⟩ | ⟨x6, h5, hf⟩
    · refine x_okV (q := 11) (mcQ := 4) (msQ := 24) (retQ := (some .int)) (st1 := []) C (c_X8_requireHumidity hl h5) rfl w_685 w_686 w_1318 w_2 w_687 hd_X8_requireHumidity rfl (by decide) g1 rfl rfl rfl ⟨(Nat.le_of_ble_eq_true rfl), (Nat.le_of_ble_eq_true rfl)⟩ (Nat.le_of_ble_eq_true rfl) ⟨(Nat.le_of_ble_eq_true rfl), (Nat.le_of_ble_eq_true rfl)⟩ dX8_exchange_8 rfl (Nat.le_of_ble_eq_true rfl) (Nat.le_of_ble_eq_true rfl) rfl ?_
      refine r_aload_n (q := 12) C 1 dX8_exchange_11 rfl rfl ?_
      refine r_iload_n (q := 13) C 0 dX8_exchange_12 rfl rfl ?_
      rcases m_btw_of hf with ⟨b8, h7, hf⟩ | ⟨x9, h7, hf⟩
      · refine x_okV (q := 16) (mcQ := 4) (msQ := 24) (retQ := (some .int)) (st1 := [.ref b8]) C (c_X8_vitrineAt hl h7) rfl w_599 w_600 w_1315 w_2 w_601 hd_X8_vitrineAt rfl (by decide) g1 rfl rfl rfl ⟨(Nat.le_of_ble_eq_true rfl), (Nat.le_of_ble_eq_true rfl)⟩ (Nat.le_of_ble_eq_true rfl) ⟨(Nat.le_of_ble_eq_true rfl), (Nat.le_of_ble_eq_true rfl)⟩ dX8_exchange_13 rfl (Nat.le_of_ble_eq_true rfl) (Nat.le_of_ble_eq_true rfl) rfl ?_
        refine r_astore (q := 18) (L' := [(4, .ref b8), (3, .int v3), (0, .ref a0), (1, .int p1), (2, .int p2)]) C dX8_exchange_16 rfl (by decide) rfl ?_
        refine r_aload_n (q := 19) C 2 dX8_exchange_18 rfl rfl ?_
        refine r_iload_n (q := 20) C 1 dX8_exchange_19 rfl rfl ?_
        rcases m_btw_of hf with ⟨b11, h10, hf⟩ | ⟨x12, h10, hf⟩
        · refine x_okV (q := 23) (mcQ := 4) (msQ := 24) (retQ := (some .int)) (st1 := [.ref b11]) C (c_X8_logbookAt hl h10) rfl w_602 w_603 w_1316 w_2 w_604 hd_X8_logbookAt rfl (by decide) g1 rfl rfl rfl ⟨(Nat.le_of_ble_eq_true rfl), (Nat.le_of_ble_eq_true rfl)⟩ (Nat.le_of_ble_eq_true rfl) ⟨(Nat.le_of_ble_eq_true rfl), (Nat.le_of_ble_eq_true rfl)⟩ dX8_exchange_20 rfl (Nat.le_of_ble_eq_true rfl) (Nat.le_of_ble_eq_true rfl) rfl ?_
          refine r_astore (q := 25) (L' := [(5, .ref b11), (4, .ref b8), (3, .int v3), (0, .ref a0), (1, .int p1), (2, .int p2)]) C dX8_exchange_23 rfl (by decide) rfl ?_
          refine r_aload (q := 27) C 1 dX8_exchange_25 rfl rfl ?_
          refine r_iload_n (q := 28) C 4 dX8_exchange_27 rfl rfl ?_
          obtain ⟨g13, hf⟩ := m_gd_of hf
          obtain ⟨v15, h14, hf⟩ := m_b1_of hf
          refine r_callV (mc := 0) (ms := 0) (q := 31) (st1 := [.int v15]) C (c_X7_indexOf hl h14) rfl w_753 w_728 w_729 w_6 w_730 hd_X7_indexOf rfl (by decide) g13 rfl rfl rfl ⟨(Nat.le_of_ble_eq_true rfl), (Nat.le_of_ble_eq_true rfl)⟩ (Nat.le_of_ble_eq_true rfl) ⟨(Nat.le_of_ble_eq_true rfl), (Nat.le_of_ble_eq_true rfl)⟩ dX8_exchange_28 rfl rfl ?_
          refine r_istore (q := 33) (L' := [(6, .int v15), (5, .ref b11), (4, .ref b8), (3, .int v3), (0, .ref a0), (1, .int p1), (2, .int p2)]) C dX8_exchange_31 rfl (by decide) rfl ?_
          refine r_aload (q := 35) C 1 dX8_exchange_33 rfl rfl ?_
          refine r_dup (q := 36) C dX8_exchange_35 rfl rfl ?_
          obtain ⟨g16, hf⟩ := m_gd_of hf
          refine gf_X8_210 (q := 39) C dX8_exchange_36 g16 rfl ?_
          refine r_aload (q := 41) C 2 dX8_exchange_39 rfl rfl ?_
          refine r_iload (q := 43) C 0 dX8_exchange_41 rfl rfl ?_
          obtain ⟨v18, h17, hf⟩ := m_b1_of hf
          refine r_callV (mc := 0) (ms := 0) (q := 46) (st1 := [.int v18, .long (S.2.1 b11 3), .ref b11]) C (c_X7_moistureOf hl h17) rfl w_754 w_755 w_756 w_6 w_757 hd_X7_moistureOf rfl (by decide) g13 rfl rfl rfl ⟨(Nat.le_of_ble_eq_true rfl), (Nat.le_of_ble_eq_true rfl)⟩ (Nat.le_of_ble_eq_true rfl) ⟨(Nat.le_of_ble_eq_true rfl), (Nat.le_of_ble_eq_true rfl)⟩ dX8_exchange_43 rfl rfl ?_
          refine r_i2l (q := 47) C dX8_exchange_46 rfl ?_
          refine r_ladd (q := 48) C dX8_exchange_47 rfl ?_
          obtain ⟨S19, e20, hf⟩ := m_lt_of hf
          refine pf_X8_210 (q := 51) C dX8_exchange_48 g16 e20 rfl ?_
          refine r_aload (q := 53) C 2 dX8_exchange_51 rfl rfl ?_
          refine r_iload (q := 55) C 0 dX8_exchange_53 rfl rfl ?_
          refine r_aload_n (q := 56) C 4 dX8_exchange_55 rfl rfl ?_
          obtain ⟨b21, e22, hf⟩ := m_b1_of hf
          refine gf_X8_29 (q := 59) C dX8_exchange_56 g1 e22 rfl ?_
          obtain ⟨g23, hf⟩ := m_gd_of hf
          refine gf_X8_114 (q := 62) C dX8_exchange_59 g23 rfl ?_
          refine r_iload_n (q := 63) C 6 dX8_exchange_62 rfl rfl ?_
          obtain ⟨_u, S25, h24, hf⟩ := m_bw_of hf
          refine r_callV (mc := 0) (ms := 0) (q := 66) (st1 := []) C (c_X7_recondition hl h24) rfl w_780 w_781 w_782 w_6 w_783 hd_X7_recondition rfl (by decide) g13 rfl rfl rfl ⟨(Nat.le_of_ble_eq_true rfl), (Nat.le_of_ble_eq_true rfl)⟩ (Nat.le_of_ble_eq_true rfl) ⟨(Nat.le_of_ble_eq_true rfl), (Nat.le_of_ble_eq_true rfl)⟩ dX8_exchange_63 rfl rfl ?_
          refine r_aload (q := 68) C 1 dX8_exchange_66 rfl rfl ?_
          refine r_dup (q := 69) C dX8_exchange_68 rfl rfl ?_
          refine gf_X8_207 (q := 72) C dX8_exchange_69 g16 rfl ?_
          refine r_aload (q := 74) C 2 dX8_exchange_72 rfl rfl ?_
          refine r_iload (q := 76) C 0 dX8_exchange_74 rfl rfl ?_
          obtain ⟨v27, h26, hf⟩ := m_b1_of hf
          refine r_callV (mc := 0) (ms := 0) (q := 79) (st1 := [.int v27, .long (S25.2.1 b11 2), .ref b11]) C (c_X7_moistureOf hl h26) rfl w_754 w_755 w_756 w_6 w_757 hd_X7_moistureOf rfl (by decide) g13 rfl rfl rfl ⟨(Nat.le_of_ble_eq_true rfl), (Nat.le_of_ble_eq_true rfl)⟩ (Nat.le_of_ble_eq_true rfl) ⟨(Nat.le_of_ble_eq_true rfl), (Nat.le_of_ble_eq_true rfl)⟩ dX8_exchange_76 rfl rfl ?_
          refine r_i2l (q := 80) C dX8_exchange_79 rfl ?_
          refine r_ladd (q := 81) C dX8_exchange_80 rfl ?_
          obtain ⟨S28, e29, hf⟩ := m_lt_of hf
          refine pf_X8_207 (q := 84) C dX8_exchange_81 g16 e29 rfl ?_
          refine r_aload_n (q := 85) C 4 dX8_exchange_84 rfl rfl ?_
          obtain ⟨b30, e31, hf⟩ := m_b1_of hf
          refine gf_X8_29 (q := 88) C dX8_exchange_85 g1 e31 rfl ?_
          obtain ⟨g32, hf⟩ := m_gd_of hf
          obtain ⟨v35, S34, h33, hf⟩ := m_bw_of hf
          refine r_callV (mc := 0) (ms := 0) (q := 91) (st1 := [.int v35]) C (c_X6_takeSerial hl h33) rfl w_741 w_742 w_743 w_8 w_744 hd_X6_takeSerial rfl (by decide) g32 rfl rfl rfl ⟨(Nat.le_of_ble_eq_true rfl), (Nat.le_of_ble_eq_true rfl)⟩ (Nat.le_of_ble_eq_true rfl) ⟨(Nat.le_of_ble_eq_true rfl), (Nat.le_of_ble_eq_true rfl)⟩ dX8_exchange_88 rfl rfl ?_
          obtain ⟨rfl, rfl⟩ := m_so2 hf
          exact x_iret C F (Nat.le_of_ble_eq_true rfl) (Nat.le_of_ble_eq_true rfl) dX8_exchange_91
        · obtain ⟨rfl, rfl⟩ := Prod.mk.inj hf
          exact x_erV C (c_X8_logbookAt hl h10) F rfl w_602 w_603 w_1316 w_2 w_604 hd_X8_logbookAt rfl (by decide) g1 rfl rfl rfl ⟨(Nat.le_of_ble_eq_true rfl), (Nat.le_of_ble_eq_true rfl)⟩ (Nat.le_of_ble_eq_true rfl) ⟨(Nat.le_of_ble_eq_true rfl), (Nat.le_of_ble_eq_true rfl)⟩ dX8_exchange_20 rfl (Nat.le_of_ble_eq_true rfl) (Nat.le_of_ble_eq_true rfl)
      · obtain ⟨rfl, rfl⟩ := Prod.mk.inj hf
        exact x_erV C (c_X8_vitrineAt hl h7) F rfl w_599 w_600 w_1315 w_2 w_601 hd_X8_vitrineAt rfl (by decide) g1 rfl rfl rfl ⟨(Nat.le_of_ble_eq_true rfl), (Nat.le_of_ble_eq_true rfl)⟩ (Nat.le_of_ble_eq_true rfl) ⟨(Nat.le_of_ble_eq_true rfl), (Nat.le_of_ble_eq_true rfl)⟩ dX8_exchange_13 rfl (Nat.le_of_ble_eq_true rfl) (Nat.le_of_ble_eq_true rfl)
    · obtain ⟨rfl, rfl⟩ := Prod.mk.inj hf
      exact x_erV C (c_X8_requireHumidity hl h5) F rfl w_685 w_686 w_1318 w_2 w_687 hd_X8_requireHumidity rfl (by decide) g1 rfl rfl rfl ⟨(Nat.le_of_ble_eq_true rfl), (Nat.le_of_ble_eq_true rfl)⟩ (Nat.le_of_ble_eq_true rfl) ⟨(Nat.le_of_ble_eq_true rfl), (Nat.le_of_ble_eq_true rfl)⟩ dX8_exchange_8 rfl (Nat.le_of_ble_eq_true rfl) (Nat.le_of_ble_eq_true rfl)
  · obtain ⟨rfl, rfl⟩ := Prod.mk.inj hf
    exact x_erV C (c_X8_caseOf hl h2) F rfl w_752 w_720 w_721 w_2 w_722 hd_X8_caseOf rfl (by decide) g1 rfl rfl rfl ⟨(Nat.le_of_ble_eq_true rfl), (Nat.le_of_ble_eq_true rfl)⟩ (Nat.le_of_ble_eq_true rfl) ⟨(Nat.le_of_ble_eq_true rfl), (Nat.le_of_ble_eq_true rfl)⟩ dX8_exchange_2 rfl (Nat.le_of_ble_eq_true rfl) (Nat.le_of_ble_eq_true rfl)
def F_X8_humidityIn_40 (Z : m_Z) (a0 : Nat) (p2 : Int32) (j28 : (m_S → Option ((Except String Int32) × m_S))) (lp31 : (Int32 × m_S) → Option ((Except String Int32) × m_S)) (p52 : (Int32 × m_S)) : Option ((Except String Int32) × m_S) := match p52 with
  | (v29, S30) => (if p2 ≤ v29 then j28 S30 else m_b1 (S30.2.2 a0 7) (fun b36 => m_b1 (S30.2.2 a0 6) (fun b38 => m_b1 (S30.2.2 a0 1) (fun b40 => m_gd (m_ok Z b38 4) (m_bw (f_X4_passHour Z S30 b38 b40) (fun v45 S44 => m_gd (m_ok Z b36 7) (m_bw (f_X7_passHour Z S44 b36 v45) (fun v49 S48 => m_lt (v29 + (1 : Int32)) (fun v50 => lp31 (v50, S48))))))))))
def f_X8_humidityIn (Z : m_Z) (S : m_S) (a0 : Nat) (p1 : Int32) (p2 : Int32) : Option ((Except String Int32) × m_S) := m_gd (m_ok Z a0 8) (m_btw (f_X8_vitrineAt Z S a0 p1) S (fun b3 => m_btw (f_X8_requireHours Z S a0 p2 (0 : Int32) (2000 : Int32)) S (fun _u => m_b1 (S.2.2 a0 6) (fun b7 => m_b1 (S.2.2 a0 3) (fun b9 => m_gd (m_ok Z b9 6) (m_b1 (S.2.2 b9 0) (fun b12 => m_gd (m_ok Z b7 4) (m_bw (f_X4_copyFrom Z S b7 b12) (fun _u S16 => m_b1 (S16.2.2 a0 7) (fun b17 => m_gd (m_ok Z b17 7) (m_bw (f_X7_copyFrom Z S16 b17 b3) (fun _u S21 => m_jp (fun (S22 : m_S) => m_b1 (S22.2.2 a0 7) (fun b23 => m_gd (m_ok Z b23 7) (m_b1 (f_X7_humidity Z S22 b23) (fun v27 => some ((.ok v27), S22))))) (fun j28 => m_fx (F_X8_humidityIn_40 Z a0 p2 j28) 100000 ((0 : Int32), S21))))))))))))))
abbrev rm_X8_humidityIn : Room := { frames := 7, cells := 2, slots := 12, locals := 116 }
theorem hd_X8_humidityIn : yX8_humidityIn.cls = RX8 ∧ yX8_humidityIn.cls ≠ "java/lang/invoke/MethodHandle" ∧ yX8_humidityIn.cls ≠ "java/lang/invoke/VarHandle" ∧ (parseMethodDescriptor yX8_humidityIn.desc).map (fun d => d.parameters.length) = some 2 := by decide +kernel
set_option maxHeartbeats 4000000 in
set_option maxRecDepth 100000 in
theorem c_X8_humidityIn {l : Launch} (hl : l.stackTraces = false) {Z : m_Z} {S : m_S} {a0 : Nat} {p1 : Int32} {p2 : Int32} {rZ9 : Except String Int32} {SZ9 : m_S} (hf : f_X8_humidityIn Z S a0 p1 p2 = some (rZ9, SZ9)) : m_Cx l yX8_humidityIn (.code yX8_humidityIn cX8_humidityIn 5 (some .int) :: m_ws) rm_X8_humidityIn 2 12 (fun f => [.ref a0, .int p1, .int p2]) Z S (m_rv (fun r => some (.int r)) rZ9) SZ9 := by
  unfold f_X8_humidityIn at hf
  refine m_entX hl (by decide) (fun _ => Nat.le_of_ble_eq_true rfl) (fun x C F => ?_)
  have C : m_H x l RX8 cX8_humidityIn 5 rm_X8_humidityIn := C
  show m_G x Z S 5 0 0 0 [(0, .ref a0), (1, .int p1), (2, .int p2)] []
  refine r_aload_n (q := 1) C 0 dX8_humidityIn_0 rfl rfl ?_
  refine r_iload_n (q := 2) C 1 dX8_humidityIn_1 rfl rfl ?_
  obtain ⟨g1, hf⟩ := m_gd_of hf
  rcases m_btw_of hf with ⟨b3, h2, hf⟩ | ⟨x4, h2, hf⟩
  · refine x_okV (q := 5) (mcQ := 2) (msQ := 12) (retQ := (some .int)) (st1 := [.ref b3]) C (c_X8_vitrineAt hl h2) rfl w_599 w_600 w_1315 w_2 w_601 hd_X8_vitrineAt rfl (by decide) g1 rfl rfl rfl ⟨(Nat.le_of_ble_eq_true rfl), (Nat.le_of_ble_eq_true rfl)⟩ (Nat.le_of_ble_eq_true rfl) ⟨(Nat.le_of_ble_eq_true rfl), (Nat.le_of_ble_eq_true rfl)⟩ dX8_humidityIn_2 rfl (Nat.le_of_ble_eq_true rfl) (Nat.le_of_ble_eq_true rfl) rfl ?_
    refine r_astore_n (q := 6) (L' := [(3, .ref b3), (0, .ref a0), (1, .int p1), (2, .int p2)]) C dX8_humidityIn_5 rfl rfl (by decide) rfl ?_
    refine r_aload_n (q := 7) C 1 dX8_humidityIn_6 rfl rfl ?_
    refine r_iload_n (q := 8) C 3 dX8_humidityIn_7 rfl rfl ?_
    refine r_iconst (q := 9) (v := (0 : Int32)) C dX8_humidityIn_8 (by decide) rfl ?_
    refine r_sipush (q := 12) (v := (2000 : Int32)) C dX8_humidityIn_9 (by decide) rfl ?_
    rcases m_btw_of hf with ⟨_u, h5, hf⟩ | ⟨x6, h5, hf⟩
    · refine x_okV (q := 15) (mcQ := 2) (msQ := 12) (retQ := (some .int)) (st1 := []) C (c_X8_requireHours hl h5) rfl w_795 w_796 w_1319 w_2 w_797 hd_X8_requireHours rfl (by decide) g1 rfl rfl rfl ⟨(Nat.le_of_ble_eq_true rfl), (Nat.le_of_ble_eq_true rfl)⟩ (Nat.le_of_ble_eq_true rfl) ⟨(Nat.le_of_ble_eq_true rfl), (Nat.le_of_ble_eq_true rfl)⟩ dX8_humidityIn_12 rfl (Nat.le_of_ble_eq_true rfl) (Nat.le_of_ble_eq_true rfl) rfl ?_
      refine r_aload_n (q := 16) C 1 dX8_humidityIn_15 rfl rfl ?_
      obtain ⟨b7, e8, hf⟩ := m_b1_of hf
      refine gf_X8_44 (q := 19) C dX8_humidityIn_16 g1 e8 rfl ?_
      refine r_aload_n (q := 20) C 1 dX8_humidityIn_19 rfl rfl ?_
      obtain ⟨b9, e10, hf⟩ := m_b1_of hf
      refine gf_X8_29 (q := 23) C dX8_humidityIn_20 g1 e10 rfl ?_
      obtain ⟨g11, hf⟩ := m_gd_of hf
      obtain ⟨b12, e13, hf⟩ := m_b1_of hf
      refine gf_X8_95 (q := 26) C dX8_humidityIn_23 g11 e13 rfl ?_
      obtain ⟨g14, hf⟩ := m_gd_of hf
      obtain ⟨_u, S16, h15, hf⟩ := m_bw_of hf
      refine r_callV (mc := 0) (ms := 0) (q := 29) (st1 := []) C (c_X4_copyFrom hl h15) rfl w_837 w_838 w_839 w_9 w_840 hd_X4_copyFrom rfl (by decide) g14 rfl rfl rfl ⟨(Nat.le_of_ble_eq_true rfl), (Nat.le_of_ble_eq_true rfl)⟩ (Nat.le_of_ble_eq_true rfl) ⟨(Nat.le_of_ble_eq_true rfl), (Nat.le_of_ble_eq_true rfl)⟩ dX8_humidityIn_26 rfl rfl ?_
      refine r_aload_n (q := 30) C 1 dX8_humidityIn_29 rfl rfl ?_
      obtain ⟨b17, e18, hf⟩ := m_b1_of hf
      refine gf_X8_51 (q := 33) C dX8_humidityIn_30 g1 e18 rfl ?_
      refine r_aload_n (q := 34) C 0 dX8_humidityIn_33 rfl rfl ?_
      obtain ⟨g19, hf⟩ := m_gd_of hf
      obtain ⟨_u, S21, h20, hf⟩ := m_bw_of hf
      refine r_callV (mc := 0) (ms := 0) (q := 37) (st1 := []) C (c_X7_copyFrom hl h20) rfl w_849 w_506 w_507 w_6 w_508 hd_X7_copyFrom rfl (by decide) g19 rfl rfl rfl ⟨(Nat.le_of_ble_eq_true rfl), (Nat.le_of_ble_eq_true rfl)⟩ (Nat.le_of_ble_eq_true rfl) ⟨(Nat.le_of_ble_eq_true rfl), (Nat.le_of_ble_eq_true rfl)⟩ dX8_humidityIn_34 rfl rfl ?_
      refine r_iconst (q := 38) (v := (0 : Int32)) C dX8_humidityIn_37 (by decide) rfl ?_
      refine r_istore (q := 40) (L' := [(4, .int (0 : Int32)), (3, .ref b3), (0, .ref a0), (1, .int p1), (2, .int p2)]) C dX8_humidityIn_38 rfl (by decide) rfl ?_
      obtain ⟨j28, ej28, hf⟩ := m_jp_of hf
      have J28 : ∀ (S22 : m_S), j28 S22 = some (rZ9, SZ9) → m_G x Z S22 5 2 12 71 [(0, .ref a0)] [] := by
        intro S22 hf
        rw [ej28] at hf
        refine r_aload_n (q := 72) C 0 dX8_humidityIn_71 rfl rfl ?_
        obtain ⟨b23, e24, hf⟩ := m_b1_of hf
        refine gf_X8_51 (q := 75) C dX8_humidityIn_72 g1 e24 rfl ?_
        obtain ⟨g25, hf⟩ := m_gd_of hf
        obtain ⟨v27, h26, hf⟩ := m_b1_of hf
        refine r_callV (mc := 0) (ms := 0) (q := 78) (st1 := [.int v27]) C (c_X7_humidity hl h26) rfl w_605 w_606 w_607 w_6 w_608 hd_X7_humidity rfl (by decide) g25 rfl rfl rfl ⟨(Nat.le_of_ble_eq_true rfl), (Nat.le_of_ble_eq_true rfl)⟩ (Nat.le_of_ble_eq_true rfl) ⟨(Nat.le_of_ble_eq_true rfl), (Nat.le_of_ble_eq_true rfl)⟩ dX8_humidityIn_75 rfl rfl ?_
        obtain ⟨rfl, rfl⟩ := m_so2 hf
        exact x_iret C F (Nat.le_of_ble_eq_true rfl) (Nat.le_of_ble_eq_true rfl) dX8_humidityIn_78
      have LL34 : ∀ (fu33 : Nat) (v29 : Int32) (S30 : m_S), m_fx (F_X8_humidityIn_40 Z a0 p2 j28) fu33 (v29, S30) = some (rZ9, SZ9) → m_G x Z S30 5 2 12 40 [(0, .ref a0), (2, .int p2), (4, .int v29)] [] := by
        intro fu33
        induction fu33 with
        | zero => intros; rename_i hf; cases hf
        | succ fu33 ih32 =>
          intro v29 S30 hf
          replace hf : F_X8_humidityIn_40 Z a0 p2 j28 (m_fx (F_X8_humidityIn_40 Z a0 p2 j28) fu33) (v29, S30) = some (rZ9, SZ9) := hf
          unfold F_X8_humidityIn_40 at hf
          dsimp only at hf
          refine r_iload (q := 42) C 2 dX8_humidityIn_40 rfl rfl ?_
          refine r_iload_n (q := 43) C 1 dX8_humidityIn_42 rfl rfl ?_
          refine r_icmp_ge (t := 71) (q := 46) C dX8_humidityIn_43 (by decide) rfl (fun c35 => ?_) (fun c35 => ?_)
          · replace hf := m_if1 hf c35
            refine r_sub [0] rfl ?_
            exact J28 S30 hf
          · replace hf := m_if0 hf c35
            refine r_aload_n (q := 47) C 0 dX8_humidityIn_46 rfl rfl ?_
            obtain ⟨b36, e37, hf⟩ := m_b1_of hf
            refine gf_X8_51 (q := 50) C dX8_humidityIn_47 g1 e37 rfl ?_
            refine r_aload_n (q := 51) C 0 dX8_humidityIn_50 rfl rfl ?_
            obtain ⟨b38, e39, hf⟩ := m_b1_of hf
            refine gf_X8_44 (q := 54) C dX8_humidityIn_51 g1 e39 rfl ?_
            refine r_aload_n (q := 55) C 0 dX8_humidityIn_54 rfl rfl ?_
            obtain ⟨b40, e41, hf⟩ := m_b1_of hf
            refine gf_X8_19 (q := 58) C dX8_humidityIn_55 g1 e41 rfl ?_
            obtain ⟨g42, hf⟩ := m_gd_of hf
            obtain ⟨v45, S44, h43, hf⟩ := m_bw_of hf
            refine r_callV (mc := 0) (ms := 0) (q := 61) (st1 := [.int v45, .ref b36]) C (c_X4_passHour hl h43) rfl w_841 w_804 w_805 w_9 w_806 hd_X4_passHour rfl (by decide) g42 rfl rfl rfl ⟨(Nat.le_of_ble_eq_true rfl), (Nat.le_of_ble_eq_true rfl)⟩ (Nat.le_of_ble_eq_true rfl) ⟨(Nat.le_of_ble_eq_true rfl), (Nat.le_of_ble_eq_true rfl)⟩ dX8_humidityIn_58 rfl rfl ?_
            obtain ⟨g46, hf⟩ := m_gd_of hf
            obtain ⟨v49, S48, h47, hf⟩ := m_bw_of hf
            refine r_callV (mc := 0) (ms := 0) (q := 64) (st1 := [.int v49]) C (c_X7_passHour hl h47) rfl w_850 w_812 w_813 w_6 w_814 hd_X7_passHour rfl (by decide) g46 rfl rfl rfl ⟨(Nat.le_of_ble_eq_true rfl), (Nat.le_of_ble_eq_true rfl)⟩ (Nat.le_of_ble_eq_true rfl) ⟨(Nat.le_of_ble_eq_true rfl), (Nat.le_of_ble_eq_true rfl)⟩ dX8_humidityIn_61 rfl rfl ?_
            refine r_pop (q := 65) C dX8_humidityIn_64 rfl rfl ?_
            obtain ⟨v50, e51, hf⟩ := m_lt_of hf
            refine r_iinc (q := 68) (v := v50) (L' := [(4, .int v50), (0, .ref a0), (2, .int p2)]) C 2 dX8_humidityIn_65 rfl (by rw [e51]; rfl) rfl (by decide) rfl ?_
            refine r_goto (t := 40) C dX8_humidityIn_68 (by decide) ?_
            refine r_sub [1, 2, 0] rfl ?_
            exact ih32 v50 S48 hf
      refine r_sub [2, 4, 0] rfl ?_
      exact LL34 100000 (0 : Int32) S21 hf
    · obtain ⟨rfl, rfl⟩ := Prod.mk.inj hf
      exact x_erV C (c_X8_requireHours hl h5) F rfl w_795 w_796 w_1319 w_2 w_797 hd_X8_requireHours rfl (by decide) g1 rfl rfl rfl ⟨(Nat.le_of_ble_eq_true rfl), (Nat.le_of_ble_eq_true rfl)⟩ (Nat.le_of_ble_eq_true rfl) ⟨(Nat.le_of_ble_eq_true rfl), (Nat.le_of_ble_eq_true rfl)⟩ dX8_humidityIn_12 rfl (Nat.le_of_ble_eq_true rfl) (Nat.le_of_ble_eq_true rfl)
  · obtain ⟨rfl, rfl⟩ := Prod.mk.inj hf
    exact x_erV C (c_X8_vitrineAt hl h2) F rfl w_599 w_600 w_1315 w_2 w_601 hd_X8_vitrineAt rfl (by decide) g1 rfl rfl rfl ⟨(Nat.le_of_ble_eq_true rfl), (Nat.le_of_ble_eq_true rfl)⟩ (Nat.le_of_ble_eq_true rfl) ⟨(Nat.le_of_ble_eq_true rfl), (Nat.le_of_ble_eq_true rfl)⟩ dX8_humidityIn_2 rfl (Nat.le_of_ble_eq_true rfl) (Nat.le_of_ble_eq_true rfl)
def F_X8_load_42 (Z : m_Z) (a0 : Nat) (j29 : (m_S → Option ((Except String Int32) × m_S))) (lp32 : (Int32 × m_S) → Option ((Except String Int32) × m_S)) (p45 : (Int32 × m_S)) : Option ((Except String Int32) × m_S) := match p45 with
  | (v30, S31) => m_b1 (S31.2.2 a0 5) (fun b36 => m_gd (m_ok Z b36 13) ((if (Int32.ofNat (Z.2.2 b36)) ≤ v30 then j29 S31 else m_gd (m_in v30 (Z.2.2 b36)) (m_lt (m_pI S31 b36 v30.toNatClampNeg (vp_nar .boolean (0 : Int32))) (fun S41 => m_lt (v30 + (1 : Int32)) (fun v43 => lp32 (v43, S41)))))))
def f_X8_load (Z : m_Z) (S : m_S) (a0 : Nat) : Option ((Except String Int32) × m_S) := m_gd (m_ok Z a0 8) (m_b1 (S.2.2 a0 0) (fun b2 => m_b1 (S.2.2 a0 2) (fun b4 => m_gd (m_ok Z b2 3) (m_bx (f_X3_readInto Z S b2 b4) (fun _u S8 => m_b1 (S8.2.2 a0 2) (fun b10 => m_b1 (S8.2.2 a0 1) (fun b12 => m_lt (m_pR S8 a0 2 (some b12)) (fun S14 => m_lt (m_pR S14 a0 1 (some b10)) (fun S16 => m_b1 (S16.2.2 a0 3) (fun b18 => m_b1 (S16.2.2 a0 1) (fun b20 => m_gd (m_ok Z b18 6) (m_bw (f_X6_begin Z S16 b18 b20) (fun _u S24 => m_jp (fun (S25 : m_S) => m_b1 (S25.2.2 a0 1) (fun b26 => m_gd (m_ok Z b26 5) (some ((.ok (S25.1 b26 8)), S25)))) (fun j29 => m_fx (F_X8_load_42 Z a0 j29) 100000 ((0 : Int32), S24)))))))))))))))
abbrev rm_X8_load : Room := { frames := 11, cells := 741, slots := 4446, locals := 232 }
theorem hd_X8_load : yX8_load.cls = RX8 ∧ yX8_load.cls ≠ "java/lang/invoke/MethodHandle" ∧ yX8_load.cls ≠ "java/lang/invoke/VarHandle" ∧ (parseMethodDescriptor yX8_load.desc).map (fun d => d.parameters.length) = some 0 := by decide +kernel
set_option maxHeartbeats 4000000 in
set_option maxRecDepth 100000 in
theorem c_X8_load {l : Launch} (hl : l.stackTraces = false) {Z : m_Z} {S : m_S} {a0 : Nat} {rZ9 : Except String Int32} {SZ9 : m_S} (hf : f_X8_load Z S a0 = some (rZ9, SZ9)) : m_Cx l yX8_load (.code yX8_load cX8_load 3 (some .int) :: m_ws) rm_X8_load 741 4446 (fun f => [.ref a0]) Z S (m_rv (fun r => some (.int r)) rZ9) SZ9 := by
  unfold f_X8_load at hf
  refine m_entX hl (by decide) (fun _ => Nat.le_of_ble_eq_true rfl) (fun x C F => ?_)
  have C : m_H x l RX8 cX8_load 3 rm_X8_load := C
  show m_G x Z S 3 0 0 0 [(0, .ref a0)] []
  refine r_aload_n (q := 1) C 0 dX8_load_0 rfl rfl ?_
  obtain ⟨g1, hf⟩ := m_gd_of hf
  obtain ⟨b2, e3, hf⟩ := m_b1_of hf
  refine gf_X8_10 (q := 4) C dX8_load_1 g1 e3 rfl ?_
  refine r_aload_n (q := 5) C 0 dX8_load_4 rfl rfl ?_
  obtain ⟨b4, e5, hf⟩ := m_b1_of hf
  refine gf_X8_23 (q := 8) C dX8_load_5 g1 e5 rfl ?_
  obtain ⟨g6, hf⟩ := m_gd_of hf
  rcases m_bx_of hf with ⟨_u, S8, h7, hf⟩ | ⟨x9, S8, h7, hf⟩
  · refine x_okV (q := 11) (mcQ := 741) (msQ := 4446) (retQ := (some .int)) (st1 := []) C (c_X3_readInto hl h7) rfl w_306 w_307 w_308 w_3 w_309 hd_X3_readInto rfl (by decide) g6 rfl rfl rfl ⟨(Nat.le_of_ble_eq_true rfl), (Nat.le_of_ble_eq_true rfl)⟩ (Nat.le_of_ble_eq_true rfl) ⟨(Nat.le_of_ble_eq_true rfl), (Nat.le_of_ble_eq_true rfl)⟩ dX8_load_8 rfl (Nat.le_of_ble_eq_true rfl) (Nat.le_of_ble_eq_true rfl) rfl ?_
    refine r_aload_n (q := 12) C 0 dX8_load_11 rfl rfl ?_
    obtain ⟨b10, e11, hf⟩ := m_b1_of hf
    refine gf_X8_23 (q := 15) C dX8_load_12 g1 e11 rfl ?_
    refine r_astore_n (q := 16) (L' := [(1, .ref b10), (0, .ref a0)]) C dX8_load_15 rfl rfl (by decide) rfl ?_
    refine r_aload_n (q := 17) C 1 dX8_load_16 rfl rfl ?_
    refine r_aload_n (q := 18) C 1 dX8_load_17 rfl rfl ?_
    obtain ⟨b12, e13, hf⟩ := m_b1_of hf
    refine gf_X8_19 (q := 21) C dX8_load_18 g1 e13 rfl ?_
    obtain ⟨S14, e15, hf⟩ := m_lt_of hf
    refine pf_X8_23 (q := 24) C dX8_load_21 g1 e15 rfl ?_
    refine r_aload_n (q := 25) C 1 dX8_load_24 rfl rfl ?_
    refine r_aload_n (q := 26) C 0 dX8_load_25 rfl rfl ?_
    obtain ⟨S16, e17, hf⟩ := m_lt_of hf
    refine pf_X8_19 (q := 29) C dX8_load_26 g1 e17 rfl ?_
    refine r_aload_n (q := 30) C 1 dX8_load_29 rfl rfl ?_
    obtain ⟨b18, e19, hf⟩ := m_b1_of hf
    refine gf_X8_29 (q := 33) C dX8_load_30 g1 e19 rfl ?_
    refine r_aload_n (q := 34) C 1 dX8_load_33 rfl rfl ?_
    obtain ⟨b20, e21, hf⟩ := m_b1_of hf
    refine gf_X8_19 (q := 37) C dX8_load_34 g1 e21 rfl ?_
    obtain ⟨g22, hf⟩ := m_gd_of hf
    obtain ⟨_u, S24, h23, hf⟩ := m_bw_of hf
    refine r_callV (mc := 0) (ms := 0) (q := 40) (st1 := []) C (c_X6_begin hl h23) rfl w_497 w_498 w_499 w_8 w_500 hd_X6_begin rfl (by decide) g22 rfl rfl rfl ⟨(Nat.le_of_ble_eq_true rfl), (Nat.le_of_ble_eq_true rfl)⟩ (Nat.le_of_ble_eq_true rfl) ⟨(Nat.le_of_ble_eq_true rfl), (Nat.le_of_ble_eq_true rfl)⟩ dX8_load_37 rfl rfl ?_
    refine r_iconst (q := 41) (v := (0 : Int32)) C dX8_load_40 (by decide) rfl ?_
    refine r_istore_n (q := 42) (L' := [(2, .int (0 : Int32)), (1, .ref b10), (0, .ref a0)]) C dX8_load_41 rfl rfl (by decide) rfl ?_
    obtain ⟨j29, ej29, hf⟩ := m_jp_of hf
    have J29 : ∀ (S25 : m_S), j29 S25 = some (rZ9, SZ9) → m_G x Z S25 3 741 4446 64 [(0, .ref a0)] [] := by
      intro S25 hf
      rw [ej29] at hf
      refine r_aload_n (q := 65) C 0 dX8_load_64 rfl rfl ?_
      obtain ⟨b26, e27, hf⟩ := m_b1_of hf
      refine gf_X8_19 (q := 68) C dX8_load_65 g1 e27 rfl ?_
      obtain ⟨g28, hf⟩ := m_gd_of hf
      refine gf_X8_86 (q := 71) C dX8_load_68 g28 rfl ?_
      obtain ⟨rfl, rfl⟩ := m_so2 hf
      exact x_iret C F (Nat.le_of_ble_eq_true rfl) (Nat.le_of_ble_eq_true rfl) dX8_load_71
    have LL35 : ∀ (fu34 : Nat) (v30 : Int32) (S31 : m_S), m_fx (F_X8_load_42 Z a0 j29) fu34 (v30, S31) = some (rZ9, SZ9) → m_G x Z S31 3 741 4446 42 [(0, .ref a0), (2, .int v30)] [] := by
      intro fu34
      induction fu34 with
      | zero => intros; rename_i hf; cases hf
      | succ fu34 ih33 =>
        intro v30 S31 hf
        replace hf : F_X8_load_42 Z a0 j29 (m_fx (F_X8_load_42 Z a0 j29) fu34) (v30, S31) = some (rZ9, SZ9) := hf
        unfold F_X8_load_42 at hf
        dsimp only at hf
        refine r_iload_n (q := 43) C 1 dX8_load_42 rfl rfl ?_
        refine r_aload_n (q := 44) C 0 dX8_load_43 rfl rfl ?_
        obtain ⟨b36, e37, hf⟩ := m_b1_of hf
        refine gf_X8_37 (q := 47) C dX8_load_44 g1 e37 rfl ?_
        obtain ⟨g38, hf⟩ := m_gd_of hf
        refine r_alen (q := 48) 13 3 C dX8_load_47 g38 (by decide) rfl rfl ?_
        refine r_icmp_ge (t := 64) (q := 51) C dX8_load_48 (by decide) rfl (fun c39 => ?_) (fun c39 => ?_)
        · replace hf := m_if1 hf c39
          refine r_sub [0] rfl ?_
          exact J29 S31 hf
        · replace hf := m_if0 hf c39
          refine r_aload_n (q := 52) C 0 dX8_load_51 rfl rfl ?_
          refine gf_X8_37 (q := 55) C dX8_load_52 g1 e37 rfl ?_
          refine r_iload_n (q := 56) C 1 dX8_load_55 rfl rfl ?_
          refine r_iconst (q := 57) (v := (0 : Int32)) C dX8_load_56 (by decide) rfl ?_
          obtain ⟨g40, hf⟩ := m_gd_of hf
          obtain ⟨S41, e42, hf⟩ := m_lt_of hf
          refine r_zast (q := 58) C dX8_load_57 ⟨g38, g40⟩ rfl ?_
          rw [← e42]
          obtain ⟨v43, e44, hf⟩ := m_lt_of hf
          refine r_iinc (q := 61) (v := v43) (L' := [(2, .int v43), (0, .ref a0)]) C 1 dX8_load_58 rfl (by rw [e44]; rfl) rfl (by decide) rfl ?_
          refine r_goto (t := 42) C dX8_load_61 (by decide) ?_
          refine r_sub [1, 0] rfl ?_
          exact ih33 v43 S41 hf
    refine r_sub [2, 0] rfl ?_
    exact LL35 100000 (0 : Int32) S24 hf
  · obtain ⟨rfl, rfl⟩ := Prod.mk.inj hf
    exact x_erV C (c_X3_readInto hl h7) F rfl w_306 w_307 w_308 w_3 w_309 hd_X3_readInto rfl (by decide) g6 rfl rfl rfl ⟨(Nat.le_of_ble_eq_true rfl), (Nat.le_of_ble_eq_true rfl)⟩ (Nat.le_of_ble_eq_true rfl) ⟨(Nat.le_of_ble_eq_true rfl), (Nat.le_of_ble_eq_true rfl)⟩ dX8_load_8 rfl (Nat.le_of_ble_eq_true rfl) (Nat.le_of_ble_eq_true rfl)
def F_X8_massFor_37 (Z : m_Z) (a0 : Nat) (p3 : Int32) (p4 : Int32) (b3 : Nat) (b6 : Nat) (j15 : (m_S → Option ((Except String Int32) × m_S))) (j18 : (Int32 → m_S → Option ((Except String Int32) × m_S))) (lp21 : (Int32 × m_S) → Option ((Except String Int32) × m_S)) (p48 : (Int32 × m_S)) : Option ((Except String Int32) × m_S) := match p48 with
  | (v19, S20) => (if (999 : Int32) < v19 then j15 S20 else m_b1 (S20.2.2 a0 7) (fun b26 => m_gd (m_ok Z b26 7) (m_bw (f_X7_copyFrom Z S20 b26 b3) (fun _u S30 => m_b1 (S30.2.2 a0 7) (fun b31 => m_b1 (S30.2.2 a0 3) (fun b33 => m_gd (m_ok Z b33 6) (m_gd (m_ok Z b6 1) (m_b1 (f_X1_moistureAt Z S30 b6 p3 v19) (fun v38 => m_gd (m_ok Z b31 7) (m_bw (f_X7_put Z S30 b31 (S30.1 b33 1) b6 v19 v38) (fun _u S41 => m_bw (f_X8_unsafeHoursOfTrial Z S41 a0 p4 (1 : Int32)) (fun v44 S43 => (if ¬ v44 = 0 then m_lt (v19 + (1 : Int32)) (fun v46 => lp21 (v46, S43)) else j18 v19 S43)))))))))))))
def f_X8_massFor (Z : m_Z) (S : m_S) (a0 : Nat) (p1 : Int32) (p2 : Int32) (p3 : Int32) (p4 : Int32) : Option ((Except String Int32) × m_S) := m_gd (m_ok Z a0 8) (m_btw (f_X8_vitrineAt Z S a0 p1) S (fun b3 => m_btw (f_X8_kindAt Z S a0 p2) S (fun b6 => m_btw (f_X8_requireHumidity Z S a0 p3) S (fun _u => m_btw (f_X8_requireHours Z S a0 p4 (1 : Int32) (72 : Int32)) S (fun _u => m_bw (f_X8_foreseeRooms Z S a0 p4) (fun _u S13 => m_jp (fun (S14 : m_S) => some (.error "java/util/NoSuchElementException", S14)) (fun j15 => m_jp (fun (v16 : Int32) (S17 : m_S) => some ((.ok v16), S17)) (fun j18 => m_fx (F_X8_massFor_37 Z a0 p3 p4 b3 b6 j15 j18) 100000 ((1 : Int32), S13)))))))))
abbrev rm_X8_massFor : Room := { frames := 7, cells := 5, slots := 30, locals := 140 }
theorem hd_X8_massFor : yX8_massFor.cls = RX8 ∧ yX8_massFor.cls ≠ "java/lang/invoke/MethodHandle" ∧ yX8_massFor.cls ≠ "java/lang/invoke/VarHandle" ∧ (parseMethodDescriptor yX8_massFor.desc).map (fun d => d.parameters.length) = some 4 := by decide +kernel
set_option maxHeartbeats 4000000 in
set_option maxRecDepth 100000 in
theorem c_X8_massFor {l : Launch} (hl : l.stackTraces = false) {Z : m_Z} {S : m_S} {a0 : Nat} {p1 : Int32} {p2 : Int32} {p3 : Int32} {p4 : Int32} {rZ9 : Except String Int32} {SZ9 : m_S} (hf : f_X8_massFor Z S a0 p1 p2 p3 p4 = some (rZ9, SZ9)) : m_Cx l yX8_massFor (.code yX8_massFor cX8_massFor 8 (some .int) :: m_ws) rm_X8_massFor 5 30 (fun f => [.ref a0, .int p1, .int p2, .int p3, .int p4]) Z S (m_rv (fun r => some (.int r)) rZ9) SZ9 := by
  unfold f_X8_massFor at hf
  refine m_entX hl (by decide) (fun _ => Nat.le_of_ble_eq_true rfl) (fun x C F => ?_)
  have C : m_H x l RX8 cX8_massFor 8 rm_X8_massFor := C
  show m_G x Z S 8 0 0 0 [(0, .ref a0), (1, .int p1), (2, .int p2), (3, .int p3), (4, .int p4)] []
  refine r_aload_n (q := 1) C 0 dX8_massFor_0 rfl rfl ?_
  refine r_iload_n (q := 2) C 1 dX8_massFor_1 rfl rfl ?_
  obtain ⟨g1, hf⟩ := m_gd_of hf
  rcases m_btw_of hf with ⟨b3, h2, hf⟩ | ⟨x4, h2, hf⟩
  · refine x_okV (q := 5) (mcQ := 5) (msQ := 30) (retQ := (some .int)) (st1 := [.ref b3]) C (c_X8_vitrineAt hl h2) rfl w_599 w_600 w_1315 w_2 w_601 hd_X8_vitrineAt rfl (by decide) g1 rfl rfl rfl ⟨(Nat.le_of_ble_eq_true rfl), (Nat.le_of_ble_eq_true rfl)⟩ (Nat.le_of_ble_eq_true rfl) ⟨(Nat.le_of_ble_eq_true rfl), (Nat.le_of_ble_eq_true rfl)⟩ dX8_massFor_2 rfl (Nat.le_of_ble_eq_true rfl) (Nat.le_of_ble_eq_true rfl) rfl ?_
    refine r_astore (q := 7) (L' := [(5, .ref b3), (0, .ref a0), (1, .int p1), (2, .int p2), (3, .int p3), (4, .int p4)]) C dX8_massFor_5 rfl (by decide) rfl ?_
    refine r_aload_n (q := 8) C 1 dX8_massFor_7 rfl rfl ?_
    refine r_iload_n (q := 9) C 3 dX8_massFor_8 rfl rfl ?_
    rcases m_btw_of hf with ⟨b6, h5, hf⟩ | ⟨x7, h5, hf⟩
    · refine x_okV (q := 12) (mcQ := 5) (msQ := 30) (retQ := (some .int)) (st1 := [.ref b6]) C (c_X8_kindAt hl h5) rfl w_581 w_582 w_1314 w_2 w_583 hd_X8_kindAt rfl (by decide) g1 rfl rfl rfl ⟨(Nat.le_of_ble_eq_true rfl), (Nat.le_of_ble_eq_true rfl)⟩ (Nat.le_of_ble_eq_true rfl) ⟨(Nat.le_of_ble_eq_true rfl), (Nat.le_of_ble_eq_true rfl)⟩ dX8_massFor_9 rfl (Nat.le_of_ble_eq_true rfl) (Nat.le_of_ble_eq_true rfl) rfl ?_
      refine r_astore (q := 14) (L' := [(6, .ref b6), (5, .ref b3), (0, .ref a0), (1, .int p1), (2, .int p2), (3, .int p3), (4, .int p4)]) C dX8_massFor_12 rfl (by decide) rfl ?_
      refine r_aload_n (q := 15) C 2 dX8_massFor_14 rfl rfl ?_
      refine r_iload_n (q := 16) C 5 dX8_massFor_15 rfl rfl ?_
      rcases m_btw_of hf with ⟨_u, h8, hf⟩ | ⟨x9, h8, hf⟩
      · refine x_okV (q := 19) (mcQ := 5) (msQ := 30) (retQ := (some .int)) (st1 := []) C (c_X8_requireHumidity hl h8) rfl w_685 w_686 w_1318 w_2 w_687 hd_X8_requireHumidity rfl (by decide) g1 rfl rfl rfl ⟨(Nat.le_of_ble_eq_true rfl), (Nat.le_of_ble_eq_true rfl)⟩ (Nat.le_of_ble_eq_true rfl) ⟨(Nat.le_of_ble_eq_true rfl), (Nat.le_of_ble_eq_true rfl)⟩ dX8_massFor_16 rfl (Nat.le_of_ble_eq_true rfl) (Nat.le_of_ble_eq_true rfl) rfl ?_
        refine r_aload_n (q := 20) C 2 dX8_massFor_19 rfl rfl ?_
        refine r_iload (q := 22) C 6 dX8_massFor_20 rfl rfl ?_
        refine r_iconst (q := 23) (v := (1 : Int32)) C dX8_massFor_22 (by decide) rfl ?_
        refine r_bipush (q := 25) (v := (72 : Int32)) C dX8_massFor_23 (by decide) rfl ?_
        rcases m_btw_of hf with ⟨_u, h10, hf⟩ | ⟨x11, h10, hf⟩
        · refine x_okV (q := 28) (mcQ := 5) (msQ := 30) (retQ := (some .int)) (st1 := []) C (c_X8_requireHours hl h10) rfl w_795 w_796 w_1319 w_2 w_797 hd_X8_requireHours rfl (by decide) g1 rfl rfl rfl ⟨(Nat.le_of_ble_eq_true rfl), (Nat.le_of_ble_eq_true rfl)⟩ (Nat.le_of_ble_eq_true rfl) ⟨(Nat.le_of_ble_eq_true rfl), (Nat.le_of_ble_eq_true rfl)⟩ dX8_massFor_25 rfl (Nat.le_of_ble_eq_true rfl) (Nat.le_of_ble_eq_true rfl) rfl ?_
          refine r_aload_n (q := 29) C 2 dX8_massFor_28 rfl rfl ?_
          refine r_iload (q := 31) C 6 dX8_massFor_29 rfl rfl ?_
          obtain ⟨_u, S13, h12, hf⟩ := m_bw_of hf
          refine r_callV (mc := 0) (ms := 0) (q := 34) (st1 := []) C (c_X8_foreseeRooms hl h12) rfl w_883 w_884 w_1320 w_2 w_885 hd_X8_foreseeRooms rfl (by decide) g1 rfl rfl rfl ⟨(Nat.le_of_ble_eq_true rfl), (Nat.le_of_ble_eq_true rfl)⟩ (Nat.le_of_ble_eq_true rfl) ⟨(Nat.le_of_ble_eq_true rfl), (Nat.le_of_ble_eq_true rfl)⟩ dX8_massFor_31 rfl rfl ?_
          refine r_iconst (q := 35) (v := (1 : Int32)) C dX8_massFor_34 (by decide) rfl ?_
          refine r_istore (q := 37) (L' := [(7, .int (1 : Int32)), (6, .ref b6), (5, .ref b3), (0, .ref a0), (1, .int p1), (2, .int p2), (3, .int p3), (4, .int p4)]) C dX8_massFor_35 rfl (by decide) rfl ?_
          obtain ⟨j15, ej15, hf⟩ := m_jp_of hf
          have J15 : ∀ (S14 : m_S), j15 S14 = some (rZ9, SZ9) → m_G x Z S14 8 4 24 99 [] [] := by
            intro S14 hf
            rw [ej15] at hf
            obtain ⟨rfl, rfl⟩ := m_so2 hf
            exact x_thrNW (text := "no mass keeps the case safe") (ti := 35) C F w_626 w_22 (by decide +kernel) dX8_massFor_99 dX8_massFor_102 dX8_massFor_103 dX8_massFor_106 dX8_massFor_109 (Nat.le_of_ble_eq_true rfl) (Nat.le_of_ble_eq_true rfl) (Nat.le_of_ble_eq_true rfl) (Nat.le_of_ble_eq_true rfl) (Nat.le_of_ble_eq_true rfl) (Nat.le_of_ble_eq_true rfl)
          obtain ⟨j18, ej18, hf⟩ := m_jp_of hf
          have J18 : ∀ (v16 : Int32) (S17 : m_S), j18 v16 S17 = some (rZ9, SZ9) → m_G x Z S17 8 4 24 90 [(7, .int v16)] [] := by
            intro v16 S17 hf
            rw [ej18] at hf
            refine r_iload (q := 92) C 0 dX8_massFor_90 rfl rfl ?_
            obtain ⟨rfl, rfl⟩ := m_so2 hf
            exact x_iret C F (Nat.le_of_ble_eq_true rfl) (Nat.le_of_ble_eq_true rfl) dX8_massFor_92
          have LL24 : ∀ (fu23 : Nat) (v19 : Int32) (S20 : m_S), m_fx (F_X8_massFor_37 Z a0 p3 p4 b3 b6 j15 j18) fu23 (v19, S20) = some (rZ9, SZ9) → m_G x Z S20 8 4 24 37 [(0, .ref a0), (3, .int p3), (4, .int p4), (5, .ref b3), (6, .ref b6), (7, .int v19)] [] := by
            intro fu23
            induction fu23 with
            | zero => intros; rename_i hf; cases hf
            | succ fu23 ih22 =>
              intro v19 S20 hf
              replace hf : F_X8_massFor_37 Z a0 p3 p4 b3 b6 j15 j18 (m_fx (F_X8_massFor_37 Z a0 p3 p4 b3 b6 j15 j18) fu23) (v19, S20) = some (rZ9, SZ9) := hf
              unfold F_X8_massFor_37 at hf
              dsimp only at hf
              refine r_iload (q := 39) C 5 dX8_massFor_37 rfl rfl ?_
              refine r_sipush (q := 42) (v := (999 : Int32)) C dX8_massFor_39 (by decide) rfl ?_
              refine r_icmp_gt (t := 99) (q := 45) C dX8_massFor_42 (by decide) rfl (fun c25 => ?_) (fun c25 => ?_)
              · replace hf := m_if1 hf c25
                refine r_sub [] rfl ?_
                exact J15 S20 hf
              · replace hf := m_if0 hf c25
                refine r_aload_n (q := 46) C 0 dX8_massFor_45 rfl rfl ?_
                obtain ⟨b26, e27, hf⟩ := m_b1_of hf
                refine gf_X8_51 (q := 49) C dX8_massFor_46 g1 e27 rfl ?_
                refine r_aload (q := 51) C 3 dX8_massFor_49 rfl rfl ?_
                obtain ⟨g28, hf⟩ := m_gd_of hf
                obtain ⟨_u, S30, h29, hf⟩ := m_bw_of hf
                refine r_callV (mc := 0) (ms := 0) (q := 54) (st1 := []) C (c_X7_copyFrom hl h29) rfl w_849 w_506 w_507 w_6 w_508 hd_X7_copyFrom rfl (by decide) g28 rfl rfl rfl ⟨(Nat.le_of_ble_eq_true rfl), (Nat.le_of_ble_eq_true rfl)⟩ (Nat.le_of_ble_eq_true rfl) ⟨(Nat.le_of_ble_eq_true rfl), (Nat.le_of_ble_eq_true rfl)⟩ dX8_massFor_51 rfl rfl ?_
                refine r_aload_n (q := 55) C 0 dX8_massFor_54 rfl rfl ?_
                obtain ⟨b31, e32, hf⟩ := m_b1_of hf
                refine gf_X8_51 (q := 58) C dX8_massFor_55 g1 e32 rfl ?_
                refine r_aload_n (q := 59) C 0 dX8_massFor_58 rfl rfl ?_
                obtain ⟨b33, e34, hf⟩ := m_b1_of hf
                refine gf_X8_29 (q := 62) C dX8_massFor_59 g1 e34 rfl ?_
                obtain ⟨g35, hf⟩ := m_gd_of hf
                refine gf_X8_114 (q := 65) C dX8_massFor_62 g35 rfl ?_
                refine r_aload (q := 67) C 4 dX8_massFor_65 rfl rfl ?_
                refine r_iload (q := 69) C 5 dX8_massFor_67 rfl rfl ?_
                refine r_aload (q := 71) C 4 dX8_massFor_69 rfl rfl ?_
                refine r_iload_n (q := 72) C 1 dX8_massFor_71 rfl rfl ?_
                refine r_iload (q := 74) C 5 dX8_massFor_72 rfl rfl ?_
                obtain ⟨g36, hf⟩ := m_gd_of hf
                obtain ⟨v38, h37, hf⟩ := m_b1_of hf
                refine r_callV (mc := 0) (ms := 0) (q := 77) (st1 := [.int v38, .int v19, .ref b6, .int (S30.1 b33 1), .ref b31]) C (c_X1_moistureAt hl h37) rfl w_739 w_479 w_480 w_5 w_481 hd_X1_moistureAt rfl (by decide) g36 rfl rfl rfl ⟨(Nat.le_of_ble_eq_true rfl), (Nat.le_of_ble_eq_true rfl)⟩ (Nat.le_of_ble_eq_true rfl) ⟨(Nat.le_of_ble_eq_true rfl), (Nat.le_of_ble_eq_true rfl)⟩ dX8_massFor_74 rfl rfl ?_
                obtain ⟨g39, hf⟩ := m_gd_of hf
                obtain ⟨_u, S41, h40, hf⟩ := m_bw_of hf
                refine r_callV (mc := 0) (ms := 0) (q := 80) (st1 := []) C (c_X7_put hl h40) rfl w_740 w_490 w_491 w_6 w_492 hd_X7_put rfl (by decide) g39 rfl rfl rfl ⟨(Nat.le_of_ble_eq_true rfl), (Nat.le_of_ble_eq_true rfl)⟩ (Nat.le_of_ble_eq_true rfl) ⟨(Nat.le_of_ble_eq_true rfl), (Nat.le_of_ble_eq_true rfl)⟩ dX8_massFor_77 rfl rfl ?_
                refine r_aload_n (q := 81) C 0 dX8_massFor_80 rfl rfl ?_
                refine r_iload (q := 83) C 2 dX8_massFor_81 rfl rfl ?_
                refine r_iconst (q := 84) (v := (1 : Int32)) C dX8_massFor_83 (by decide) rfl ?_
                obtain ⟨v44, S43, h42, hf⟩ := m_bw_of hf
                refine r_callV (mc := 0) (ms := 0) (q := 87) (st1 := [.int v44]) C (c_X8_unsafeHoursOfTrial hl h42) rfl w_886 w_887 w_1321 w_2 w_888 hd_X8_unsafeHoursOfTrial rfl (by decide) g1 rfl rfl rfl ⟨(Nat.le_of_ble_eq_true rfl), (Nat.le_of_ble_eq_true rfl)⟩ (Nat.le_of_ble_eq_true rfl) ⟨(Nat.le_of_ble_eq_true rfl), (Nat.le_of_ble_eq_true rfl)⟩ dX8_massFor_84 rfl rfl ?_
                refine r_if_ne (t := 93) (q := 90) C dX8_massFor_87 (by decide) rfl (fun c45 => ?_) (fun c45 => ?_)
                · replace hf := m_if1 hf c45
                  obtain ⟨v46, e47, hf⟩ := m_lt_of hf
                  refine r_iinc (q := 96) (v := v46) (L' := [(7, .int v46), (0, .ref a0), (3, .int p3), (4, .int p4), (5, .ref b3), (6, .ref b6)]) C 5 dX8_massFor_93 rfl (by rw [e47]; rfl) rfl (by decide) rfl ?_
                  refine r_goto (t := 37) C dX8_massFor_96 (by decide) ?_
                  refine r_sub [1, 2, 3, 4, 5, 0] rfl ?_
                  exact ih22 v46 S43 hf
                · replace hf := m_if0 hf (fun z => z c45)
                  refine r_sub [5] rfl ?_
                  exact J18 v19 S43 hf
          refine r_sub [3, 6, 7, 2, 1, 0] rfl ?_
          exact LL24 100000 (1 : Int32) S13 hf
        · obtain ⟨rfl, rfl⟩ := Prod.mk.inj hf
          exact x_erV C (c_X8_requireHours hl h10) F rfl w_795 w_796 w_1319 w_2 w_797 hd_X8_requireHours rfl (by decide) g1 rfl rfl rfl ⟨(Nat.le_of_ble_eq_true rfl), (Nat.le_of_ble_eq_true rfl)⟩ (Nat.le_of_ble_eq_true rfl) ⟨(Nat.le_of_ble_eq_true rfl), (Nat.le_of_ble_eq_true rfl)⟩ dX8_massFor_25 rfl (Nat.le_of_ble_eq_true rfl) (Nat.le_of_ble_eq_true rfl)
      · obtain ⟨rfl, rfl⟩ := Prod.mk.inj hf
        exact x_erV C (c_X8_requireHumidity hl h8) F rfl w_685 w_686 w_1318 w_2 w_687 hd_X8_requireHumidity rfl (by decide) g1 rfl rfl rfl ⟨(Nat.le_of_ble_eq_true rfl), (Nat.le_of_ble_eq_true rfl)⟩ (Nat.le_of_ble_eq_true rfl) ⟨(Nat.le_of_ble_eq_true rfl), (Nat.le_of_ble_eq_true rfl)⟩ dX8_massFor_16 rfl (Nat.le_of_ble_eq_true rfl) (Nat.le_of_ble_eq_true rfl)
    · obtain ⟨rfl, rfl⟩ := Prod.mk.inj hf
      exact x_erV C (c_X8_kindAt hl h5) F rfl w_581 w_582 w_1314 w_2 w_583 hd_X8_kindAt rfl (by decide) g1 rfl rfl rfl ⟨(Nat.le_of_ble_eq_true rfl), (Nat.le_of_ble_eq_true rfl)⟩ (Nat.le_of_ble_eq_true rfl) ⟨(Nat.le_of_ble_eq_true rfl), (Nat.le_of_ble_eq_true rfl)⟩ dX8_massFor_9 rfl (Nat.le_of_ble_eq_true rfl) (Nat.le_of_ble_eq_true rfl)
  · obtain ⟨rfl, rfl⟩ := Prod.mk.inj hf
    exact x_erV C (c_X8_vitrineAt hl h2) F rfl w_599 w_600 w_1315 w_2 w_601 hd_X8_vitrineAt rfl (by decide) g1 rfl rfl rfl ⟨(Nat.le_of_ble_eq_true rfl), (Nat.le_of_ble_eq_true rfl)⟩ (Nat.le_of_ble_eq_true rfl) ⟨(Nat.le_of_ble_eq_true rfl), (Nat.le_of_ble_eq_true rfl)⟩ dX8_massFor_2 rfl (Nat.le_of_ble_eq_true rfl) (Nat.le_of_ble_eq_true rfl)
def f_X8_requireAnHour (Z : m_Z) (S : m_S) (a0 : Nat) : Option (Except String Unit) := m_gd (m_ok Z a0 8) (m_b1 (S.2.2 a0 3) (fun b2 => m_gd (m_ok Z b2 6) (m_b1 (S.2.2 b2 0) (fun b5 => m_gd (m_ok Z b5 4) ((if (1 : Int32) ≤ (S.1 b5 0) then some (.ok ()) else some (.error "java/util/NoSuchElementException")))))))
abbrev rm_X8_requireAnHour : Room := { frames := 6, cells := 1, slots := 6, locals := 82 }
theorem hd_X8_requireAnHour : yX8_requireAnHour.cls = RX8 ∧ yX8_requireAnHour.cls ≠ "java/lang/invoke/MethodHandle" ∧ yX8_requireAnHour.cls ≠ "java/lang/invoke/VarHandle" ∧ (parseMethodDescriptor yX8_requireAnHour.desc).map (fun d => d.parameters.length) = some 0 := by decide +kernel
set_option maxHeartbeats 4000000 in
set_option maxRecDepth 100000 in
theorem c_X8_requireAnHour {l : Launch} (hl : l.stackTraces = false) {Z : m_Z} {S : m_S} {a0 : Nat} {rZ9 : Except String Unit} (hf : f_X8_requireAnHour Z S a0 = some rZ9) : m_Cx l yX8_requireAnHour (.code yX8_requireAnHour cX8_requireAnHour 1 none :: m_ws) rm_X8_requireAnHour 1 6 (fun f => [.ref a0]) Z S (m_rv (fun _ => none) rZ9) S := by
  unfold f_X8_requireAnHour at hf
  refine m_entX hl (by decide) (fun _ => Nat.le_of_ble_eq_true rfl) (fun x C F => ?_)
  have C : m_H x l RX8 cX8_requireAnHour 1 rm_X8_requireAnHour := C
  show m_G x Z S 1 0 0 0 [(0, .ref a0)] []
  refine r_aload_n (q := 1) C 0 dX8_requireAnHour_0 rfl rfl ?_
  obtain ⟨g1, hf⟩ := m_gd_of hf
  obtain ⟨b2, e3, hf⟩ := m_b1_of hf
  refine gf_X8_29 (q := 4) C dX8_requireAnHour_1 g1 e3 rfl ?_
  obtain ⟨g4, hf⟩ := m_gd_of hf
  obtain ⟨b5, e6, hf⟩ := m_b1_of hf
  refine gf_X8_95 (q := 7) C dX8_requireAnHour_4 g4 e6 rfl ?_
  obtain ⟨g7, hf⟩ := m_gd_of hf
  refine gf_X8_98 (q := 10) C dX8_requireAnHour_7 g7 rfl ?_
  refine r_iconst (q := 11) (v := (1 : Int32)) C dX8_requireAnHour_10 (by decide) rfl ?_
  refine r_icmp_ge (t := 25) (q := 14) C dX8_requireAnHour_11 (by decide) rfl (fun c8 => ?_) (fun c8 => ?_)
  · replace hf := m_if1 hf c8
    obtain rfl := m_so1 hf
    exact x_vret C F (Nat.le_of_ble_eq_true rfl) (Nat.le_of_ble_eq_true rfl) dX8_requireAnHour_25
  · replace hf := m_if0 hf c8
    obtain rfl := m_so1 hf
    exact x_thrNW (text := "no hour has passed") (ti := 22) C F w_626 w_22 (by decide +kernel) dX8_requireAnHour_14 dX8_requireAnHour_17 dX8_requireAnHour_18 dX8_requireAnHour_21 dX8_requireAnHour_24 (Nat.le_of_ble_eq_true rfl) (Nat.le_of_ble_eq_true rfl) (Nat.le_of_ble_eq_true rfl) (Nat.le_of_ble_eq_true rfl) (Nat.le_of_ble_eq_true rfl) (Nat.le_of_ble_eq_true rfl)
def f_X8_mean (Z : m_Z) (S : m_S) (a0 : Nat) (p1 : Int32) : Option (Except String UInt64) := m_gd (m_ok Z a0 8) (m_bt (f_X8_logbookAt Z S a0 p1) (fun b3 => m_bt (f_X8_requireAnHour Z S a0) (fun _u => m_gd (m_ok Z b3 2) (m_b1 (S.2.2 a0 3) (fun b8 => m_gd (m_ok Z b8 6) (m_b1 (S.2.2 b8 0) (fun b11 => m_gd (m_ok Z b11 4) (m_gd (isNaN64 (FP.ddiv (FP.l2d (S.2.1 b3 7)) (FP.i2d (S.1 b11 0))) = false) (some (.ok (FP.ddiv (FP.l2d (S.2.1 b3 7)) (FP.i2d (S.1 b11 0)))))))))))))
abbrev rm_X8_mean : Room := { frames := 7, cells := 2, slots := 12, locals := 103 }
theorem hd_X8_mean : yX8_mean.cls = RX8 ∧ yX8_mean.cls ≠ "java/lang/invoke/MethodHandle" ∧ yX8_mean.cls ≠ "java/lang/invoke/VarHandle" ∧ (parseMethodDescriptor yX8_mean.desc).map (fun d => d.parameters.length) = some 1 := by decide +kernel
set_option maxHeartbeats 4000000 in
set_option maxRecDepth 100000 in
theorem c_X8_mean {l : Launch} (hl : l.stackTraces = false) {Z : m_Z} {S : m_S} {a0 : Nat} {p1 : Int32} {rZ9 : Except String UInt64} (hf : f_X8_mean Z S a0 p1 = some rZ9) : m_Cx l yX8_mean (.code yX8_mean cX8_mean 3 (some .double) :: m_ws) rm_X8_mean 2 12 (fun f => [.ref a0, .int p1]) Z S (m_rv (fun r => some (.double r)) rZ9) S := by
  unfold f_X8_mean at hf
  refine m_entX hl (by decide) (fun _ => Nat.le_of_ble_eq_true rfl) (fun x C F => ?_)
  have C : m_H x l RX8 cX8_mean 3 rm_X8_mean := C
  show m_G x Z S 3 0 0 0 [(0, .ref a0), (1, .int p1)] []
  refine r_aload_n (q := 1) C 0 dX8_mean_0 rfl rfl ?_
  refine r_iload_n (q := 2) C 1 dX8_mean_1 rfl rfl ?_
  obtain ⟨g1, hf⟩ := m_gd_of hf
  rcases m_bt_of hf with ⟨b3, h2, hf⟩ | ⟨x4, h2, hf⟩
  · refine x_okV (q := 5) (mcQ := 2) (msQ := 12) (retQ := (some .double)) (st1 := [.ref b3]) C (c_X8_logbookAt hl h2) rfl w_602 w_603 w_1316 w_2 w_604 hd_X8_logbookAt rfl (by decide) g1 rfl rfl rfl ⟨(Nat.le_of_ble_eq_true rfl), (Nat.le_of_ble_eq_true rfl)⟩ (Nat.le_of_ble_eq_true rfl) ⟨(Nat.le_of_ble_eq_true rfl), (Nat.le_of_ble_eq_true rfl)⟩ dX8_mean_2 rfl (Nat.le_of_ble_eq_true rfl) (Nat.le_of_ble_eq_true rfl) rfl ?_
    refine r_astore_n (q := 6) (L' := [(2, .ref b3), (0, .ref a0), (1, .int p1)]) C dX8_mean_5 rfl rfl (by decide) rfl ?_
    refine r_aload_n (q := 7) C 1 dX8_mean_6 rfl rfl ?_
    rcases m_bt_of hf with ⟨_u, h5, hf⟩ | ⟨x6, h5, hf⟩
    · refine x_okV (q := 10) (mcQ := 2) (msQ := 12) (retQ := (some .double)) (st1 := []) C (c_X8_requireAnHour hl h5) rfl w_650 w_651 w_1317 w_2 w_652 hd_X8_requireAnHour rfl (by decide) g1 rfl rfl rfl ⟨(Nat.le_of_ble_eq_true rfl), (Nat.le_of_ble_eq_true rfl)⟩ (Nat.le_of_ble_eq_true rfl) ⟨(Nat.le_of_ble_eq_true rfl), (Nat.le_of_ble_eq_true rfl)⟩ dX8_mean_7 rfl (Nat.le_of_ble_eq_true rfl) (Nat.le_of_ble_eq_true rfl) rfl ?_
      refine r_aload_n (q := 11) C 0 dX8_mean_10 rfl rfl ?_
      obtain ⟨g7, hf⟩ := m_gd_of hf
      refine gf_X8_234 (q := 14) C dX8_mean_11 g7 rfl ?_
      refine r_l2d (q := 15) C dX8_mean_14 rfl ?_
      refine r_aload_n (q := 16) C 1 dX8_mean_15 rfl rfl ?_
      obtain ⟨b8, e9, hf⟩ := m_b1_of hf
      refine gf_X8_29 (q := 19) C dX8_mean_16 g1 e9 rfl ?_
      obtain ⟨g10, hf⟩ := m_gd_of hf
      obtain ⟨b11, e12, hf⟩ := m_b1_of hf
      refine gf_X8_95 (q := 22) C dX8_mean_19 g10 e12 rfl ?_
      obtain ⟨g13, hf⟩ := m_gd_of hf
      refine gf_X8_98 (q := 25) C dX8_mean_22 g13 rfl ?_
      refine r_i2d (q := 26) C dX8_mean_25 rfl ?_
      obtain ⟨g14, hf⟩ := m_gd_of hf
      refine r_ddiv (q := 27) C dX8_mean_26 (m_n64 g14) rfl ?_
      obtain rfl := m_so1 hf
      exact x_dret C F (Nat.le_of_ble_eq_true rfl) (Nat.le_of_ble_eq_true rfl) dX8_mean_27
    · subst hf
      exact x_erV C (c_X8_requireAnHour hl h5) F rfl w_650 w_651 w_1317 w_2 w_652 hd_X8_requireAnHour rfl (by decide) g1 rfl rfl rfl ⟨(Nat.le_of_ble_eq_true rfl), (Nat.le_of_ble_eq_true rfl)⟩ (Nat.le_of_ble_eq_true rfl) ⟨(Nat.le_of_ble_eq_true rfl), (Nat.le_of_ble_eq_true rfl)⟩ dX8_mean_7 rfl (Nat.le_of_ble_eq_true rfl) (Nat.le_of_ble_eq_true rfl)
  · subst hf
    exact x_erV C (c_X8_logbookAt hl h2) F rfl w_602 w_603 w_1316 w_2 w_604 hd_X8_logbookAt rfl (by decide) g1 rfl rfl rfl ⟨(Nat.le_of_ble_eq_true rfl), (Nat.le_of_ble_eq_true rfl)⟩ (Nat.le_of_ble_eq_true rfl) ⟨(Nat.le_of_ble_eq_true rfl), (Nat.le_of_ble_eq_true rfl)⟩ dX8_mean_2 rfl (Nat.le_of_ble_eq_true rfl) (Nat.le_of_ble_eq_true rfl)
def f_X8_move (Z : m_Z) (S : m_S) (a0 : Nat) (p1 : Int32) (p2 : Int32) : Option ((Except String Int32) × m_S) := m_gd (m_ok Z a0 8) (m_btw (f_X8_caseOf Z S a0 p1) S (fun v3 => m_btw (f_X8_vitrineAt Z S a0 p2) S (fun b6 => (if v3 = p2 then some (.error "java/lang/IllegalStateException", S) else m_gd (m_ok Z b6 7) (m_b1 (f_X7_isFull Z S b6) (fun v11 => (if v11 = 0 then m_btw (f_X8_vitrineAt Z S a0 v3) S (fun b14 => m_gd (m_ok Z b14 7) (m_b1 (f_X7_indexOf Z S b14 p1) (fun v18 => m_b1 (f_X7_moistureOf Z S b14 v18) (fun v20 => m_bw (f_X7_putCopyOf Z S b6 b14 v18) (fun _u S22 => m_bw (f_X7_takeOut Z S22 b14 v18) (fun _u S24 => m_btw (f_X8_logbookAt Z S24 a0 v3) S24 (fun b26 => m_gd (m_ok Z b26 2) (m_lt (m_pJ S24 b26 3 ((S24.2.1 b26 3) + v20.toInt64)) (fun S29 => m_btw (f_X8_logbookAt Z S29 a0 p2) S29 (fun b32 => m_gd (m_ok Z b32 2) (m_lt (m_pJ S29 b32 2 ((S29.2.1 b32 2) + v20.toInt64)) (fun S35 => some ((.ok v3), S35))))))))))))) else some (.error "java/lang/IllegalStateException", S))))))))
abbrev rm_X8_move : Room := { frames := 7, cells := 5, slots := 30, locals := 104 }
theorem hd_X8_move : yX8_move.cls = RX8 ∧ yX8_move.cls ≠ "java/lang/invoke/MethodHandle" ∧ yX8_move.cls ≠ "java/lang/invoke/VarHandle" ∧ (parseMethodDescriptor yX8_move.desc).map (fun d => d.parameters.length) = some 2 := by decide +kernel
set_option maxHeartbeats 4000000 in
set_option maxRecDepth 100000 in
theorem c_X8_move {l : Launch} (hl : l.stackTraces = false) {Z : m_Z} {S : m_S} {a0 : Nat} {p1 : Int32} {p2 : Int32} {rZ9 : Except String Int32} {SZ9 : m_S} (hf : f_X8_move Z S a0 p1 p2 = some (rZ9, SZ9)) : m_Cx l yX8_move (.code yX8_move cX8_move 8 (some .int) :: m_ws) rm_X8_move 5 30 (fun f => [.ref a0, .int p1, .int p2]) Z S (m_rv (fun r => some (.int r)) rZ9) SZ9 := by
  unfold f_X8_move at hf
  refine m_entX hl (by decide) (fun _ => Nat.le_of_ble_eq_true rfl) (fun x C F => ?_)
  have C : m_H x l RX8 cX8_move 8 rm_X8_move := C
  show m_G x Z S 8 0 0 0 [(0, .ref a0), (1, .int p1), (2, .int p2)] []
  refine r_aload_n (q := 1) C 0 dX8_move_0 rfl rfl ?_
  refine r_iload_n (q := 2) C 1 dX8_move_1 rfl rfl ?_
  obtain ⟨g1, hf⟩ := m_gd_of hf
  rcases m_btw_of hf with ⟨v3, h2, hf⟩ | ⟨x4, h2, hf⟩
  · refine x_okV (q := 5) (mcQ := 5) (msQ := 30) (retQ := (some .int)) (st1 := [.int v3]) C (c_X8_caseOf hl h2) rfl w_752 w_720 w_721 w_2 w_722 hd_X8_caseOf rfl (by decide) g1 rfl rfl rfl ⟨(Nat.le_of_ble_eq_true rfl), (Nat.le_of_ble_eq_true rfl)⟩ (Nat.le_of_ble_eq_true rfl) ⟨(Nat.le_of_ble_eq_true rfl), (Nat.le_of_ble_eq_true rfl)⟩ dX8_move_2 rfl (Nat.le_of_ble_eq_true rfl) (Nat.le_of_ble_eq_true rfl) rfl ?_
    refine r_istore_n (q := 6) (L' := [(3, .int v3), (0, .ref a0), (1, .int p1), (2, .int p2)]) C dX8_move_5 rfl rfl (by decide) rfl ?_
    refine r_aload_n (q := 7) C 1 dX8_move_6 rfl rfl ?_
    refine r_iload_n (q := 8) C 3 dX8_move_7 rfl rfl ?_
    rcases m_btw_of hf with ⟨b6, h5, hf⟩ | ⟨x7, h5, hf⟩
    · refine x_okV (q := 11) (mcQ := 5) (msQ := 30) (retQ := (some .int)) (st1 := [.ref b6]) C (c_X8_vitrineAt hl h5) rfl w_599 w_600 w_1315 w_2 w_601 hd_X8_vitrineAt rfl (by decide) g1 rfl rfl rfl ⟨(Nat.le_of_ble_eq_true rfl), (Nat.le_of_ble_eq_true rfl)⟩ (Nat.le_of_ble_eq_true rfl) ⟨(Nat.le_of_ble_eq_true rfl), (Nat.le_of_ble_eq_true rfl)⟩ dX8_move_8 rfl (Nat.le_of_ble_eq_true rfl) (Nat.le_of_ble_eq_true rfl) rfl ?_
      refine r_astore (q := 13) (L' := [(4, .ref b6), (3, .int v3), (0, .ref a0), (1, .int p1), (2, .int p2)]) C dX8_move_11 rfl (by decide) rfl ?_
      refine r_iload_n (q := 14) C 1 dX8_move_13 rfl rfl ?_
      refine r_iload_n (q := 15) C 4 dX8_move_14 rfl rfl ?_
      refine r_icmp_eq (t := 26) (q := 18) C dX8_move_15 (by decide) rfl (fun c8 => ?_) (fun c8 => ?_)
      · replace hf := m_if1 hf c8
        obtain ⟨rfl, rfl⟩ := m_so2 hf
        exact x_thrIW (text := "it is there already, or the case has 5 cassettes") (ti := 31) C F w_226 w_15 (by decide +kernel) dX8_move_26 dX8_move_29 dX8_move_30 dX8_move_33 dX8_move_36 (Nat.le_of_ble_eq_true rfl) (Nat.le_of_ble_eq_true rfl) (Nat.le_of_ble_eq_true rfl) (Nat.le_of_ble_eq_true rfl) (Nat.le_of_ble_eq_true rfl) (Nat.le_of_ble_eq_true rfl)
      · replace hf := m_if0 hf c8
        refine r_aload (q := 20) C 0 dX8_move_18 rfl rfl ?_
        obtain ⟨g9, hf⟩ := m_gd_of hf
        obtain ⟨v11, h10, hf⟩ := m_b1_of hf
        refine r_callV (mc := 0) (ms := 0) (q := 23) (st1 := [.int v11]) C (c_X7_isFull hl h10) rfl w_738 w_475 w_476 w_6 w_477 hd_X7_isFull rfl (by decide) g9 rfl rfl rfl ⟨(Nat.le_of_ble_eq_true rfl), (Nat.le_of_ble_eq_true rfl)⟩ (Nat.le_of_ble_eq_true rfl) ⟨(Nat.le_of_ble_eq_true rfl), (Nat.le_of_ble_eq_true rfl)⟩ dX8_move_20 rfl rfl ?_
        refine r_if_eq (t := 37) (q := 26) C dX8_move_23 (by decide) rfl (fun c12 => ?_) (fun c12 => ?_)
        · replace hf := m_if1 hf c12
          refine r_aload_n (q := 38) C 2 dX8_move_37 rfl rfl ?_
          refine r_iload_n (q := 39) C 1 dX8_move_38 rfl rfl ?_
          rcases m_btw_of hf with ⟨b14, h13, hf⟩ | ⟨x15, h13, hf⟩
          · refine x_okV (q := 42) (mcQ := 5) (msQ := 30) (retQ := (some .int)) (st1 := [.ref b14]) C (c_X8_vitrineAt hl h13) rfl w_599 w_600 w_1315 w_2 w_601 hd_X8_vitrineAt rfl (by decide) g1 rfl rfl rfl ⟨(Nat.le_of_ble_eq_true rfl), (Nat.le_of_ble_eq_true rfl)⟩ (Nat.le_of_ble_eq_true rfl) ⟨(Nat.le_of_ble_eq_true rfl), (Nat.le_of_ble_eq_true rfl)⟩ dX8_move_39 rfl (Nat.le_of_ble_eq_true rfl) (Nat.le_of_ble_eq_true rfl) rfl ?_
            refine r_astore (q := 44) (L' := [(5, .ref b14), (4, .ref b6), (3, .int v3), (0, .ref a0), (1, .int p1), (2, .int p2)]) C dX8_move_42 rfl (by decide) rfl ?_
            refine r_aload (q := 46) C 0 dX8_move_44 rfl rfl ?_
            refine r_iload_n (q := 47) C 4 dX8_move_46 rfl rfl ?_
            obtain ⟨g16, hf⟩ := m_gd_of hf
            obtain ⟨v18, h17, hf⟩ := m_b1_of hf
            refine r_callV (mc := 0) (ms := 0) (q := 50) (st1 := [.int v18]) C (c_X7_indexOf hl h17) rfl w_753 w_728 w_729 w_6 w_730 hd_X7_indexOf rfl (by decide) g16 rfl rfl rfl ⟨(Nat.le_of_ble_eq_true rfl), (Nat.le_of_ble_eq_true rfl)⟩ (Nat.le_of_ble_eq_true rfl) ⟨(Nat.le_of_ble_eq_true rfl), (Nat.le_of_ble_eq_true rfl)⟩ dX8_move_47 rfl rfl ?_
            refine r_istore (q := 52) (L' := [(6, .int v18), (5, .ref b14), (4, .ref b6), (3, .int v3), (0, .ref a0), (1, .int p1), (2, .int p2)]) C dX8_move_50 rfl (by decide) rfl ?_
            refine r_aload (q := 54) C 1 dX8_move_52 rfl rfl ?_
            refine r_iload (q := 56) C 0 dX8_move_54 rfl rfl ?_
            obtain ⟨v20, h19, hf⟩ := m_b1_of hf
            refine r_callV (mc := 0) (ms := 0) (q := 59) (st1 := [.int v20]) C (c_X7_moistureOf hl h19) rfl w_754 w_755 w_756 w_6 w_757 hd_X7_moistureOf rfl (by decide) g16 rfl rfl rfl ⟨(Nat.le_of_ble_eq_true rfl), (Nat.le_of_ble_eq_true rfl)⟩ (Nat.le_of_ble_eq_true rfl) ⟨(Nat.le_of_ble_eq_true rfl), (Nat.le_of_ble_eq_true rfl)⟩ dX8_move_56 rfl rfl ?_
            refine r_istore (q := 61) (L' := [(7, .int v20), (6, .int v18), (5, .ref b14), (4, .ref b6), (3, .int v3), (0, .ref a0), (1, .int p1), (2, .int p2)]) C dX8_move_59 rfl (by decide) rfl ?_
            refine r_aload (q := 63) C 3 dX8_move_61 rfl rfl ?_
            refine r_aload (q := 65) C 2 dX8_move_63 rfl rfl ?_
            refine r_iload (q := 67) C 1 dX8_move_65 rfl rfl ?_
            obtain ⟨_u, S22, h21, hf⟩ := m_bw_of hf
            refine r_callV (mc := 0) (ms := 0) (q := 70) (st1 := []) C (c_X7_putCopyOf hl h21) rfl w_769 w_770 w_771 w_6 w_772 hd_X7_putCopyOf rfl (by decide) g9 rfl rfl rfl ⟨(Nat.le_of_ble_eq_true rfl), (Nat.le_of_ble_eq_true rfl)⟩ (Nat.le_of_ble_eq_true rfl) ⟨(Nat.le_of_ble_eq_true rfl), (Nat.le_of_ble_eq_true rfl)⟩ dX8_move_67 rfl rfl ?_
            refine r_aload (q := 72) C 2 dX8_move_70 rfl rfl ?_
            refine r_iload (q := 74) C 1 dX8_move_72 rfl rfl ?_
            obtain ⟨_u, S24, h23, hf⟩ := m_bw_of hf
            refine r_callV (mc := 0) (ms := 0) (q := 77) (st1 := []) C (c_X7_takeOut hl h23) rfl w_758 w_759 w_760 w_6 w_761 hd_X7_takeOut rfl (by decide) g16 rfl rfl rfl ⟨(Nat.le_of_ble_eq_true rfl), (Nat.le_of_ble_eq_true rfl)⟩ (Nat.le_of_ble_eq_true rfl) ⟨(Nat.le_of_ble_eq_true rfl), (Nat.le_of_ble_eq_true rfl)⟩ dX8_move_74 rfl rfl ?_
            refine r_aload_n (q := 78) C 5 dX8_move_77 rfl rfl ?_
            refine r_iload_n (q := 79) C 4 dX8_move_78 rfl rfl ?_
            rcases m_btw_of hf with ⟨b26, h25, hf⟩ | ⟨x27, h25, hf⟩
            · refine x_okV (q := 82) (mcQ := 5) (msQ := 30) (retQ := (some .int)) (st1 := [.ref b26]) C (c_X8_logbookAt hl h25) rfl w_602 w_603 w_1316 w_2 w_604 hd_X8_logbookAt rfl (by decide) g1 rfl rfl rfl ⟨(Nat.le_of_ble_eq_true rfl), (Nat.le_of_ble_eq_true rfl)⟩ (Nat.le_of_ble_eq_true rfl) ⟨(Nat.le_of_ble_eq_true rfl), (Nat.le_of_ble_eq_true rfl)⟩ dX8_move_79 rfl (Nat.le_of_ble_eq_true rfl) (Nat.le_of_ble_eq_true rfl) rfl ?_
              refine r_dup (q := 83) C dX8_move_82 rfl rfl ?_
              obtain ⟨g28, hf⟩ := m_gd_of hf
              refine gf_X8_210 (q := 86) C dX8_move_83 g28 rfl ?_
              refine r_iload (q := 88) C 0 dX8_move_86 rfl rfl ?_
              refine r_i2l (q := 89) C dX8_move_88 rfl ?_
              refine r_ladd (q := 90) C dX8_move_89 rfl ?_
              obtain ⟨S29, e30, hf⟩ := m_lt_of hf
              refine pf_X8_210 (q := 93) C dX8_move_90 g28 e30 rfl ?_
              refine r_aload_n (q := 94) C 5 dX8_move_93 rfl rfl ?_
              refine r_iload_n (q := 95) C 7 dX8_move_94 rfl rfl ?_
              rcases m_btw_of hf with ⟨b32, h31, hf⟩ | ⟨x33, h31, hf⟩
              · refine x_okV (q := 98) (mcQ := 5) (msQ := 30) (retQ := (some .int)) (st1 := [.ref b32]) C (c_X8_logbookAt hl h31) rfl w_602 w_603 w_1316 w_2 w_604 hd_X8_logbookAt rfl (by decide) g1 rfl rfl rfl ⟨(Nat.le_of_ble_eq_true rfl), (Nat.le_of_ble_eq_true rfl)⟩ (Nat.le_of_ble_eq_true rfl) ⟨(Nat.le_of_ble_eq_true rfl), (Nat.le_of_ble_eq_true rfl)⟩ dX8_move_95 rfl (Nat.le_of_ble_eq_true rfl) (Nat.le_of_ble_eq_true rfl) rfl ?_
                refine r_dup (q := 99) C dX8_move_98 rfl rfl ?_
                obtain ⟨g34, hf⟩ := m_gd_of hf
                refine gf_X8_207 (q := 102) C dX8_move_99 g34 rfl ?_
                refine r_iload (q := 104) C 0 dX8_move_102 rfl rfl ?_
                refine r_i2l (q := 105) C dX8_move_104 rfl ?_
                refine r_ladd (q := 106) C dX8_move_105 rfl ?_
                obtain ⟨S35, e36, hf⟩ := m_lt_of hf
                refine pf_X8_207 (q := 109) C dX8_move_106 g34 e36 rfl ?_
                refine r_iload_n (q := 110) C 4 dX8_move_109 rfl rfl ?_
                obtain ⟨rfl, rfl⟩ := m_so2 hf
                exact x_iret C F (Nat.le_of_ble_eq_true rfl) (Nat.le_of_ble_eq_true rfl) dX8_move_110
              · obtain ⟨rfl, rfl⟩ := Prod.mk.inj hf
                exact x_erV C (c_X8_logbookAt hl h31) F rfl w_602 w_603 w_1316 w_2 w_604 hd_X8_logbookAt rfl (by decide) g1 rfl rfl rfl ⟨(Nat.le_of_ble_eq_true rfl), (Nat.le_of_ble_eq_true rfl)⟩ (Nat.le_of_ble_eq_true rfl) ⟨(Nat.le_of_ble_eq_true rfl), (Nat.le_of_ble_eq_true rfl)⟩ dX8_move_95 rfl (Nat.le_of_ble_eq_true rfl) (Nat.le_of_ble_eq_true rfl)
            · obtain ⟨rfl, rfl⟩ := Prod.mk.inj hf
              exact x_erV C (c_X8_logbookAt hl h25) F rfl w_602 w_603 w_1316 w_2 w_604 hd_X8_logbookAt rfl (by decide) g1 rfl rfl rfl ⟨(Nat.le_of_ble_eq_true rfl), (Nat.le_of_ble_eq_true rfl)⟩ (Nat.le_of_ble_eq_true rfl) ⟨(Nat.le_of_ble_eq_true rfl), (Nat.le_of_ble_eq_true rfl)⟩ dX8_move_79 rfl (Nat.le_of_ble_eq_true rfl) (Nat.le_of_ble_eq_true rfl)
          · obtain ⟨rfl, rfl⟩ := Prod.mk.inj hf
            exact x_erV C (c_X8_vitrineAt hl h13) F rfl w_599 w_600 w_1315 w_2 w_601 hd_X8_vitrineAt rfl (by decide) g1 rfl rfl rfl ⟨(Nat.le_of_ble_eq_true rfl), (Nat.le_of_ble_eq_true rfl)⟩ (Nat.le_of_ble_eq_true rfl) ⟨(Nat.le_of_ble_eq_true rfl), (Nat.le_of_ble_eq_true rfl)⟩ dX8_move_39 rfl (Nat.le_of_ble_eq_true rfl) (Nat.le_of_ble_eq_true rfl)
        · replace hf := m_if0 hf c12
          obtain ⟨rfl, rfl⟩ := m_so2 hf
          exact x_thrIW (text := "it is there already, or the case has 5 cassettes") (ti := 31) C F w_226 w_15 (by decide +kernel) dX8_move_26 dX8_move_29 dX8_move_30 dX8_move_33 dX8_move_36 (Nat.le_of_ble_eq_true rfl) (Nat.le_of_ble_eq_true rfl) (Nat.le_of_ble_eq_true rfl) (Nat.le_of_ble_eq_true rfl) (Nat.le_of_ble_eq_true rfl) (Nat.le_of_ble_eq_true rfl)
    · obtain ⟨rfl, rfl⟩ := Prod.mk.inj hf
      exact x_erV C (c_X8_vitrineAt hl h5) F rfl w_599 w_600 w_1315 w_2 w_601 hd_X8_vitrineAt rfl (by decide) g1 rfl rfl rfl ⟨(Nat.le_of_ble_eq_true rfl), (Nat.le_of_ble_eq_true rfl)⟩ (Nat.le_of_ble_eq_true rfl) ⟨(Nat.le_of_ble_eq_true rfl), (Nat.le_of_ble_eq_true rfl)⟩ dX8_move_8 rfl (Nat.le_of_ble_eq_true rfl) (Nat.le_of_ble_eq_true rfl)
  · obtain ⟨rfl, rfl⟩ := Prod.mk.inj hf
    exact x_erV C (c_X8_caseOf hl h2) F rfl w_752 w_720 w_721 w_2 w_722 hd_X8_caseOf rfl (by decide) g1 rfl rfl rfl ⟨(Nat.le_of_ble_eq_true rfl), (Nat.le_of_ble_eq_true rfl)⟩ (Nat.le_of_ble_eq_true rfl) ⟨(Nat.le_of_ble_eq_true rfl), (Nat.le_of_ble_eq_true rfl)⟩ dX8_move_2 rfl (Nat.le_of_ble_eq_true rfl) (Nat.le_of_ble_eq_true rfl)
def f_X8_open (Z : m_Z) (S : m_S) (a0 : Nat) (p1 : Int32) : Option ((Except String Int32) × m_S) := m_gd (m_ok Z a0 8) (m_btw (f_X8_vitrineAt Z S a0 p1) S (fun b3 => m_gd (m_ok Z b3 7) (m_b1 (S.2.2 a0 3) (fun b6 => m_gd (m_ok Z b6 6) (m_b1 (S.2.2 b6 0) (fun b9 => m_b1 (S.2.2 a0 1) (fun b11 => m_gd (m_ok Z b9 4) (m_b1 (f_X4_humidity Z S b9 b11) (fun v15 => m_bw (f_X7_fillAir Z S b3 v15) (fun _u S17 => m_lt ((S17.1 b3 4) - (S.1 b3 4)) (fun v18 => m_btw (f_X8_logbookAt Z S17 a0 p1) S17 (fun b21 => m_gd (m_ok Z b21 2) (m_lt (m_pJ S17 b21 1 ((S17.2.1 b21 1) + v18.toInt64)) (fun S24 => some ((.ok v18), S24)))))))))))))))
abbrev rm_X8_open : Room := { frames := 7, cells := 2, slots := 12, locals := 103 }
theorem hd_X8_open : yX8_open.cls = RX8 ∧ yX8_open.cls ≠ "java/lang/invoke/MethodHandle" ∧ yX8_open.cls ≠ "java/lang/invoke/VarHandle" ∧ (parseMethodDescriptor yX8_open.desc).map (fun d => d.parameters.length) = some 1 := by decide +kernel
set_option maxHeartbeats 4000000 in
set_option maxRecDepth 100000 in
theorem c_X8_open {l : Launch} (hl : l.stackTraces = false) {Z : m_Z} {S : m_S} {a0 : Nat} {p1 : Int32} {rZ9 : Except String Int32} {SZ9 : m_S} (hf : f_X8_open Z S a0 p1 = some (rZ9, SZ9)) : m_Cx l yX8_open (.code yX8_open cX8_open 5 (some .int) :: m_ws) rm_X8_open 2 12 (fun f => [.ref a0, .int p1]) Z S (m_rv (fun r => some (.int r)) rZ9) SZ9 := by
  unfold f_X8_open at hf
  refine m_entX hl (by decide) (fun _ => Nat.le_of_ble_eq_true rfl) (fun x C F => ?_)
  have C : m_H x l RX8 cX8_open 5 rm_X8_open := C
  show m_G x Z S 5 0 0 0 [(0, .ref a0), (1, .int p1)] []
  refine r_aload_n (q := 1) C 0 dX8_open_0 rfl rfl ?_
  refine r_iload_n (q := 2) C 1 dX8_open_1 rfl rfl ?_
  obtain ⟨g1, hf⟩ := m_gd_of hf
  rcases m_btw_of hf with ⟨b3, h2, hf⟩ | ⟨x4, h2, hf⟩
  · refine x_okV (q := 5) (mcQ := 2) (msQ := 12) (retQ := (some .int)) (st1 := [.ref b3]) C (c_X8_vitrineAt hl h2) rfl w_599 w_600 w_1315 w_2 w_601 hd_X8_vitrineAt rfl (by decide) g1 rfl rfl rfl ⟨(Nat.le_of_ble_eq_true rfl), (Nat.le_of_ble_eq_true rfl)⟩ (Nat.le_of_ble_eq_true rfl) ⟨(Nat.le_of_ble_eq_true rfl), (Nat.le_of_ble_eq_true rfl)⟩ dX8_open_2 rfl (Nat.le_of_ble_eq_true rfl) (Nat.le_of_ble_eq_true rfl) rfl ?_
    refine r_astore_n (q := 6) (L' := [(2, .ref b3), (0, .ref a0), (1, .int p1)]) C dX8_open_5 rfl rfl (by decide) rfl ?_
    refine r_aload_n (q := 7) C 0 dX8_open_6 rfl rfl ?_
    obtain ⟨g5, hf⟩ := m_gd_of hf
    refine gf_X8_170 (q := 10) C dX8_open_7 g5 rfl ?_
    refine r_istore_n (q := 11) (L' := [(3, .int (S.1 b3 4)), (2, .ref b3), (0, .ref a0), (1, .int p1)]) C dX8_open_10 rfl rfl (by decide) rfl ?_
    refine r_aload_n (q := 12) C 1 dX8_open_11 rfl rfl ?_
    refine r_aload_n (q := 13) C 2 dX8_open_12 rfl rfl ?_
    obtain ⟨b6, e7, hf⟩ := m_b1_of hf
    refine gf_X8_29 (q := 16) C dX8_open_13 g1 e7 rfl ?_
    obtain ⟨g8, hf⟩ := m_gd_of hf
    obtain ⟨b9, e10, hf⟩ := m_b1_of hf
    refine gf_X8_95 (q := 19) C dX8_open_16 g8 e10 rfl ?_
    refine r_aload_n (q := 20) C 2 dX8_open_19 rfl rfl ?_
    obtain ⟨b11, e12, hf⟩ := m_b1_of hf
    refine gf_X8_19 (q := 23) C dX8_open_20 g1 e12 rfl ?_
    obtain ⟨g13, hf⟩ := m_gd_of hf
    obtain ⟨v15, h14, hf⟩ := m_b1_of hf
    refine r_callV (mc := 0) (ms := 0) (q := 26) (st1 := [.int v15, .ref b3]) C (c_X4_humidity hl h14) rfl w_544 w_545 w_546 w_9 w_547 hd_X4_humidity rfl (by decide) g13 rfl rfl rfl ⟨(Nat.le_of_ble_eq_true rfl), (Nat.le_of_ble_eq_true rfl)⟩ (Nat.le_of_ble_eq_true rfl) ⟨(Nat.le_of_ble_eq_true rfl), (Nat.le_of_ble_eq_true rfl)⟩ dX8_open_23 rfl rfl ?_
    obtain ⟨_u, S17, h16, hf⟩ := m_bw_of hf
    refine r_callV (mc := 0) (ms := 0) (q := 29) (st1 := []) C (c_X7_fillAir hl h16) rfl w_695 w_461 w_462 w_6 w_463 hd_X7_fillAir rfl (by decide) g5 rfl rfl rfl ⟨(Nat.le_of_ble_eq_true rfl), (Nat.le_of_ble_eq_true rfl)⟩ (Nat.le_of_ble_eq_true rfl) ⟨(Nat.le_of_ble_eq_true rfl), (Nat.le_of_ble_eq_true rfl)⟩ dX8_open_26 rfl rfl ?_
    refine r_aload_n (q := 30) C 1 dX8_open_29 rfl rfl ?_
    refine gf_X8_170 (q := 33) C dX8_open_30 g5 rfl ?_
    refine r_iload_n (q := 34) C 0 dX8_open_33 rfl rfl ?_
    refine r_isub (q := 35) C dX8_open_34 rfl ?_
    obtain ⟨v18, e19, hf⟩ := m_lt_of hf
    refine r_nm e19 ?_
    refine r_istore (q := 37) (L' := [(4, .int v18), (3, .int (S.1 b3 4)), (2, .ref b3), (0, .ref a0), (1, .int p1)]) C dX8_open_35 rfl (by decide) rfl ?_
    refine r_aload_n (q := 38) C 3 dX8_open_37 rfl rfl ?_
    refine r_iload_n (q := 39) C 4 dX8_open_38 rfl rfl ?_
    rcases m_btw_of hf with ⟨b21, h20, hf⟩ | ⟨x22, h20, hf⟩
    · refine x_okV (q := 42) (mcQ := 2) (msQ := 12) (retQ := (some .int)) (st1 := [.ref b21]) C (c_X8_logbookAt hl h20) rfl w_602 w_603 w_1316 w_2 w_604 hd_X8_logbookAt rfl (by decide) g1 rfl rfl rfl ⟨(Nat.le_of_ble_eq_true rfl), (Nat.le_of_ble_eq_true rfl)⟩ (Nat.le_of_ble_eq_true rfl) ⟨(Nat.le_of_ble_eq_true rfl), (Nat.le_of_ble_eq_true rfl)⟩ dX8_open_39 rfl (Nat.le_of_ble_eq_true rfl) (Nat.le_of_ble_eq_true rfl) rfl ?_
      refine r_dup (q := 43) C dX8_open_42 rfl rfl ?_
      obtain ⟨g23, hf⟩ := m_gd_of hf
      refine gf_X8_204 (q := 46) C dX8_open_43 g23 rfl ?_
      refine r_iload (q := 48) C 0 dX8_open_46 rfl rfl ?_
      refine r_i2l (q := 49) C dX8_open_48 rfl ?_
      refine r_ladd (q := 50) C dX8_open_49 rfl ?_
      obtain ⟨S24, e25, hf⟩ := m_lt_of hf
      refine pf_X8_204 (q := 53) C dX8_open_50 g23 e25 rfl ?_
      refine r_iload (q := 55) C 0 dX8_open_53 rfl rfl ?_
      obtain ⟨rfl, rfl⟩ := m_so2 hf
      exact x_iret C F (Nat.le_of_ble_eq_true rfl) (Nat.le_of_ble_eq_true rfl) dX8_open_55
    · obtain ⟨rfl, rfl⟩ := Prod.mk.inj hf
      exact x_erV C (c_X8_logbookAt hl h20) F rfl w_602 w_603 w_1316 w_2 w_604 hd_X8_logbookAt rfl (by decide) g1 rfl rfl rfl ⟨(Nat.le_of_ble_eq_true rfl), (Nat.le_of_ble_eq_true rfl)⟩ (Nat.le_of_ble_eq_true rfl) ⟨(Nat.le_of_ble_eq_true rfl), (Nat.le_of_ble_eq_true rfl)⟩ dX8_open_39 rfl (Nat.le_of_ble_eq_true rfl) (Nat.le_of_ble_eq_true rfl)
  · obtain ⟨rfl, rfl⟩ := Prod.mk.inj hf
    exact x_erV C (c_X8_vitrineAt hl h2) F rfl w_599 w_600 w_1315 w_2 w_601 hd_X8_vitrineAt rfl (by decide) g1 rfl rfl rfl ⟨(Nat.le_of_ble_eq_true rfl), (Nat.le_of_ble_eq_true rfl)⟩ (Nat.le_of_ble_eq_true rfl) ⟨(Nat.le_of_ble_eq_true rfl), (Nat.le_of_ble_eq_true rfl)⟩ dX8_open_2 rfl (Nat.le_of_ble_eq_true rfl) (Nat.le_of_ble_eq_true rfl)
def f_X8_recorded (Z : m_Z) (S : m_S) (a0 : Nat) (p1 : Int32) (p2 : Int32) : Option (Except String Int32) := m_gd (m_ok Z a0 8) (m_bt (f_X8_logbookAt Z S a0 p1) (fun b3 => (if p2 < 0 then some (.error "java/lang/IllegalArgumentException") else (if p2 < (24 : Int32) then m_b1 (S.2.2 a0 3) (fun b7 => m_gd (m_ok Z b7 6) (m_b1 (S.2.2 b7 0) (fun b10 => m_gd (m_ok Z b10 4) ((if p2 < (S.1 b10 0) then m_gd (m_ok Z b3 2) (m_b1 (f_X2_recordOf Z S b3 (((S.1 b10 0) - (1 : Int32)) - p2)) (fun v16 => some (.ok v16))) else some (.error "java/util/NoSuchElementException")))))) else some (.error "java/lang/IllegalArgumentException")))))
abbrev rm_X8_recorded : Room := { frames := 7, cells := 2, slots := 12, locals := 103 }
theorem hd_X8_recorded : yX8_recorded.cls = RX8 ∧ yX8_recorded.cls ≠ "java/lang/invoke/MethodHandle" ∧ yX8_recorded.cls ≠ "java/lang/invoke/VarHandle" ∧ (parseMethodDescriptor yX8_recorded.desc).map (fun d => d.parameters.length) = some 2 := by decide +kernel
set_option maxHeartbeats 4000000 in
set_option maxRecDepth 100000 in
theorem c_X8_recorded {l : Launch} (hl : l.stackTraces = false) {Z : m_Z} {S : m_S} {a0 : Nat} {p1 : Int32} {p2 : Int32} {rZ9 : Except String Int32} (hf : f_X8_recorded Z S a0 p1 p2 = some rZ9) : m_Cx l yX8_recorded (.code yX8_recorded cX8_recorded 4 (some .int) :: m_ws) rm_X8_recorded 2 12 (fun f => [.ref a0, .int p1, .int p2]) Z S (m_rv (fun r => some (.int r)) rZ9) S := by
  unfold f_X8_recorded at hf
  refine m_entX hl (by decide) (fun _ => Nat.le_of_ble_eq_true rfl) (fun x C F => ?_)
  have C : m_H x l RX8 cX8_recorded 4 rm_X8_recorded := C
  show m_G x Z S 4 0 0 0 [(0, .ref a0), (1, .int p1), (2, .int p2)] []
  refine r_aload_n (q := 1) C 0 dX8_recorded_0 rfl rfl ?_
  refine r_iload_n (q := 2) C 1 dX8_recorded_1 rfl rfl ?_
  obtain ⟨g1, hf⟩ := m_gd_of hf
  rcases m_bt_of hf with ⟨b3, h2, hf⟩ | ⟨x4, h2, hf⟩
  · refine x_okV (q := 5) (mcQ := 2) (msQ := 12) (retQ := (some .int)) (st1 := [.ref b3]) C (c_X8_logbookAt hl h2) rfl w_602 w_603 w_1316 w_2 w_604 hd_X8_logbookAt rfl (by decide) g1 rfl rfl rfl ⟨(Nat.le_of_ble_eq_true rfl), (Nat.le_of_ble_eq_true rfl)⟩ (Nat.le_of_ble_eq_true rfl) ⟨(Nat.le_of_ble_eq_true rfl), (Nat.le_of_ble_eq_true rfl)⟩ dX8_recorded_2 rfl (Nat.le_of_ble_eq_true rfl) (Nat.le_of_ble_eq_true rfl) rfl ?_
    refine r_astore_n (q := 6) (L' := [(3, .ref b3), (0, .ref a0), (1, .int p1), (2, .int p2)]) C dX8_recorded_5 rfl rfl (by decide) rfl ?_
    refine r_iload_n (q := 7) C 3 dX8_recorded_6 rfl rfl ?_
    refine r_if_lt (t := 16) (q := 10) C dX8_recorded_7 (by decide) rfl (fun c5 => ?_) (fun c5 => ?_)
    · replace hf := m_if1 hf c5
      obtain rfl := m_so1 hf
      exact x_thrA (text := "hours are 0 to 23") (ti := 20) C F w_553 w_21 (by decide +kernel) dX8_recorded_16 dX8_recorded_19 dX8_recorded_20 dX8_recorded_22 dX8_recorded_25 (Nat.le_of_ble_eq_true rfl) (Nat.le_of_ble_eq_true rfl) (Nat.le_of_ble_eq_true rfl) (Nat.le_of_ble_eq_true rfl) (Nat.le_of_ble_eq_true rfl) (Nat.le_of_ble_eq_true rfl)
    · replace hf := m_if0 hf c5
      refine r_iload_n (q := 11) C 3 dX8_recorded_10 rfl rfl ?_
      refine r_bipush (q := 13) (v := (24 : Int32)) C dX8_recorded_11 (by decide) rfl ?_
      refine r_icmp_lt (t := 26) (q := 16) C dX8_recorded_13 (by decide) rfl (fun c6 => ?_) (fun c6 => ?_)
      · replace hf := m_if1 hf c6
        refine r_iload_n (q := 27) C 3 dX8_recorded_26 rfl rfl ?_
        refine r_aload_n (q := 28) C 1 dX8_recorded_27 rfl rfl ?_
        obtain ⟨b7, e8, hf⟩ := m_b1_of hf
        refine gf_X8_29 (q := 31) C dX8_recorded_28 g1 e8 rfl ?_
        obtain ⟨g9, hf⟩ := m_gd_of hf
        obtain ⟨b10, e11, hf⟩ := m_b1_of hf
        refine gf_X8_95 (q := 34) C dX8_recorded_31 g9 e11 rfl ?_
        obtain ⟨g12, hf⟩ := m_gd_of hf
        refine gf_X8_98 (q := 37) C dX8_recorded_34 g12 rfl ?_
        refine r_icmp_lt (t := 50) (q := 40) C dX8_recorded_37 (by decide) rfl (fun c13 => ?_) (fun c13 => ?_)
        · replace hf := m_if1 hf c13
          refine r_aload_n (q := 51) C 0 dX8_recorded_50 rfl rfl ?_
          refine r_aload_n (q := 52) C 1 dX8_recorded_51 rfl rfl ?_
          refine gf_X8_29 (q := 55) C dX8_recorded_52 g1 e8 rfl ?_
          refine gf_X8_95 (q := 58) C dX8_recorded_55 g9 e11 rfl ?_
          refine gf_X8_98 (q := 61) C dX8_recorded_58 g12 rfl ?_
          refine r_iconst (q := 62) (v := (1 : Int32)) C dX8_recorded_61 (by decide) rfl ?_
          refine r_isub (q := 63) C dX8_recorded_62 rfl ?_
          refine r_iload_n (q := 64) C 3 dX8_recorded_63 rfl rfl ?_
          refine r_isub (q := 65) C dX8_recorded_64 rfl ?_
          obtain ⟨g14, hf⟩ := m_gd_of hf
          obtain ⟨v16, h15, hf⟩ := m_b1_of hf
          refine r_callV (mc := 0) (ms := 0) (q := 68) (st1 := [.int v16]) C (c_X2_recordOf hl h15) rfl w_639 w_640 w_641 w_10 w_642 hd_X2_recordOf rfl (by decide) g14 rfl rfl rfl ⟨(Nat.le_of_ble_eq_true rfl), (Nat.le_of_ble_eq_true rfl)⟩ (Nat.le_of_ble_eq_true rfl) ⟨(Nat.le_of_ble_eq_true rfl), (Nat.le_of_ble_eq_true rfl)⟩ dX8_recorded_65 rfl rfl ?_
          obtain rfl := m_so1 hf
          exact x_iret C F (Nat.le_of_ble_eq_true rfl) (Nat.le_of_ble_eq_true rfl) dX8_recorded_68
        · replace hf := m_if0 hf c13
          obtain rfl := m_so1 hf
          exact x_thrN (text := "not so many hours have passed") (ti := 21) C F w_626 w_22 (by decide +kernel) dX8_recorded_40 dX8_recorded_43 dX8_recorded_44 dX8_recorded_46 dX8_recorded_49 (Nat.le_of_ble_eq_true rfl) (Nat.le_of_ble_eq_true rfl) (Nat.le_of_ble_eq_true rfl) (Nat.le_of_ble_eq_true rfl) (Nat.le_of_ble_eq_true rfl) (Nat.le_of_ble_eq_true rfl)
      · replace hf := m_if0 hf c6
        obtain rfl := m_so1 hf
        exact x_thrA (text := "hours are 0 to 23") (ti := 20) C F w_553 w_21 (by decide +kernel) dX8_recorded_16 dX8_recorded_19 dX8_recorded_20 dX8_recorded_22 dX8_recorded_25 (Nat.le_of_ble_eq_true rfl) (Nat.le_of_ble_eq_true rfl) (Nat.le_of_ble_eq_true rfl) (Nat.le_of_ble_eq_true rfl) (Nat.le_of_ble_eq_true rfl) (Nat.le_of_ble_eq_true rfl)
  · subst hf
    exact x_erV C (c_X8_logbookAt hl h2) F rfl w_602 w_603 w_1316 w_2 w_604 hd_X8_logbookAt rfl (by decide) g1 rfl rfl rfl ⟨(Nat.le_of_ble_eq_true rfl), (Nat.le_of_ble_eq_true rfl)⟩ (Nat.le_of_ble_eq_true rfl) ⟨(Nat.le_of_ble_eq_true rfl), (Nat.le_of_ble_eq_true rfl)⟩ dX8_recorded_2 rfl (Nat.le_of_ble_eq_true rfl) (Nat.le_of_ble_eq_true rfl)
def f_X8_remove (Z : m_Z) (S : m_S) (a0 : Nat) (p1 : Int32) : Option ((Except String Int32) × m_S) := m_gd (m_ok Z a0 8) (m_btw (f_X8_caseOf Z S a0 p1) S (fun v3 => m_btw (f_X8_vitrineAt Z S a0 v3) S (fun b6 => m_gd (m_ok Z b6 7) (m_b1 (f_X7_indexOf Z S b6 p1) (fun v10 => m_b1 (f_X7_moistureOf Z S b6 v10) (fun v12 => m_bw (f_X7_takeOut Z S b6 v10) (fun _u S14 => m_btw (f_X8_logbookAt Z S14 a0 v3) S14 (fun b16 => m_gd (m_ok Z b16 2) (m_lt (m_pJ S14 b16 3 ((S14.2.1 b16 3) + v12.toInt64)) (fun S19 => some ((.ok v12), S19)))))))))))
abbrev rm_X8_remove : Room := { frames := 7, cells := 3, slots := 18, locals := 104 }
theorem hd_X8_remove : yX8_remove.cls = RX8 ∧ yX8_remove.cls ≠ "java/lang/invoke/MethodHandle" ∧ yX8_remove.cls ≠ "java/lang/invoke/VarHandle" ∧ (parseMethodDescriptor yX8_remove.desc).map (fun d => d.parameters.length) = some 1 := by decide +kernel
set_option maxHeartbeats 4000000 in
set_option maxRecDepth 100000 in
theorem c_X8_remove {l : Launch} (hl : l.stackTraces = false) {Z : m_Z} {S : m_S} {a0 : Nat} {p1 : Int32} {rZ9 : Except String Int32} {SZ9 : m_S} (hf : f_X8_remove Z S a0 p1 = some (rZ9, SZ9)) : m_Cx l yX8_remove (.code yX8_remove cX8_remove 6 (some .int) :: m_ws) rm_X8_remove 3 18 (fun f => [.ref a0, .int p1]) Z S (m_rv (fun r => some (.int r)) rZ9) SZ9 := by
  unfold f_X8_remove at hf
  refine m_entX hl (by decide) (fun _ => Nat.le_of_ble_eq_true rfl) (fun x C F => ?_)
  have C : m_H x l RX8 cX8_remove 6 rm_X8_remove := C
  show m_G x Z S 6 0 0 0 [(0, .ref a0), (1, .int p1)] []
  refine r_aload_n (q := 1) C 0 dX8_remove_0 rfl rfl ?_
  refine r_iload_n (q := 2) C 1 dX8_remove_1 rfl rfl ?_
  obtain ⟨g1, hf⟩ := m_gd_of hf
  rcases m_btw_of hf with ⟨v3, h2, hf⟩ | ⟨x4, h2, hf⟩
  · refine x_okV (q := 5) (mcQ := 3) (msQ := 18) (retQ := (some .int)) (st1 := [.int v3]) C (c_X8_caseOf hl h2) rfl w_752 w_720 w_721 w_2 w_722 hd_X8_caseOf rfl (by decide) g1 rfl rfl rfl ⟨(Nat.le_of_ble_eq_true rfl), (Nat.le_of_ble_eq_true rfl)⟩ (Nat.le_of_ble_eq_true rfl) ⟨(Nat.le_of_ble_eq_true rfl), (Nat.le_of_ble_eq_true rfl)⟩ dX8_remove_2 rfl (Nat.le_of_ble_eq_true rfl) (Nat.le_of_ble_eq_true rfl) rfl ?_
    refine r_istore_n (q := 6) (L' := [(2, .int v3), (0, .ref a0), (1, .int p1)]) C dX8_remove_5 rfl rfl (by decide) rfl ?_
    refine r_aload_n (q := 7) C 1 dX8_remove_6 rfl rfl ?_
    refine r_iload_n (q := 8) C 0 dX8_remove_7 rfl rfl ?_
    rcases m_btw_of hf with ⟨b6, h5, hf⟩ | ⟨x7, h5, hf⟩
    · refine x_okV (q := 11) (mcQ := 3) (msQ := 18) (retQ := (some .int)) (st1 := [.ref b6]) C (c_X8_vitrineAt hl h5) rfl w_599 w_600 w_1315 w_2 w_601 hd_X8_vitrineAt rfl (by decide) g1 rfl rfl rfl ⟨(Nat.le_of_ble_eq_true rfl), (Nat.le_of_ble_eq_true rfl)⟩ (Nat.le_of_ble_eq_true rfl) ⟨(Nat.le_of_ble_eq_true rfl), (Nat.le_of_ble_eq_true rfl)⟩ dX8_remove_8 rfl (Nat.le_of_ble_eq_true rfl) (Nat.le_of_ble_eq_true rfl) rfl ?_
      refine r_astore_n (q := 12) (L' := [(3, .ref b6), (2, .int v3), (0, .ref a0), (1, .int p1)]) C dX8_remove_11 rfl rfl (by decide) rfl ?_
      refine r_aload_n (q := 13) C 0 dX8_remove_12 rfl rfl ?_
      refine r_iload_n (q := 14) C 3 dX8_remove_13 rfl rfl ?_
      obtain ⟨g8, hf⟩ := m_gd_of hf
      obtain ⟨v10, h9, hf⟩ := m_b1_of hf
      refine r_callV (mc := 0) (ms := 0) (q := 17) (st1 := [.int v10]) C (c_X7_indexOf hl h9) rfl w_753 w_728 w_729 w_6 w_730 hd_X7_indexOf rfl (by decide) g8 rfl rfl rfl ⟨(Nat.le_of_ble_eq_true rfl), (Nat.le_of_ble_eq_true rfl)⟩ (Nat.le_of_ble_eq_true rfl) ⟨(Nat.le_of_ble_eq_true rfl), (Nat.le_of_ble_eq_true rfl)⟩ dX8_remove_14 rfl rfl ?_
      refine r_istore (q := 19) (L' := [(4, .int v10), (3, .ref b6), (2, .int v3), (0, .ref a0), (1, .int p1)]) C dX8_remove_17 rfl (by decide) rfl ?_
      refine r_aload_n (q := 20) C 1 dX8_remove_19 rfl rfl ?_
      refine r_iload (q := 22) C 0 dX8_remove_20 rfl rfl ?_
      obtain ⟨v12, h11, hf⟩ := m_b1_of hf
      refine r_callV (mc := 0) (ms := 0) (q := 25) (st1 := [.int v12]) C (c_X7_moistureOf hl h11) rfl w_754 w_755 w_756 w_6 w_757 hd_X7_moistureOf rfl (by decide) g8 rfl rfl rfl ⟨(Nat.le_of_ble_eq_true rfl), (Nat.le_of_ble_eq_true rfl)⟩ (Nat.le_of_ble_eq_true rfl) ⟨(Nat.le_of_ble_eq_true rfl), (Nat.le_of_ble_eq_true rfl)⟩ dX8_remove_22 rfl rfl ?_
      refine r_istore (q := 27) (L' := [(5, .int v12), (4, .int v10), (3, .ref b6), (2, .int v3), (0, .ref a0), (1, .int p1)]) C dX8_remove_25 rfl (by decide) rfl ?_
      refine r_aload_n (q := 28) C 2 dX8_remove_27 rfl rfl ?_
      refine r_iload (q := 30) C 1 dX8_remove_28 rfl rfl ?_
      obtain ⟨_u, S14, h13, hf⟩ := m_bw_of hf
      refine r_callV (mc := 0) (ms := 0) (q := 33) (st1 := []) C (c_X7_takeOut hl h13) rfl w_758 w_759 w_760 w_6 w_761 hd_X7_takeOut rfl (by decide) g8 rfl rfl rfl ⟨(Nat.le_of_ble_eq_true rfl), (Nat.le_of_ble_eq_true rfl)⟩ (Nat.le_of_ble_eq_true rfl) ⟨(Nat.le_of_ble_eq_true rfl), (Nat.le_of_ble_eq_true rfl)⟩ dX8_remove_30 rfl rfl ?_
      refine r_aload_n (q := 34) C 4 dX8_remove_33 rfl rfl ?_
      refine r_iload_n (q := 35) C 3 dX8_remove_34 rfl rfl ?_
      rcases m_btw_of hf with ⟨b16, h15, hf⟩ | ⟨x17, h15, hf⟩
      · refine x_okV (q := 38) (mcQ := 3) (msQ := 18) (retQ := (some .int)) (st1 := [.ref b16]) C (c_X8_logbookAt hl h15) rfl w_602 w_603 w_1316 w_2 w_604 hd_X8_logbookAt rfl (by decide) g1 rfl rfl rfl ⟨(Nat.le_of_ble_eq_true rfl), (Nat.le_of_ble_eq_true rfl)⟩ (Nat.le_of_ble_eq_true rfl) ⟨(Nat.le_of_ble_eq_true rfl), (Nat.le_of_ble_eq_true rfl)⟩ dX8_remove_35 rfl (Nat.le_of_ble_eq_true rfl) (Nat.le_of_ble_eq_true rfl) rfl ?_
        refine r_dup (q := 39) C dX8_remove_38 rfl rfl ?_
        obtain ⟨g18, hf⟩ := m_gd_of hf
        refine gf_X8_210 (q := 42) C dX8_remove_39 g18 rfl ?_
        refine r_iload (q := 44) C 0 dX8_remove_42 rfl rfl ?_
        refine r_i2l (q := 45) C dX8_remove_44 rfl ?_
        refine r_ladd (q := 46) C dX8_remove_45 rfl ?_
        obtain ⟨S19, e20, hf⟩ := m_lt_of hf
        refine pf_X8_210 (q := 49) C dX8_remove_46 g18 e20 rfl ?_
        refine r_iload (q := 51) C 0 dX8_remove_49 rfl rfl ?_
        obtain ⟨rfl, rfl⟩ := m_so2 hf
        exact x_iret C F (Nat.le_of_ble_eq_true rfl) (Nat.le_of_ble_eq_true rfl) dX8_remove_51
      · obtain ⟨rfl, rfl⟩ := Prod.mk.inj hf
        exact x_erV C (c_X8_logbookAt hl h15) F rfl w_602 w_603 w_1316 w_2 w_604 hd_X8_logbookAt rfl (by decide) g1 rfl rfl rfl ⟨(Nat.le_of_ble_eq_true rfl), (Nat.le_of_ble_eq_true rfl)⟩ (Nat.le_of_ble_eq_true rfl) ⟨(Nat.le_of_ble_eq_true rfl), (Nat.le_of_ble_eq_true rfl)⟩ dX8_remove_35 rfl (Nat.le_of_ble_eq_true rfl) (Nat.le_of_ble_eq_true rfl)
    · obtain ⟨rfl, rfl⟩ := Prod.mk.inj hf
      exact x_erV C (c_X8_vitrineAt hl h5) F rfl w_599 w_600 w_1315 w_2 w_601 hd_X8_vitrineAt rfl (by decide) g1 rfl rfl rfl ⟨(Nat.le_of_ble_eq_true rfl), (Nat.le_of_ble_eq_true rfl)⟩ (Nat.le_of_ble_eq_true rfl) ⟨(Nat.le_of_ble_eq_true rfl), (Nat.le_of_ble_eq_true rfl)⟩ dX8_remove_8 rfl (Nat.le_of_ble_eq_true rfl) (Nat.le_of_ble_eq_true rfl)
  · obtain ⟨rfl, rfl⟩ := Prod.mk.inj hf
    exact x_erV C (c_X8_caseOf hl h2) F rfl w_752 w_720 w_721 w_2 w_722 hd_X8_caseOf rfl (by decide) g1 rfl rfl rfl ⟨(Nat.le_of_ble_eq_true rfl), (Nat.le_of_ble_eq_true rfl)⟩ (Nat.le_of_ble_eq_true rfl) ⟨(Nat.le_of_ble_eq_true rfl), (Nat.le_of_ble_eq_true rfl)⟩ dX8_remove_2 rfl (Nat.le_of_ble_eq_true rfl) (Nat.le_of_ble_eq_true rfl)
def f_X8_report (Z : m_Z) (S : m_S) (a0 : Nat) (p1 : Int32) : Option (Except String Int32) := (if p1 = Int32.ofNat 0 then m_gd (m_ok Z a0 8) (m_b1 (S.2.2 a0 3) (fun b3 => m_gd (m_ok Z b3 6) (m_b1 (S.2.2 b3 0) (fun b6 => m_gd (m_ok Z b6 4) (some (.ok (S.1 b6 0))))))) else (if p1 = Int32.ofNat 1 then m_gd (m_ok Z a0 8) (m_b1 (S.2.2 a0 3) (fun b11 => m_gd (m_ok Z b11 6) (m_b1 (S.2.2 b11 0) (fun b14 => m_gd (m_ok Z b14 4) (m_b1 (f_X4_day Z S b14) (fun v18 => some (.ok v18))))))) else (if p1 = Int32.ofNat 2 then m_gd (m_ok Z a0 8) (m_b1 (S.2.2 a0 3) (fun b21 => m_gd (m_ok Z b21 6) (m_b1 (S.2.2 b21 0) (fun b24 => m_gd (m_ok Z b24 4) (m_b1 (f_X4_hourOfDay Z S b24) (fun v28 => some (.ok v28))))))) else (if p1 = Int32.ofNat 3 then m_gd (m_ok Z a0 8) (m_b1 (S.2.2 a0 1) (fun b31 => m_gd (m_ok Z b31 5) (some (.ok (S.1 b31 8))))) else (if p1 = Int32.ofNat 4 then m_gd (m_ok Z a0 8) (m_b1 (S.2.2 a0 1) (fun b36 => m_gd (m_ok Z b36 5) (some (.ok (S.1 b36 6))))) else (if p1 = Int32.ofNat 5 then m_gd (m_ok Z a0 8) (m_b1 (S.2.2 a0 3) (fun b41 => m_gd (m_ok Z b41 6) (m_b1 (f_X6_cassettesInAll Z S b41) (fun v45 => some (.ok v45))))) else (if p1 = Int32.ofNat 6 then m_gd (m_ok Z a0 8) (m_b1 (S.2.2 a0 3) (fun b48 => m_gd (m_ok Z b48 6) (some (.ok (S.1 b48 1))))) else (if p1 = Int32.ofNat 7 then m_gd (m_ok Z a0 8) (m_b1 (S.2.2 a0 3) (fun b53 => m_gd (m_ok Z b53 6) (m_b1 (S.2.2 b53 0) (fun b56 => m_gd (m_ok Z b56 4) (some (.ok (S.1 b56 1))))))) else (if p1 = Int32.ofNat 8 then m_gd (m_ok Z a0 8) (m_b1 (S.2.2 a0 3) (fun b61 => m_gd (m_ok Z b61 6) (m_b1 (S.2.2 b61 0) (fun b64 => m_b1 (S.2.2 a0 1) (fun b66 => m_gd (m_ok Z b64 4) (m_b1 (f_X4_humidity Z S b64 b66) (fun v70 => some (.ok v70)))))))) else (if p1 = Int32.ofNat 9 then m_gd (m_ok Z a0 8) (m_b1 (S.2.2 a0 3) (fun b73 => m_gd (m_ok Z b73 6) (m_b1 (S.2.2 b73 0) (fun b76 => m_gd (m_ok Z b76 4) (some (.ok (S.1 b76 2))))))) else some (.error "java/lang/IllegalArgumentException")))))))))))
abbrev rm_X8_report : Room := { frames := 6, cells := 1, slots := 6, locals := 82 }
theorem hd_X8_report : yX8_report.cls = RX8 ∧ yX8_report.cls ≠ "java/lang/invoke/MethodHandle" ∧ yX8_report.cls ≠ "java/lang/invoke/VarHandle" ∧ (parseMethodDescriptor yX8_report.desc).map (fun d => d.parameters.length) = some 1 := by decide +kernel
set_option maxHeartbeats 4000000 in
set_option maxRecDepth 100000 in
theorem c_X8_report {l : Launch} (hl : l.stackTraces = false) {Z : m_Z} {S : m_S} {a0 : Nat} {p1 : Int32} {rZ9 : Except String Int32} (hf : f_X8_report Z S a0 p1 = some rZ9) : m_Cx l yX8_report (.code yX8_report cX8_report 2 (some .int) :: m_ws) rm_X8_report 1 6 (fun f => [.ref a0, .int p1]) Z S (m_rv (fun r => some (.int r)) rZ9) S := by
  unfold f_X8_report at hf
  refine m_entX hl (by decide) (fun _ => Nat.le_of_ble_eq_true rfl) (fun x C F => ?_)
  have C : m_H x l RX8 cX8_report 2 rm_X8_report := C
  show m_G x Z S 2 0 0 0 [(0, .ref a0), (1, .int p1)] []
  refine r_iload_n (q := 1) C 1 dX8_report_0 rfl rfl ?_
  by_cases c1 : p1 = Int32.ofNat 0
  · replace hf := m_if1 hf c1
    refine r_tsw (N := 0) (t := 56) (v := 0) C dX8_report_1 c1 (by decide) (by decide) rfl (by decide) ?_
    refine r_aload_n (q := 57) C 0 dX8_report_56 rfl rfl ?_
    obtain ⟨g2, hf⟩ := m_gd_of hf
    obtain ⟨b3, e4, hf⟩ := m_b1_of hf
    refine gf_X8_29 (q := 60) C dX8_report_57 g2 e4 rfl ?_
    obtain ⟨g5, hf⟩ := m_gd_of hf
    obtain ⟨b6, e7, hf⟩ := m_b1_of hf
    refine gf_X8_95 (q := 63) C dX8_report_60 g5 e7 rfl ?_
    obtain ⟨g8, hf⟩ := m_gd_of hf
    refine gf_X8_98 (q := 66) C dX8_report_63 g8 rfl ?_
    obtain rfl := m_so1 hf
    exact x_iret C F (Nat.le_of_ble_eq_true rfl) (Nat.le_of_ble_eq_true rfl) dX8_report_66
  · replace hf := m_if0 hf c1
    by_cases c9 : p1 = Int32.ofNat 1
    · replace hf := m_if1 hf c9
      refine r_tsw (N := 0) (t := 67) (v := 1) C dX8_report_1 c9 (by decide) (by decide) rfl (by decide) ?_
      refine r_aload_n (q := 68) C 0 dX8_report_67 rfl rfl ?_
      obtain ⟨g10, hf⟩ := m_gd_of hf
      obtain ⟨b11, e12, hf⟩ := m_b1_of hf
      refine gf_X8_29 (q := 71) C dX8_report_68 g10 e12 rfl ?_
      obtain ⟨g13, hf⟩ := m_gd_of hf
      obtain ⟨b14, e15, hf⟩ := m_b1_of hf
      refine gf_X8_95 (q := 74) C dX8_report_71 g13 e15 rfl ?_
      obtain ⟨g16, hf⟩ := m_gd_of hf
      obtain ⟨v18, h17, hf⟩ := m_b1_of hf
      refine r_callV (mc := 0) (ms := 0) (q := 77) (st1 := [.int v18]) C (c_X4_day hl h17) rfl w_532 w_533 w_534 w_9 w_535 hd_X4_day rfl (by decide) g16 rfl rfl rfl ⟨(Nat.le_of_ble_eq_true rfl), (Nat.le_of_ble_eq_true rfl)⟩ (Nat.le_of_ble_eq_true rfl) ⟨(Nat.le_of_ble_eq_true rfl), (Nat.le_of_ble_eq_true rfl)⟩ dX8_report_74 rfl rfl ?_
      obtain rfl := m_so1 hf
      exact x_iret C F (Nat.le_of_ble_eq_true rfl) (Nat.le_of_ble_eq_true rfl) dX8_report_77
    · replace hf := m_if0 hf c9
      by_cases c19 : p1 = Int32.ofNat 2
      · replace hf := m_if1 hf c19
        refine r_tsw (N := 0) (t := 78) (v := 2) C dX8_report_1 c19 (by decide) (by decide) rfl (by decide) ?_
        refine r_aload_n (q := 79) C 0 dX8_report_78 rfl rfl ?_
        obtain ⟨g20, hf⟩ := m_gd_of hf
        obtain ⟨b21, e22, hf⟩ := m_b1_of hf
        refine gf_X8_29 (q := 82) C dX8_report_79 g20 e22 rfl ?_
        obtain ⟨g23, hf⟩ := m_gd_of hf
        obtain ⟨b24, e25, hf⟩ := m_b1_of hf
        refine gf_X8_95 (q := 85) C dX8_report_82 g23 e25 rfl ?_
        obtain ⟨g26, hf⟩ := m_gd_of hf
        obtain ⟨v28, h27, hf⟩ := m_b1_of hf
        refine r_callV (mc := 0) (ms := 0) (q := 88) (st1 := [.int v28]) C (c_X4_hourOfDay hl h27) rfl w_536 w_537 w_538 w_9 w_539 hd_X4_hourOfDay rfl (by decide) g26 rfl rfl rfl ⟨(Nat.le_of_ble_eq_true rfl), (Nat.le_of_ble_eq_true rfl)⟩ (Nat.le_of_ble_eq_true rfl) ⟨(Nat.le_of_ble_eq_true rfl), (Nat.le_of_ble_eq_true rfl)⟩ dX8_report_85 rfl rfl ?_
        obtain rfl := m_so1 hf
        exact x_iret C F (Nat.le_of_ble_eq_true rfl) (Nat.le_of_ble_eq_true rfl) dX8_report_88
      · replace hf := m_if0 hf c19
        by_cases c29 : p1 = Int32.ofNat 3
        · replace hf := m_if1 hf c29
          refine r_tsw (N := 0) (t := 89) (v := 3) C dX8_report_1 c29 (by decide) (by decide) rfl (by decide) ?_
          refine r_aload_n (q := 90) C 0 dX8_report_89 rfl rfl ?_
          obtain ⟨g30, hf⟩ := m_gd_of hf
          obtain ⟨b31, e32, hf⟩ := m_b1_of hf
          refine gf_X8_19 (q := 93) C dX8_report_90 g30 e32 rfl ?_
          obtain ⟨g33, hf⟩ := m_gd_of hf
          refine gf_X8_86 (q := 96) C dX8_report_93 g33 rfl ?_
          obtain rfl := m_so1 hf
          exact x_iret C F (Nat.le_of_ble_eq_true rfl) (Nat.le_of_ble_eq_true rfl) dX8_report_96
        · replace hf := m_if0 hf c29
          by_cases c34 : p1 = Int32.ofNat 4
          · replace hf := m_if1 hf c34
            refine r_tsw (N := 0) (t := 97) (v := 4) C dX8_report_1 c34 (by decide) (by decide) rfl (by decide) ?_
            refine r_aload_n (q := 98) C 0 dX8_report_97 rfl rfl ?_
            obtain ⟨g35, hf⟩ := m_gd_of hf
            obtain ⟨b36, e37, hf⟩ := m_b1_of hf
            refine gf_X8_19 (q := 101) C dX8_report_98 g35 e37 rfl ?_
            obtain ⟨g38, hf⟩ := m_gd_of hf
            refine gf_X8_108 (q := 104) C dX8_report_101 g38 rfl ?_
            obtain rfl := m_so1 hf
            exact x_iret C F (Nat.le_of_ble_eq_true rfl) (Nat.le_of_ble_eq_true rfl) dX8_report_104
          · replace hf := m_if0 hf c34
            by_cases c39 : p1 = Int32.ofNat 5
            · replace hf := m_if1 hf c39
              refine r_tsw (N := 0) (t := 105) (v := 5) C dX8_report_1 c39 (by decide) (by decide) rfl (by decide) ?_
              refine r_aload_n (q := 106) C 0 dX8_report_105 rfl rfl ?_
              obtain ⟨g40, hf⟩ := m_gd_of hf
              obtain ⟨b41, e42, hf⟩ := m_b1_of hf
              refine gf_X8_29 (q := 109) C dX8_report_106 g40 e42 rfl ?_
              obtain ⟨g43, hf⟩ := m_gd_of hf
              obtain ⟨v45, h44, hf⟩ := m_b1_of hf
              refine r_callV (mc := 0) (ms := 0) (q := 112) (st1 := [.int v45]) C (c_X6_cassettesInAll hl h44) rfl w_540 w_541 w_542 w_8 w_543 hd_X6_cassettesInAll rfl (by decide) g43 rfl rfl rfl ⟨(Nat.le_of_ble_eq_true rfl), (Nat.le_of_ble_eq_true rfl)⟩ (Nat.le_of_ble_eq_true rfl) ⟨(Nat.le_of_ble_eq_true rfl), (Nat.le_of_ble_eq_true rfl)⟩ dX8_report_109 rfl rfl ?_
              obtain rfl := m_so1 hf
              exact x_iret C F (Nat.le_of_ble_eq_true rfl) (Nat.le_of_ble_eq_true rfl) dX8_report_112
            · replace hf := m_if0 hf c39
              by_cases c46 : p1 = Int32.ofNat 6
              · replace hf := m_if1 hf c46
                refine r_tsw (N := 0) (t := 113) (v := 6) C dX8_report_1 c46 (by decide) (by decide) rfl (by decide) ?_
                refine r_aload_n (q := 114) C 0 dX8_report_113 rfl rfl ?_
                obtain ⟨g47, hf⟩ := m_gd_of hf
                obtain ⟨b48, e49, hf⟩ := m_b1_of hf
                refine gf_X8_29 (q := 117) C dX8_report_114 g47 e49 rfl ?_
                obtain ⟨g50, hf⟩ := m_gd_of hf
                refine gf_X8_114 (q := 120) C dX8_report_117 g50 rfl ?_
                obtain rfl := m_so1 hf
                exact x_iret C F (Nat.le_of_ble_eq_true rfl) (Nat.le_of_ble_eq_true rfl) dX8_report_120
              · replace hf := m_if0 hf c46
                by_cases c51 : p1 = Int32.ofNat 7
                · replace hf := m_if1 hf c51
                  refine r_tsw (N := 0) (t := 121) (v := 7) C dX8_report_1 c51 (by decide) (by decide) rfl (by decide) ?_
                  refine r_aload_n (q := 122) C 0 dX8_report_121 rfl rfl ?_
                  obtain ⟨g52, hf⟩ := m_gd_of hf
                  obtain ⟨b53, e54, hf⟩ := m_b1_of hf
                  refine gf_X8_29 (q := 125) C dX8_report_122 g52 e54 rfl ?_
                  obtain ⟨g55, hf⟩ := m_gd_of hf
                  obtain ⟨b56, e57, hf⟩ := m_b1_of hf
                  refine gf_X8_95 (q := 128) C dX8_report_125 g55 e57 rfl ?_
                  obtain ⟨g58, hf⟩ := m_gd_of hf
                  refine gf_X8_117 (q := 131) C dX8_report_128 g58 rfl ?_
                  obtain rfl := m_so1 hf
                  exact x_iret C F (Nat.le_of_ble_eq_true rfl) (Nat.le_of_ble_eq_true rfl) dX8_report_131
                · replace hf := m_if0 hf c51
                  by_cases c59 : p1 = Int32.ofNat 8
                  · replace hf := m_if1 hf c59
                    refine r_tsw (N := 0) (t := 132) (v := 8) C dX8_report_1 c59 (by decide) (by decide) rfl (by decide) ?_
                    refine r_aload_n (q := 133) C 0 dX8_report_132 rfl rfl ?_
                    obtain ⟨g60, hf⟩ := m_gd_of hf
                    obtain ⟨b61, e62, hf⟩ := m_b1_of hf
                    refine gf_X8_29 (q := 136) C dX8_report_133 g60 e62 rfl ?_
                    obtain ⟨g63, hf⟩ := m_gd_of hf
                    obtain ⟨b64, e65, hf⟩ := m_b1_of hf
                    refine gf_X8_95 (q := 139) C dX8_report_136 g63 e65 rfl ?_
                    refine r_aload_n (q := 140) C 0 dX8_report_139 rfl rfl ?_
                    obtain ⟨b66, e67, hf⟩ := m_b1_of hf
                    refine gf_X8_19 (q := 143) C dX8_report_140 g60 e67 rfl ?_
                    obtain ⟨g68, hf⟩ := m_gd_of hf
                    obtain ⟨v70, h69, hf⟩ := m_b1_of hf
                    refine r_callV (mc := 0) (ms := 0) (q := 146) (st1 := [.int v70]) C (c_X4_humidity hl h69) rfl w_544 w_545 w_546 w_9 w_547 hd_X4_humidity rfl (by decide) g68 rfl rfl rfl ⟨(Nat.le_of_ble_eq_true rfl), (Nat.le_of_ble_eq_true rfl)⟩ (Nat.le_of_ble_eq_true rfl) ⟨(Nat.le_of_ble_eq_true rfl), (Nat.le_of_ble_eq_true rfl)⟩ dX8_report_143 rfl rfl ?_
                    obtain rfl := m_so1 hf
                    exact x_iret C F (Nat.le_of_ble_eq_true rfl) (Nat.le_of_ble_eq_true rfl) dX8_report_146
                  · replace hf := m_if0 hf c59
                    by_cases c71 : p1 = Int32.ofNat 9
                    · replace hf := m_if1 hf c71
                      refine r_tsw (N := 0) (t := 147) (v := 9) C dX8_report_1 c71 (by decide) (by decide) rfl (by decide) ?_
                      refine r_aload_n (q := 148) C 0 dX8_report_147 rfl rfl ?_
                      obtain ⟨g72, hf⟩ := m_gd_of hf
                      obtain ⟨b73, e74, hf⟩ := m_b1_of hf
                      refine gf_X8_29 (q := 151) C dX8_report_148 g72 e74 rfl ?_
                      obtain ⟨g75, hf⟩ := m_gd_of hf
                      obtain ⟨b76, e77, hf⟩ := m_b1_of hf
                      refine gf_X8_95 (q := 154) C dX8_report_151 g75 e77 rfl ?_
                      obtain ⟨g78, hf⟩ := m_gd_of hf
                      refine gf_X8_124 (q := 157) C dX8_report_154 g78 rfl ?_
                      obtain rfl := m_so1 hf
                      exact x_iret C F (Nat.le_of_ble_eq_true rfl) (Nat.le_of_ble_eq_true rfl) dX8_report_157
                    · replace hf := m_if0 hf c71
                      refine r_tswO (t := 158) (N := 9) C dX8_report_1 rfl (m_tS (m_tS (m_tS (m_tS (m_tS (m_tS (m_tS (m_tS (m_tS (m_tS m_t0 c1) c9) c19) c29) c34) c39) c46) c51) c59) c71) (by decide) ?_
                      obtain rfl := m_so1 hf
                      exact x_thrA (text := "what is 0 to 9") (ti := 11) C F w_553 w_21 (by decide +kernel) dX8_report_158 dX8_report_161 dX8_report_162 dX8_report_164 dX8_report_167 (Nat.le_of_ble_eq_true rfl) (Nat.le_of_ble_eq_true rfl) (Nat.le_of_ble_eq_true rfl) (Nat.le_of_ble_eq_true rfl) (Nat.le_of_ble_eq_true rfl) (Nat.le_of_ble_eq_true rfl)
def f_X8_requireSlot (Z : m_Z) (S : m_S) (a0 : Nat) (p1 : Int32) : Option (Except String Unit) := (if p1 < 0 then some (.error "java/lang/IndexOutOfBoundsException") else (if p1 < (2 : Int32) then some (.ok ()) else some (.error "java/lang/IndexOutOfBoundsException")))
abbrev rm_X8_requireSlot : Room := { frames := 6, cells := 1, slots := 6, locals := 82 }
theorem hd_X8_requireSlot : yX8_requireSlot.cls = RX8 ∧ yX8_requireSlot.cls ≠ "java/lang/invoke/MethodHandle" ∧ yX8_requireSlot.cls ≠ "java/lang/invoke/VarHandle" ∧ (parseMethodDescriptor yX8_requireSlot.desc).map (fun d => d.parameters.length) = some 1 := by decide +kernel
set_option maxHeartbeats 4000000 in
set_option maxRecDepth 100000 in
theorem c_X8_requireSlot {l : Launch} (hl : l.stackTraces = false) {Z : m_Z} {S : m_S} {a0 : Nat} {p1 : Int32} {rZ9 : Except String Unit} (hf : f_X8_requireSlot Z S a0 p1 = some rZ9) : m_Cx l yX8_requireSlot (.code yX8_requireSlot cX8_requireSlot 2 none :: m_ws) rm_X8_requireSlot 1 6 (fun f => [.ref a0, .int p1]) Z S (m_rv (fun _ => none) rZ9) S := by
  unfold f_X8_requireSlot at hf
  refine m_entX hl (by decide) (fun _ => Nat.le_of_ble_eq_true rfl) (fun x C F => ?_)
  have C : m_H x l RX8 cX8_requireSlot 2 rm_X8_requireSlot := C
  show m_G x Z S 2 0 0 0 [(0, .ref a0), (1, .int p1)] []
  refine r_iload_n (q := 1) C 1 dX8_requireSlot_0 rfl rfl ?_
  refine r_if_lt (t := 9) (q := 4) C dX8_requireSlot_1 (by decide) rfl (fun c1 => ?_) (fun c1 => ?_)
  · replace hf := m_if1 hf c1
    obtain rfl := m_so1 hf
    exact x_thrBW (text := "a slot is 0 or 1") (ti := 36) C F w_285 w_16 (by decide +kernel) dX8_requireSlot_9 dX8_requireSlot_12 dX8_requireSlot_13 dX8_requireSlot_16 dX8_requireSlot_19 (Nat.le_of_ble_eq_true rfl) (Nat.le_of_ble_eq_true rfl) (Nat.le_of_ble_eq_true rfl) (Nat.le_of_ble_eq_true rfl) (Nat.le_of_ble_eq_true rfl) (Nat.le_of_ble_eq_true rfl)
  · replace hf := m_if0 hf c1
    refine r_iload_n (q := 5) C 1 dX8_requireSlot_4 rfl rfl ?_
    refine r_iconst (q := 6) (v := (2 : Int32)) C dX8_requireSlot_5 (by decide) rfl ?_
    refine r_icmp_lt (t := 20) (q := 9) C dX8_requireSlot_6 (by decide) rfl (fun c2 => ?_) (fun c2 => ?_)
    · replace hf := m_if1 hf c2
      obtain rfl := m_so1 hf
      exact x_vret C F (Nat.le_of_ble_eq_true rfl) (Nat.le_of_ble_eq_true rfl) dX8_requireSlot_20
    · replace hf := m_if0 hf c2
      obtain rfl := m_so1 hf
      exact x_thrBW (text := "a slot is 0 or 1") (ti := 36) C F w_285 w_16 (by decide +kernel) dX8_requireSlot_9 dX8_requireSlot_12 dX8_requireSlot_13 dX8_requireSlot_16 dX8_requireSlot_19 (Nat.le_of_ble_eq_true rfl) (Nat.le_of_ble_eq_true rfl) (Nat.le_of_ble_eq_true rfl) (Nat.le_of_ble_eq_true rfl) (Nat.le_of_ble_eq_true rfl) (Nat.le_of_ble_eq_true rfl)
def f_X8_restOf (Z : m_Z) (S : m_S) (a0 : Nat) (p1 : Int32) : Option (Except String Int32) := m_gd (m_ok Z a0 8) (m_bt (f_X8_vitrineAt Z S a0 p1) (fun b3 => m_gd (m_ok Z b3 7) (m_b1 (f_X7_restHumidity Z S b3) (fun v7 => (if ¬ v7 = (-1 : Int32) then some (.ok v7) else some (.error "java/util/NoSuchElementException"))))))
abbrev rm_X8_restOf : Room := { frames := 7, cells := 2, slots := 12, locals := 135 }
theorem hd_X8_restOf : yX8_restOf.cls = RX8 ∧ yX8_restOf.cls ≠ "java/lang/invoke/MethodHandle" ∧ yX8_restOf.cls ≠ "java/lang/invoke/VarHandle" ∧ (parseMethodDescriptor yX8_restOf.desc).map (fun d => d.parameters.length) = some 1 := by decide +kernel
set_option maxHeartbeats 4000000 in
set_option maxRecDepth 100000 in
theorem c_X8_restOf {l : Launch} (hl : l.stackTraces = false) {Z : m_Z} {S : m_S} {a0 : Nat} {p1 : Int32} {rZ9 : Except String Int32} (hf : f_X8_restOf Z S a0 p1 = some rZ9) : m_Cx l yX8_restOf (.code yX8_restOf cX8_restOf 3 (some .int) :: m_ws) rm_X8_restOf 2 12 (fun f => [.ref a0, .int p1]) Z S (m_rv (fun r => some (.int r)) rZ9) S := by
  unfold f_X8_restOf at hf
  refine m_entX hl (by decide) (fun _ => Nat.le_of_ble_eq_true rfl) (fun x C F => ?_)
  have C : m_H x l RX8 cX8_restOf 3 rm_X8_restOf := C
  show m_G x Z S 3 0 0 0 [(0, .ref a0), (1, .int p1)] []
  refine r_aload_n (q := 1) C 0 dX8_restOf_0 rfl rfl ?_
  refine r_iload_n (q := 2) C 1 dX8_restOf_1 rfl rfl ?_
  obtain ⟨g1, hf⟩ := m_gd_of hf
  rcases m_bt_of hf with ⟨b3, h2, hf⟩ | ⟨x4, h2, hf⟩
  · refine x_okV (q := 5) (mcQ := 2) (msQ := 12) (retQ := (some .int)) (st1 := [.ref b3]) C (c_X8_vitrineAt hl h2) rfl w_599 w_600 w_1315 w_2 w_601 hd_X8_vitrineAt rfl (by decide) g1 rfl rfl rfl ⟨(Nat.le_of_ble_eq_true rfl), (Nat.le_of_ble_eq_true rfl)⟩ (Nat.le_of_ble_eq_true rfl) ⟨(Nat.le_of_ble_eq_true rfl), (Nat.le_of_ble_eq_true rfl)⟩ dX8_restOf_2 rfl (Nat.le_of_ble_eq_true rfl) (Nat.le_of_ble_eq_true rfl) rfl ?_
    obtain ⟨g5, hf⟩ := m_gd_of hf
    obtain ⟨v7, h6, hf⟩ := m_b1_of hf
    refine r_callV (mc := 0) (ms := 0) (q := 8) (st1 := [.int v7]) C (c_X7_restHumidity hl h6) rfl w_866 w_867 w_868 w_6 w_869 hd_X7_restHumidity rfl (by decide) g5 rfl rfl rfl ⟨(Nat.le_of_ble_eq_true rfl), (Nat.le_of_ble_eq_true rfl)⟩ (Nat.le_of_ble_eq_true rfl) ⟨(Nat.le_of_ble_eq_true rfl), (Nat.le_of_ble_eq_true rfl)⟩ dX8_restOf_5 rfl rfl ?_
    refine r_istore_n (q := 9) (L' := [(2, .int v7), (0, .ref a0), (1, .int p1)]) C dX8_restOf_8 rfl rfl (by decide) rfl ?_
    refine r_iload_n (q := 10) C 0 dX8_restOf_9 rfl rfl ?_
    refine r_iconst (q := 11) (v := (-1 : Int32)) C dX8_restOf_10 (by decide) rfl ?_
    refine r_icmp_ne (t := 25) (q := 14) C dX8_restOf_11 (by decide) rfl (fun c8 => ?_) (fun c8 => ?_)
    · replace hf := m_if1 hf c8
      refine r_iload_n (q := 26) C 0 dX8_restOf_25 rfl rfl ?_
      obtain rfl := m_so1 hf
      exact x_iret C F (Nat.le_of_ble_eq_true rfl) (Nat.le_of_ble_eq_true rfl) dX8_restOf_26
    · replace hf := m_if0 hf (fun z => z c8)
      obtain rfl := m_so1 hf
      exact x_thrNW (text := "the case would not come to rest") (ti := 34) C F w_626 w_22 (by decide +kernel) dX8_restOf_14 dX8_restOf_17 dX8_restOf_18 dX8_restOf_21 dX8_restOf_24 (Nat.le_of_ble_eq_true rfl) (Nat.le_of_ble_eq_true rfl) (Nat.le_of_ble_eq_true rfl) (Nat.le_of_ble_eq_true rfl) (Nat.le_of_ble_eq_true rfl) (Nat.le_of_ble_eq_true rfl)
  · subst hf
    exact x_erV C (c_X8_vitrineAt hl h2) F rfl w_599 w_600 w_1315 w_2 w_601 hd_X8_vitrineAt rfl (by decide) g1 rfl rfl rfl ⟨(Nat.le_of_ble_eq_true rfl), (Nat.le_of_ble_eq_true rfl)⟩ (Nat.le_of_ble_eq_true rfl) ⟨(Nat.le_of_ble_eq_true rfl), (Nat.le_of_ble_eq_true rfl)⟩ dX8_restOf_2 rfl (Nat.le_of_ble_eq_true rfl) (Nat.le_of_ble_eq_true rfl)
def f_X8_restore (Z : m_Z) (S : m_S) (a0 : Nat) (p1 : Int32) : Option ((Except String Unit) × m_S) := m_gd (m_ok Z a0 8) (m_btw (f_X8_requireSlot Z S a0 p1) S (fun _u => m_b1 (S.2.2 a0 5) (fun b4 => m_gd (m_ok Z b4 13) (m_gd (m_in p1 (Z.2.2 b4)) ((if ¬ (S.1 b4 p1.toNatClampNeg) = 0 then m_b1 (S.2.2 a0 3) (fun b9 => m_b1 (S.2.2 a0 4) (fun b11 => m_gd (m_ok Z b11 17) (m_gd (m_in p1 (Z.2.2 b11)) (m_b1 (S.2.2 b11 p1.toNatClampNeg) (fun b15 => m_gd (m_ok Z b9 6) (m_bw (f_X6_copyFrom Z S b9 b15) (fun _u S19 => some ((.ok ()), S19)))))))) else some (.error "java/util/NoSuchElementException", S)))))))
abbrev rm_X8_restore : Room := { frames := 7, cells := 2, slots := 12, locals := 103 }
theorem hd_X8_restore : yX8_restore.cls = RX8 ∧ yX8_restore.cls ≠ "java/lang/invoke/MethodHandle" ∧ yX8_restore.cls ≠ "java/lang/invoke/VarHandle" ∧ (parseMethodDescriptor yX8_restore.desc).map (fun d => d.parameters.length) = some 1 := by decide +kernel
set_option maxHeartbeats 4000000 in
set_option maxRecDepth 100000 in
theorem c_X8_restore {l : Launch} (hl : l.stackTraces = false) {Z : m_Z} {S : m_S} {a0 : Nat} {p1 : Int32} {rZ9 : Except String Unit} {SZ9 : m_S} (hf : f_X8_restore Z S a0 p1 = some (rZ9, SZ9)) : m_Cx l yX8_restore (.code yX8_restore cX8_restore 2 none :: m_ws) rm_X8_restore 2 12 (fun f => [.ref a0, .int p1]) Z S (m_rv (fun _ => none) rZ9) SZ9 := by
  unfold f_X8_restore at hf
  refine m_entX hl (by decide) (fun _ => Nat.le_of_ble_eq_true rfl) (fun x C F => ?_)
  have C : m_H x l RX8 cX8_restore 2 rm_X8_restore := C
  show m_G x Z S 2 0 0 0 [(0, .ref a0), (1, .int p1)] []
  refine r_aload_n (q := 1) C 0 dX8_restore_0 rfl rfl ?_
  refine r_iload_n (q := 2) C 1 dX8_restore_1 rfl rfl ?_
  obtain ⟨g1, hf⟩ := m_gd_of hf
  rcases m_btw_of hf with ⟨_u, h2, hf⟩ | ⟨x3, h2, hf⟩
  · refine x_okV (q := 5) (mcQ := 2) (msQ := 12) (retQ := none) (st1 := []) C (c_X8_requireSlot hl h2) rfl w_903 w_904 w_1322 w_2 w_905 hd_X8_requireSlot rfl (by decide) g1 rfl rfl rfl ⟨(Nat.le_of_ble_eq_true rfl), (Nat.le_of_ble_eq_true rfl)⟩ (Nat.le_of_ble_eq_true rfl) ⟨(Nat.le_of_ble_eq_true rfl), (Nat.le_of_ble_eq_true rfl)⟩ dX8_restore_2 rfl (Nat.le_of_ble_eq_true rfl) (Nat.le_of_ble_eq_true rfl) rfl ?_
    refine r_aload_n (q := 6) C 0 dX8_restore_5 rfl rfl ?_
    obtain ⟨b4, e5, hf⟩ := m_b1_of hf
    refine gf_X8_37 (q := 9) C dX8_restore_6 g1 e5 rfl ?_
    refine r_iload_n (q := 10) C 1 dX8_restore_9 rfl rfl ?_
    obtain ⟨g6, hf⟩ := m_gd_of hf
    obtain ⟨g7, hf⟩ := m_gd_of hf
    refine r_zald (q := 11) C dX8_restore_10 ⟨g6, g7⟩ rfl ?_
    refine r_if_ne (t := 25) (q := 14) C dX8_restore_11 (by decide) rfl (fun c8 => ?_) (fun c8 => ?_)
    · replace hf := m_if1 hf c8
      refine r_aload_n (q := 26) C 0 dX8_restore_25 rfl rfl ?_
      obtain ⟨b9, e10, hf⟩ := m_b1_of hf
      refine gf_X8_29 (q := 29) C dX8_restore_26 g1 e10 rfl ?_
      refine r_aload_n (q := 30) C 0 dX8_restore_29 rfl rfl ?_
      obtain ⟨b11, e12, hf⟩ := m_b1_of hf
      refine gf_X8_33 (q := 33) C dX8_restore_30 g1 e12 rfl ?_
      refine r_iload_n (q := 34) C 1 dX8_restore_33 rfl rfl ?_
      obtain ⟨g13, hf⟩ := m_gd_of hf
      obtain ⟨g14, hf⟩ := m_gd_of hf
      obtain ⟨b15, e16, hf⟩ := m_b1_of hf
      refine r_aald17 (q := 35) C dX8_restore_34 ⟨g13, g14⟩ e16 rfl ?_
      obtain ⟨g17, hf⟩ := m_gd_of hf
      obtain ⟨_u, S19, h18, hf⟩ := m_bw_of hf
      refine r_callV (mc := 0) (ms := 0) (q := 38) (st1 := []) C (c_X6_copyFrom hl h18) rfl w_906 w_907 w_908 w_8 w_909 hd_X6_copyFrom rfl (by decide) g17 rfl rfl rfl ⟨(Nat.le_of_ble_eq_true rfl), (Nat.le_of_ble_eq_true rfl)⟩ (Nat.le_of_ble_eq_true rfl) ⟨(Nat.le_of_ble_eq_true rfl), (Nat.le_of_ble_eq_true rfl)⟩ dX8_restore_35 rfl rfl ?_
      obtain ⟨rfl, rfl⟩ := m_so2 hf
      exact x_vret C F (Nat.le_of_ble_eq_true rfl) (Nat.le_of_ble_eq_true rfl) dX8_restore_38
    · replace hf := m_if0 hf (fun z => z c8)
      obtain ⟨rfl, rfl⟩ := m_so2 hf
      exact x_thrNW (text := "nothing is saved in this slot") (ti := 37) C F w_626 w_22 (by decide +kernel) dX8_restore_14 dX8_restore_17 dX8_restore_18 dX8_restore_21 dX8_restore_24 (Nat.le_of_ble_eq_true rfl) (Nat.le_of_ble_eq_true rfl) (Nat.le_of_ble_eq_true rfl) (Nat.le_of_ble_eq_true rfl) (Nat.le_of_ble_eq_true rfl) (Nat.le_of_ble_eq_true rfl)
  · obtain ⟨rfl, rfl⟩ := Prod.mk.inj hf
    exact x_erV C (c_X8_requireSlot hl h2) F rfl w_903 w_904 w_1322 w_2 w_905 hd_X8_requireSlot rfl (by decide) g1 rfl rfl rfl ⟨(Nat.le_of_ble_eq_true rfl), (Nat.le_of_ble_eq_true rfl)⟩ (Nat.le_of_ble_eq_true rfl) ⟨(Nat.le_of_ble_eq_true rfl), (Nat.le_of_ble_eq_true rfl)⟩ dX8_restore_2 rfl (Nat.le_of_ble_eq_true rfl) (Nat.le_of_ble_eq_true rfl)
def F_X8_roomIn_27 (Z : m_Z) (a0 : Nat) (p1 : Int32) (j16 : (Int32 → m_S → Option ((Except String Int32) × m_S))) (lp20 : (Int32 × Int32 × m_S) → Option ((Except String Int32) × m_S)) (p35 : (Int32 × Int32 × m_S)) : Option ((Except String Int32) × m_S) := match p35 with
  | (v17, v18, S19) => (if p1 ≤ v18 then j16 v17 S19 else m_b1 (S19.2.2 a0 6) (fun b25 => m_b1 (S19.2.2 a0 1) (fun b27 => m_gd (m_ok Z b25 4) (m_bw (f_X4_passHour Z S19 b25 b27) (fun v32 S31 => m_lt (v18 + (1 : Int32)) (fun v33 => lp20 (v32, v33, S31)))))))
def f_X8_roomIn (Z : m_Z) (S : m_S) (a0 : Nat) (p1 : Int32) : Option ((Except String Int32) × m_S) := m_gd (m_ok Z a0 8) (m_btw (f_X8_requireHours Z S a0 p1 (1 : Int32) (2000 : Int32)) S (fun _u => m_b1 (S.2.2 a0 6) (fun b4 => m_b1 (S.2.2 a0 3) (fun b6 => m_gd (m_ok Z b6 6) (m_b1 (S.2.2 b6 0) (fun b9 => m_gd (m_ok Z b4 4) (m_bw (f_X4_copyFrom Z S b4 b9) (fun _u S13 => m_jp (fun (v14 : Int32) (S15 : m_S) => some ((.ok v14), S15)) (fun j16 => m_fx (F_X8_roomIn_27 Z a0 p1 j16) 100000 ((0 : Int32), (0 : Int32), S13))))))))))
abbrev rm_X8_roomIn : Room := { frames := 7, cells := 1, slots := 6, locals := 105 }
theorem hd_X8_roomIn : yX8_roomIn.cls = RX8 ∧ yX8_roomIn.cls ≠ "java/lang/invoke/MethodHandle" ∧ yX8_roomIn.cls ≠ "java/lang/invoke/VarHandle" ∧ (parseMethodDescriptor yX8_roomIn.desc).map (fun d => d.parameters.length) = some 1 := by decide +kernel
set_option maxHeartbeats 4000000 in
set_option maxRecDepth 100000 in
theorem c_X8_roomIn {l : Launch} (hl : l.stackTraces = false) {Z : m_Z} {S : m_S} {a0 : Nat} {p1 : Int32} {rZ9 : Except String Int32} {SZ9 : m_S} (hf : f_X8_roomIn Z S a0 p1 = some (rZ9, SZ9)) : m_Cx l yX8_roomIn (.code yX8_roomIn cX8_roomIn 4 (some .int) :: m_ws) rm_X8_roomIn 1 6 (fun f => [.ref a0, .int p1]) Z S (m_rv (fun r => some (.int r)) rZ9) SZ9 := by
  unfold f_X8_roomIn at hf
  refine m_entX hl (by decide) (fun _ => Nat.le_of_ble_eq_true rfl) (fun x C F => ?_)
  have C : m_H x l RX8 cX8_roomIn 4 rm_X8_roomIn := C
  show m_G x Z S 4 0 0 0 [(0, .ref a0), (1, .int p1)] []
  refine r_aload_n (q := 1) C 0 dX8_roomIn_0 rfl rfl ?_
  refine r_iload_n (q := 2) C 1 dX8_roomIn_1 rfl rfl ?_
  refine r_iconst (q := 3) (v := (1 : Int32)) C dX8_roomIn_2 (by decide) rfl ?_
  refine r_sipush (q := 6) (v := (2000 : Int32)) C dX8_roomIn_3 (by decide) rfl ?_
  obtain ⟨g1, hf⟩ := m_gd_of hf
  rcases m_btw_of hf with ⟨_u, h2, hf⟩ | ⟨x3, h2, hf⟩
  · refine x_okV (q := 9) (mcQ := 1) (msQ := 6) (retQ := (some .int)) (st1 := []) C (c_X8_requireHours hl h2) rfl w_795 w_796 w_1319 w_2 w_797 hd_X8_requireHours rfl (by decide) g1 rfl rfl rfl ⟨(Nat.le_of_ble_eq_true rfl), (Nat.le_of_ble_eq_true rfl)⟩ (Nat.le_of_ble_eq_true rfl) ⟨(Nat.le_of_ble_eq_true rfl), (Nat.le_of_ble_eq_true rfl)⟩ dX8_roomIn_6 rfl (Nat.le_of_ble_eq_true rfl) (Nat.le_of_ble_eq_true rfl) rfl ?_
    refine r_aload_n (q := 10) C 0 dX8_roomIn_9 rfl rfl ?_
    obtain ⟨b4, e5, hf⟩ := m_b1_of hf
    refine gf_X8_44 (q := 13) C dX8_roomIn_10 g1 e5 rfl ?_
    refine r_aload_n (q := 14) C 0 dX8_roomIn_13 rfl rfl ?_
    obtain ⟨b6, e7, hf⟩ := m_b1_of hf
    refine gf_X8_29 (q := 17) C dX8_roomIn_14 g1 e7 rfl ?_
    obtain ⟨g8, hf⟩ := m_gd_of hf
    obtain ⟨b9, e10, hf⟩ := m_b1_of hf
    refine gf_X8_95 (q := 20) C dX8_roomIn_17 g8 e10 rfl ?_
    obtain ⟨g11, hf⟩ := m_gd_of hf
    obtain ⟨_u, S13, h12, hf⟩ := m_bw_of hf
    refine r_callV (mc := 0) (ms := 0) (q := 23) (st1 := []) C (c_X4_copyFrom hl h12) rfl w_837 w_838 w_839 w_9 w_840 hd_X4_copyFrom rfl (by decide) g11 rfl rfl rfl ⟨(Nat.le_of_ble_eq_true rfl), (Nat.le_of_ble_eq_true rfl)⟩ (Nat.le_of_ble_eq_true rfl) ⟨(Nat.le_of_ble_eq_true rfl), (Nat.le_of_ble_eq_true rfl)⟩ dX8_roomIn_20 rfl rfl ?_
    refine r_iconst (q := 24) (v := (0 : Int32)) C dX8_roomIn_23 (by decide) rfl ?_
    refine r_istore_n (q := 25) (L' := [(2, .int (0 : Int32)), (0, .ref a0), (1, .int p1)]) C dX8_roomIn_24 rfl rfl (by decide) rfl ?_
    refine r_iconst (q := 26) (v := (0 : Int32)) C dX8_roomIn_25 (by decide) rfl ?_
    refine r_istore_n (q := 27) (L' := [(3, .int (0 : Int32)), (2, .int (0 : Int32)), (0, .ref a0), (1, .int p1)]) C dX8_roomIn_26 rfl rfl (by decide) rfl ?_
    obtain ⟨j16, ej16, hf⟩ := m_jp_of hf
    have J16 : ∀ (v14 : Int32) (S15 : m_S), j16 v14 S15 = some (rZ9, SZ9) → m_G x Z S15 4 1 6 50 [(2, .int v14)] [] := by
      intro v14 S15 hf
      rw [ej16] at hf
      refine r_iload_n (q := 51) C 0 dX8_roomIn_50 rfl rfl ?_
      obtain ⟨rfl, rfl⟩ := m_so2 hf
      exact x_iret C F (Nat.le_of_ble_eq_true rfl) (Nat.le_of_ble_eq_true rfl) dX8_roomIn_51
    have LL23 : ∀ (fu22 : Nat) (v17 : Int32) (v18 : Int32) (S19 : m_S), m_fx (F_X8_roomIn_27 Z a0 p1 j16) fu22 (v17, v18, S19) = some (rZ9, SZ9) → m_G x Z S19 4 1 6 27 [(0, .ref a0), (1, .int p1), (2, .int v17), (3, .int v18)] [] := by
      intro fu22
      induction fu22 with
      | zero => intros; rename_i hf; cases hf
      | succ fu22 ih21 =>
        intro v17 v18 S19 hf
        replace hf : F_X8_roomIn_27 Z a0 p1 j16 (m_fx (F_X8_roomIn_27 Z a0 p1 j16) fu22) (v17, v18, S19) = some (rZ9, SZ9) := hf
        unfold F_X8_roomIn_27 at hf
        dsimp only at hf
        refine r_iload_n (q := 28) C 3 dX8_roomIn_27 rfl rfl ?_
        refine r_iload_n (q := 29) C 1 dX8_roomIn_28 rfl rfl ?_
        refine r_icmp_ge (t := 50) (q := 32) C dX8_roomIn_29 (by decide) rfl (fun c24 => ?_) (fun c24 => ?_)
        · replace hf := m_if1 hf c24
          refine r_sub [2] rfl ?_
          exact J16 v17 S19 hf
        · replace hf := m_if0 hf c24
          refine r_aload_n (q := 33) C 0 dX8_roomIn_32 rfl rfl ?_
          obtain ⟨b25, e26, hf⟩ := m_b1_of hf
          refine gf_X8_44 (q := 36) C dX8_roomIn_33 g1 e26 rfl ?_
          refine r_aload_n (q := 37) C 0 dX8_roomIn_36 rfl rfl ?_
          obtain ⟨b27, e28, hf⟩ := m_b1_of hf
          refine gf_X8_19 (q := 40) C dX8_roomIn_37 g1 e28 rfl ?_
          obtain ⟨g29, hf⟩ := m_gd_of hf
          obtain ⟨v32, S31, h30, hf⟩ := m_bw_of hf
          refine r_callV (mc := 0) (ms := 0) (q := 43) (st1 := [.int v32]) C (c_X4_passHour hl h30) rfl w_841 w_804 w_805 w_9 w_806 hd_X4_passHour rfl (by decide) g29 rfl rfl rfl ⟨(Nat.le_of_ble_eq_true rfl), (Nat.le_of_ble_eq_true rfl)⟩ (Nat.le_of_ble_eq_true rfl) ⟨(Nat.le_of_ble_eq_true rfl), (Nat.le_of_ble_eq_true rfl)⟩ dX8_roomIn_40 rfl rfl ?_
          refine r_istore_n (q := 44) (L' := [(2, .int v32), (0, .ref a0), (1, .int p1), (3, .int v18)]) C dX8_roomIn_43 rfl rfl (by decide) rfl ?_
          obtain ⟨v33, e34, hf⟩ := m_lt_of hf
          refine r_iinc (q := 47) (v := v33) (L' := [(3, .int v33), (2, .int v32), (0, .ref a0), (1, .int p1)]) C 3 dX8_roomIn_44 rfl (by rw [e34]; rfl) rfl (by decide) rfl ?_
          refine r_goto (t := 27) C dX8_roomIn_47 (by decide) ?_
          refine r_sub [2, 3, 1, 0] rfl ?_
          exact ih21 v32 v33 S31 hf
    refine r_sub [2, 3, 1, 0] rfl ?_
    exact LL23 100000 (0 : Int32) (0 : Int32) S13 hf
  · obtain ⟨rfl, rfl⟩ := Prod.mk.inj hf
    exact x_erV C (c_X8_requireHours hl h2) F rfl w_795 w_796 w_1319 w_2 w_797 hd_X8_requireHours rfl (by decide) g1 rfl rfl rfl ⟨(Nat.le_of_ble_eq_true rfl), (Nat.le_of_ble_eq_true rfl)⟩ (Nat.le_of_ble_eq_true rfl) ⟨(Nat.le_of_ble_eq_true rfl), (Nat.le_of_ble_eq_true rfl)⟩ dX8_roomIn_6 rfl (Nat.le_of_ble_eq_true rfl) (Nat.le_of_ble_eq_true rfl)
def f_X8_save (Z : m_Z) (S : m_S) (a0 : Nat) (p1 : Int32) : Option ((Except String Unit) × m_S) := m_gd (m_ok Z a0 8) (m_btw (f_X8_requireSlot Z S a0 p1) S (fun _u => m_b1 (S.2.2 a0 4) (fun b4 => m_gd (m_ok Z b4 17) (m_gd (m_in p1 (Z.2.2 b4)) (m_b1 (S.2.2 b4 p1.toNatClampNeg) (fun b8 => m_b1 (S.2.2 a0 3) (fun b10 => m_gd (m_ok Z b8 6) (m_bw (f_X6_copyFrom Z S b8 b10) (fun _u S14 => m_b1 (S14.2.2 a0 5) (fun b15 => m_gd (m_ok Z b15 13) (m_gd (m_in p1 (Z.2.2 b15)) (m_lt (m_pI S14 b15 p1.toNatClampNeg (vp_nar .boolean (1 : Int32))) (fun S19 => some ((.ok ()), S19))))))))))))))
abbrev rm_X8_save : Room := { frames := 7, cells := 1, slots := 6, locals := 103 }
theorem hd_X8_save : yX8_save.cls = RX8 ∧ yX8_save.cls ≠ "java/lang/invoke/MethodHandle" ∧ yX8_save.cls ≠ "java/lang/invoke/VarHandle" ∧ (parseMethodDescriptor yX8_save.desc).map (fun d => d.parameters.length) = some 1 := by decide +kernel
set_option maxHeartbeats 4000000 in
set_option maxRecDepth 100000 in
theorem c_X8_save {l : Launch} (hl : l.stackTraces = false) {Z : m_Z} {S : m_S} {a0 : Nat} {p1 : Int32} {rZ9 : Except String Unit} {SZ9 : m_S} (hf : f_X8_save Z S a0 p1 = some (rZ9, SZ9)) : m_Cx l yX8_save (.code yX8_save cX8_save 2 none :: m_ws) rm_X8_save 1 6 (fun f => [.ref a0, .int p1]) Z S (m_rv (fun _ => none) rZ9) SZ9 := by
  unfold f_X8_save at hf
  refine m_entX hl (by decide) (fun _ => Nat.le_of_ble_eq_true rfl) (fun x C F => ?_)
  have C : m_H x l RX8 cX8_save 2 rm_X8_save := C
  show m_G x Z S 2 0 0 0 [(0, .ref a0), (1, .int p1)] []
  refine r_aload_n (q := 1) C 0 dX8_save_0 rfl rfl ?_
  refine r_iload_n (q := 2) C 1 dX8_save_1 rfl rfl ?_
  obtain ⟨g1, hf⟩ := m_gd_of hf
  rcases m_btw_of hf with ⟨_u, h2, hf⟩ | ⟨x3, h2, hf⟩
  · refine x_okV (q := 5) (mcQ := 1) (msQ := 6) (retQ := none) (st1 := []) C (c_X8_requireSlot hl h2) rfl w_903 w_904 w_1322 w_2 w_905 hd_X8_requireSlot rfl (by decide) g1 rfl rfl rfl ⟨(Nat.le_of_ble_eq_true rfl), (Nat.le_of_ble_eq_true rfl)⟩ (Nat.le_of_ble_eq_true rfl) ⟨(Nat.le_of_ble_eq_true rfl), (Nat.le_of_ble_eq_true rfl)⟩ dX8_save_2 rfl (Nat.le_of_ble_eq_true rfl) (Nat.le_of_ble_eq_true rfl) rfl ?_
    refine r_aload_n (q := 6) C 0 dX8_save_5 rfl rfl ?_
    obtain ⟨b4, e5, hf⟩ := m_b1_of hf
    refine gf_X8_33 (q := 9) C dX8_save_6 g1 e5 rfl ?_
    refine r_iload_n (q := 10) C 1 dX8_save_9 rfl rfl ?_
    obtain ⟨g6, hf⟩ := m_gd_of hf
    obtain ⟨g7, hf⟩ := m_gd_of hf
    obtain ⟨b8, e9, hf⟩ := m_b1_of hf
    refine r_aald17 (q := 11) C dX8_save_10 ⟨g6, g7⟩ e9 rfl ?_
    refine r_aload_n (q := 12) C 0 dX8_save_11 rfl rfl ?_
    obtain ⟨b10, e11, hf⟩ := m_b1_of hf
    refine gf_X8_29 (q := 15) C dX8_save_12 g1 e11 rfl ?_
    obtain ⟨g12, hf⟩ := m_gd_of hf
    obtain ⟨_u, S14, h13, hf⟩ := m_bw_of hf
    refine r_callV (mc := 0) (ms := 0) (q := 18) (st1 := []) C (c_X6_copyFrom hl h13) rfl w_906 w_907 w_908 w_8 w_909 hd_X6_copyFrom rfl (by decide) g12 rfl rfl rfl ⟨(Nat.le_of_ble_eq_true rfl), (Nat.le_of_ble_eq_true rfl)⟩ (Nat.le_of_ble_eq_true rfl) ⟨(Nat.le_of_ble_eq_true rfl), (Nat.le_of_ble_eq_true rfl)⟩ dX8_save_15 rfl rfl ?_
    refine r_aload_n (q := 19) C 0 dX8_save_18 rfl rfl ?_
    obtain ⟨b15, e16, hf⟩ := m_b1_of hf
    refine gf_X8_37 (q := 22) C dX8_save_19 g1 e16 rfl ?_
    refine r_iload_n (q := 23) C 1 dX8_save_22 rfl rfl ?_
    refine r_iconst (q := 24) (v := (1 : Int32)) C dX8_save_23 (by decide) rfl ?_
    obtain ⟨g17, hf⟩ := m_gd_of hf
    obtain ⟨g18, hf⟩ := m_gd_of hf
    obtain ⟨S19, e20, hf⟩ := m_lt_of hf
    refine r_zast (q := 25) C dX8_save_24 ⟨g17, g18⟩ rfl ?_
    rw [← e20]
    obtain ⟨rfl, rfl⟩ := m_so2 hf
    exact x_vret C F (Nat.le_of_ble_eq_true rfl) (Nat.le_of_ble_eq_true rfl) dX8_save_25
  · obtain ⟨rfl, rfl⟩ := Prod.mk.inj hf
    exact x_erV C (c_X8_requireSlot hl h2) F rfl w_903 w_904 w_1322 w_2 w_905 hd_X8_requireSlot rfl (by decide) g1 rfl rfl rfl ⟨(Nat.le_of_ble_eq_true rfl), (Nat.le_of_ble_eq_true rfl)⟩ (Nat.le_of_ble_eq_true rfl) ⟨(Nat.le_of_ble_eq_true rfl), (Nat.le_of_ble_eq_true rfl)⟩ dX8_save_2 rfl (Nat.le_of_ble_eq_true rfl) (Nat.le_of_ble_eq_true rfl)
def f_X8_setLeak (Z : m_Z) (S : m_S) (a0 : Nat) (p1 : Int32) (p2 : Int32) : Option ((Except String Int32) × m_S) := m_gd (m_ok Z a0 8) (m_btw (f_X8_vitrineAt Z S a0 p1) S (fun b3 => (if p2 < 0 then some (.error "java/lang/IllegalArgumentException", S) else (if p2 ≤ (1000 : Int32) then m_gd (m_ok Z b3 7) (m_lt (m_pI S b3 1 p2) (fun S8 => some ((.ok (S.1 b3 1)), S8))) else some (.error "java/lang/IllegalArgumentException", S)))))
abbrev rm_X8_setLeak : Room := { frames := 7, cells := 2, slots := 12, locals := 103 }
theorem hd_X8_setLeak : yX8_setLeak.cls = RX8 ∧ yX8_setLeak.cls ≠ "java/lang/invoke/MethodHandle" ∧ yX8_setLeak.cls ≠ "java/lang/invoke/VarHandle" ∧ (parseMethodDescriptor yX8_setLeak.desc).map (fun d => d.parameters.length) = some 2 := by decide +kernel
set_option maxHeartbeats 4000000 in
set_option maxRecDepth 100000 in
theorem c_X8_setLeak {l : Launch} (hl : l.stackTraces = false) {Z : m_Z} {S : m_S} {a0 : Nat} {p1 : Int32} {p2 : Int32} {rZ9 : Except String Int32} {SZ9 : m_S} (hf : f_X8_setLeak Z S a0 p1 p2 = some (rZ9, SZ9)) : m_Cx l yX8_setLeak (.code yX8_setLeak cX8_setLeak 5 (some .int) :: m_ws) rm_X8_setLeak 2 12 (fun f => [.ref a0, .int p1, .int p2]) Z S (m_rv (fun r => some (.int r)) rZ9) SZ9 := by
  unfold f_X8_setLeak at hf
  refine m_entX hl (by decide) (fun _ => Nat.le_of_ble_eq_true rfl) (fun x C F => ?_)
  have C : m_H x l RX8 cX8_setLeak 5 rm_X8_setLeak := C
  show m_G x Z S 5 0 0 0 [(0, .ref a0), (1, .int p1), (2, .int p2)] []
  refine r_aload_n (q := 1) C 0 dX8_setLeak_0 rfl rfl ?_
  refine r_iload_n (q := 2) C 1 dX8_setLeak_1 rfl rfl ?_
  obtain ⟨g1, hf⟩ := m_gd_of hf
  rcases m_btw_of hf with ⟨b3, h2, hf⟩ | ⟨x4, h2, hf⟩
  · refine x_okV (q := 5) (mcQ := 2) (msQ := 12) (retQ := (some .int)) (st1 := [.ref b3]) C (c_X8_vitrineAt hl h2) rfl w_599 w_600 w_1315 w_2 w_601 hd_X8_vitrineAt rfl (by decide) g1 rfl rfl rfl ⟨(Nat.le_of_ble_eq_true rfl), (Nat.le_of_ble_eq_true rfl)⟩ (Nat.le_of_ble_eq_true rfl) ⟨(Nat.le_of_ble_eq_true rfl), (Nat.le_of_ble_eq_true rfl)⟩ dX8_setLeak_2 rfl (Nat.le_of_ble_eq_true rfl) (Nat.le_of_ble_eq_true rfl) rfl ?_
    refine r_astore_n (q := 6) (L' := [(3, .ref b3), (0, .ref a0), (1, .int p1), (2, .int p2)]) C dX8_setLeak_5 rfl rfl (by decide) rfl ?_
    refine r_iload_n (q := 7) C 3 dX8_setLeak_6 rfl rfl ?_
    refine r_if_lt (t := 17) (q := 10) C dX8_setLeak_7 (by decide) rfl (fun c5 => ?_) (fun c5 => ?_)
    · replace hf := m_if1 hf c5
      obtain ⟨rfl, rfl⟩ := m_so2 hf
      exact x_thrA (text := "a leak is 0 to 1000") (ti := 24) C F w_553 w_21 (by decide +kernel) dX8_setLeak_17 dX8_setLeak_20 dX8_setLeak_21 dX8_setLeak_23 dX8_setLeak_26 (Nat.le_of_ble_eq_true rfl) (Nat.le_of_ble_eq_true rfl) (Nat.le_of_ble_eq_true rfl) (Nat.le_of_ble_eq_true rfl) (Nat.le_of_ble_eq_true rfl) (Nat.le_of_ble_eq_true rfl)
    · replace hf := m_if0 hf c5
      refine r_iload_n (q := 11) C 3 dX8_setLeak_10 rfl rfl ?_
      refine r_sipush (q := 14) (v := (1000 : Int32)) C dX8_setLeak_11 (by decide) rfl ?_
      refine r_icmp_le (t := 27) (q := 17) C dX8_setLeak_14 (by decide) rfl (fun c6 => ?_) (fun c6 => ?_)
      · replace hf := m_if1 hf c6
        refine r_aload_n (q := 28) C 0 dX8_setLeak_27 rfl rfl ?_
        obtain ⟨g7, hf⟩ := m_gd_of hf
        refine gf_X8_167 (q := 31) C dX8_setLeak_28 g7 rfl ?_
        refine r_istore (q := 33) (L' := [(4, .int (S.1 b3 1)), (3, .ref b3), (0, .ref a0), (1, .int p1), (2, .int p2)]) C dX8_setLeak_31 rfl (by decide) rfl ?_
        refine r_aload_n (q := 34) C 1 dX8_setLeak_33 rfl rfl ?_
        refine r_iload_n (q := 35) C 4 dX8_setLeak_34 rfl rfl ?_
        obtain ⟨S8, e9, hf⟩ := m_lt_of hf
        refine pf_X8_167 (q := 38) C dX8_setLeak_35 g7 e9 rfl ?_
        refine r_iload (q := 40) C 0 dX8_setLeak_38 rfl rfl ?_
        obtain ⟨rfl, rfl⟩ := m_so2 hf
        exact x_iret C F (Nat.le_of_ble_eq_true rfl) (Nat.le_of_ble_eq_true rfl) dX8_setLeak_40
      · replace hf := m_if0 hf c6
        obtain ⟨rfl, rfl⟩ := m_so2 hf
        exact x_thrA (text := "a leak is 0 to 1000") (ti := 24) C F w_553 w_21 (by decide +kernel) dX8_setLeak_17 dX8_setLeak_20 dX8_setLeak_21 dX8_setLeak_23 dX8_setLeak_26 (Nat.le_of_ble_eq_true rfl) (Nat.le_of_ble_eq_true rfl) (Nat.le_of_ble_eq_true rfl) (Nat.le_of_ble_eq_true rfl) (Nat.le_of_ble_eq_true rfl) (Nat.le_of_ble_eq_true rfl)
  · obtain ⟨rfl, rfl⟩ := Prod.mk.inj hf
    exact x_erV C (c_X8_vitrineAt hl h2) F rfl w_599 w_600 w_1315 w_2 w_601 hd_X8_vitrineAt rfl (by decide) g1 rfl rfl rfl ⟨(Nat.le_of_ble_eq_true rfl), (Nat.le_of_ble_eq_true rfl)⟩ (Nat.le_of_ble_eq_true rfl) ⟨(Nat.le_of_ble_eq_true rfl), (Nat.le_of_ble_eq_true rfl)⟩ dX8_setLeak_2 rfl (Nat.le_of_ble_eq_true rfl) (Nat.le_of_ble_eq_true rfl)
def f_X8_setPoint (Z : m_Z) (S : m_S) (a0 : Nat) (p1 : Int32) : Option (Except String Int32) := (if p1 < 0 then some (.error "java/lang/IllegalArgumentException") else (if p1 < (365 : Int32) then m_gd (m_ok Z a0 8) (m_b1 (S.2.2 a0 1) (fun b4 => m_gd (m_ok Z b4 5) (m_b1 (f_X5_setPointOf Z S b4 p1) (fun v8 => some (.ok v8))))) else some (.error "java/lang/IllegalArgumentException")))
abbrev rm_X8_setPoint : Room := { frames := 6, cells := 1, slots := 6, locals := 82 }
theorem hd_X8_setPoint : yX8_setPoint.cls = RX8 ∧ yX8_setPoint.cls ≠ "java/lang/invoke/MethodHandle" ∧ yX8_setPoint.cls ≠ "java/lang/invoke/VarHandle" ∧ (parseMethodDescriptor yX8_setPoint.desc).map (fun d => d.parameters.length) = some 1 := by decide +kernel
set_option maxHeartbeats 4000000 in
set_option maxRecDepth 100000 in
theorem c_X8_setPoint {l : Launch} (hl : l.stackTraces = false) {Z : m_Z} {S : m_S} {a0 : Nat} {p1 : Int32} {rZ9 : Except String Int32} (hf : f_X8_setPoint Z S a0 p1 = some rZ9) : m_Cx l yX8_setPoint (.code yX8_setPoint cX8_setPoint 2 (some .int) :: m_ws) rm_X8_setPoint 1 6 (fun f => [.ref a0, .int p1]) Z S (m_rv (fun r => some (.int r)) rZ9) S := by
  unfold f_X8_setPoint at hf
  refine m_entX hl (by decide) (fun _ => Nat.le_of_ble_eq_true rfl) (fun x C F => ?_)
  have C : m_H x l RX8 cX8_setPoint 2 rm_X8_setPoint := C
  show m_G x Z S 2 0 0 0 [(0, .ref a0), (1, .int p1)] []
  refine r_iload_n (q := 1) C 1 dX8_setPoint_0 rfl rfl ?_
  refine r_if_lt (t := 11) (q := 4) C dX8_setPoint_1 (by decide) rfl (fun c1 => ?_) (fun c1 => ?_)
  · replace hf := m_if1 hf c1
    obtain rfl := m_so1 hf
    exact x_thrA (text := "a day is 0 to 364") (ti := 12) C F w_553 w_21 (by decide +kernel) dX8_setPoint_11 dX8_setPoint_14 dX8_setPoint_15 dX8_setPoint_17 dX8_setPoint_20 (Nat.le_of_ble_eq_true rfl) (Nat.le_of_ble_eq_true rfl) (Nat.le_of_ble_eq_true rfl) (Nat.le_of_ble_eq_true rfl) (Nat.le_of_ble_eq_true rfl) (Nat.le_of_ble_eq_true rfl)
  · replace hf := m_if0 hf c1
    refine r_iload_n (q := 5) C 1 dX8_setPoint_4 rfl rfl ?_
    refine r_sipush (q := 8) (v := (365 : Int32)) C dX8_setPoint_5 (by decide) rfl ?_
    refine r_icmp_lt (t := 21) (q := 11) C dX8_setPoint_8 (by decide) rfl (fun c2 => ?_) (fun c2 => ?_)
    · replace hf := m_if1 hf c2
      refine r_aload_n (q := 22) C 0 dX8_setPoint_21 rfl rfl ?_
      obtain ⟨g3, hf⟩ := m_gd_of hf
      obtain ⟨b4, e5, hf⟩ := m_b1_of hf
      refine gf_X8_19 (q := 25) C dX8_setPoint_22 g3 e5 rfl ?_
      refine r_iload_n (q := 26) C 1 dX8_setPoint_25 rfl rfl ?_
      obtain ⟨g6, hf⟩ := m_gd_of hf
      obtain ⟨v8, h7, hf⟩ := m_b1_of hf
      refine r_callV (mc := 0) (ms := 0) (q := 29) (st1 := [.int v8]) C (c_X5_setPointOf hl h7) rfl w_562 w_550 w_551 w_4 w_552 hd_X5_setPointOf rfl (by decide) g6 rfl rfl rfl ⟨(Nat.le_of_ble_eq_true rfl), (Nat.le_of_ble_eq_true rfl)⟩ (Nat.le_of_ble_eq_true rfl) ⟨(Nat.le_of_ble_eq_true rfl), (Nat.le_of_ble_eq_true rfl)⟩ dX8_setPoint_26 rfl rfl ?_
      obtain rfl := m_so1 hf
      exact x_iret C F (Nat.le_of_ble_eq_true rfl) (Nat.le_of_ble_eq_true rfl) dX8_setPoint_29
    · replace hf := m_if0 hf c2
      obtain rfl := m_so1 hf
      exact x_thrA (text := "a day is 0 to 364") (ti := 12) C F w_553 w_21 (by decide +kernel) dX8_setPoint_11 dX8_setPoint_14 dX8_setPoint_15 dX8_setPoint_17 dX8_setPoint_20 (Nat.le_of_ble_eq_true rfl) (Nat.le_of_ble_eq_true rfl) (Nat.le_of_ble_eq_true rfl) (Nat.le_of_ble_eq_true rfl) (Nat.le_of_ble_eq_true rfl) (Nat.le_of_ble_eq_true rfl)
def f_X8_setSafe (Z : m_Z) (S : m_S) (a0 : Nat) (p1 : Int32) (p2 : Int32) (p3 : Int32) : Option ((Except String Unit) × m_S) := m_gd (m_ok Z a0 8) (m_btw (f_X8_vitrineAt Z S a0 p1) S (fun b3 => m_btw (f_X8_requireHumidity Z S a0 p2) S (fun _u => m_btw (f_X8_requireHumidity Z S a0 p3) S (fun _u => (if p2 ≤ p3 then m_gd (m_ok Z b3 7) (m_lt (m_pI S b3 2 p2) (fun S11 => m_lt (m_pI S11 b3 3 p3) (fun S13 => some ((.ok ()), S13)))) else some (.error "java/lang/IllegalArgumentException", S))))))
abbrev rm_X8_setSafe : Room := { frames := 7, cells := 4, slots := 24, locals := 103 }
theorem hd_X8_setSafe : yX8_setSafe.cls = RX8 ∧ yX8_setSafe.cls ≠ "java/lang/invoke/MethodHandle" ∧ yX8_setSafe.cls ≠ "java/lang/invoke/VarHandle" ∧ (parseMethodDescriptor yX8_setSafe.desc).map (fun d => d.parameters.length) = some 3 := by decide +kernel
set_option maxHeartbeats 4000000 in
set_option maxRecDepth 100000 in
theorem c_X8_setSafe {l : Launch} (hl : l.stackTraces = false) {Z : m_Z} {S : m_S} {a0 : Nat} {p1 : Int32} {p2 : Int32} {p3 : Int32} {rZ9 : Except String Unit} {SZ9 : m_S} (hf : f_X8_setSafe Z S a0 p1 p2 p3 = some (rZ9, SZ9)) : m_Cx l yX8_setSafe (.code yX8_setSafe cX8_setSafe 5 none :: m_ws) rm_X8_setSafe 4 24 (fun f => [.ref a0, .int p1, .int p2, .int p3]) Z S (m_rv (fun _ => none) rZ9) SZ9 := by
  unfold f_X8_setSafe at hf
  refine m_entX hl (by decide) (fun _ => Nat.le_of_ble_eq_true rfl) (fun x C F => ?_)
  have C : m_H x l RX8 cX8_setSafe 5 rm_X8_setSafe := C
  show m_G x Z S 5 0 0 0 [(0, .ref a0), (1, .int p1), (2, .int p2), (3, .int p3)] []
  refine r_aload_n (q := 1) C 0 dX8_setSafe_0 rfl rfl ?_
  refine r_iload_n (q := 2) C 1 dX8_setSafe_1 rfl rfl ?_
  obtain ⟨g1, hf⟩ := m_gd_of hf
  rcases m_btw_of hf with ⟨b3, h2, hf⟩ | ⟨x4, h2, hf⟩
  · refine x_okV (q := 5) (mcQ := 4) (msQ := 24) (retQ := none) (st1 := [.ref b3]) C (c_X8_vitrineAt hl h2) rfl w_599 w_600 w_1315 w_2 w_601 hd_X8_vitrineAt rfl (by decide) g1 rfl rfl rfl ⟨(Nat.le_of_ble_eq_true rfl), (Nat.le_of_ble_eq_true rfl)⟩ (Nat.le_of_ble_eq_true rfl) ⟨(Nat.le_of_ble_eq_true rfl), (Nat.le_of_ble_eq_true rfl)⟩ dX8_setSafe_2 rfl (Nat.le_of_ble_eq_true rfl) (Nat.le_of_ble_eq_true rfl) rfl ?_
    refine r_astore (q := 7) (L' := [(4, .ref b3), (0, .ref a0), (1, .int p1), (2, .int p2), (3, .int p3)]) C dX8_setSafe_5 rfl (by decide) rfl ?_
    refine r_aload_n (q := 8) C 1 dX8_setSafe_7 rfl rfl ?_
    refine r_iload_n (q := 9) C 3 dX8_setSafe_8 rfl rfl ?_
    rcases m_btw_of hf with ⟨_u, h5, hf⟩ | ⟨x6, h5, hf⟩
    · refine x_okV (q := 12) (mcQ := 4) (msQ := 24) (retQ := none) (st1 := []) C (c_X8_requireHumidity hl h5) rfl w_685 w_686 w_1318 w_2 w_687 hd_X8_requireHumidity rfl (by decide) g1 rfl rfl rfl ⟨(Nat.le_of_ble_eq_true rfl), (Nat.le_of_ble_eq_true rfl)⟩ (Nat.le_of_ble_eq_true rfl) ⟨(Nat.le_of_ble_eq_true rfl), (Nat.le_of_ble_eq_true rfl)⟩ dX8_setSafe_9 rfl (Nat.le_of_ble_eq_true rfl) (Nat.le_of_ble_eq_true rfl) rfl ?_
      refine r_aload_n (q := 13) C 1 dX8_setSafe_12 rfl rfl ?_
      refine r_iload_n (q := 14) C 4 dX8_setSafe_13 rfl rfl ?_
      rcases m_btw_of hf with ⟨_u, h7, hf⟩ | ⟨x8, h7, hf⟩
      · refine x_okV (q := 17) (mcQ := 4) (msQ := 24) (retQ := none) (st1 := []) C (c_X8_requireHumidity hl h7) rfl w_685 w_686 w_1318 w_2 w_687 hd_X8_requireHumidity rfl (by decide) g1 rfl rfl rfl ⟨(Nat.le_of_ble_eq_true rfl), (Nat.le_of_ble_eq_true rfl)⟩ (Nat.le_of_ble_eq_true rfl) ⟨(Nat.le_of_ble_eq_true rfl), (Nat.le_of_ble_eq_true rfl)⟩ dX8_setSafe_14 rfl (Nat.le_of_ble_eq_true rfl) (Nat.le_of_ble_eq_true rfl) rfl ?_
        refine r_iload_n (q := 18) C 4 dX8_setSafe_17 rfl rfl ?_
        refine r_iload_n (q := 19) C 3 dX8_setSafe_18 rfl rfl ?_
        refine r_icmp_ge (t := 32) (q := 22) C dX8_setSafe_19 (by decide) rfl (fun c9 => ?_) (fun c9 => ?_)
        · replace hf := m_if1 hf c9
          refine r_aload (q := 34) C 0 dX8_setSafe_32 rfl rfl ?_
          refine r_iload_n (q := 35) C 3 dX8_setSafe_34 rfl rfl ?_
          obtain ⟨g10, hf⟩ := m_gd_of hf
          obtain ⟨S11, e12, hf⟩ := m_lt_of hf
          refine pf_X8_181 (q := 38) C dX8_setSafe_35 g10 e12 rfl ?_
          refine r_aload (q := 40) C 0 dX8_setSafe_38 rfl rfl ?_
          refine r_iload_n (q := 41) C 4 dX8_setSafe_40 rfl rfl ?_
          obtain ⟨S13, e14, hf⟩ := m_lt_of hf
          refine pf_X8_184 (q := 44) C dX8_setSafe_41 g10 e14 rfl ?_
          obtain ⟨rfl, rfl⟩ := m_so2 hf
          exact x_vret C F (Nat.le_of_ble_eq_true rfl) (Nat.le_of_ble_eq_true rfl) dX8_setSafe_44
        · replace hf := m_if0 hf c9
          obtain ⟨rfl, rfl⟩ := m_so2 hf
          exact x_thrA (text := "the greatest safe humidity is at least the lowest") (ti := 26) C F w_553 w_21 (by decide +kernel) dX8_setSafe_22 dX8_setSafe_25 dX8_setSafe_26 dX8_setSafe_28 dX8_setSafe_31 (Nat.le_of_ble_eq_true rfl) (Nat.le_of_ble_eq_true rfl) (Nat.le_of_ble_eq_true rfl) (Nat.le_of_ble_eq_true rfl) (Nat.le_of_ble_eq_true rfl) (Nat.le_of_ble_eq_true rfl)
      · obtain ⟨rfl, rfl⟩ := Prod.mk.inj hf
        exact x_erV C (c_X8_requireHumidity hl h7) F rfl w_685 w_686 w_1318 w_2 w_687 hd_X8_requireHumidity rfl (by decide) g1 rfl rfl rfl ⟨(Nat.le_of_ble_eq_true rfl), (Nat.le_of_ble_eq_true rfl)⟩ (Nat.le_of_ble_eq_true rfl) ⟨(Nat.le_of_ble_eq_true rfl), (Nat.le_of_ble_eq_true rfl)⟩ dX8_setSafe_14 rfl (Nat.le_of_ble_eq_true rfl) (Nat.le_of_ble_eq_true rfl)
    · obtain ⟨rfl, rfl⟩ := Prod.mk.inj hf
      exact x_erV C (c_X8_requireHumidity hl h5) F rfl w_685 w_686 w_1318 w_2 w_687 hd_X8_requireHumidity rfl (by decide) g1 rfl rfl rfl ⟨(Nat.le_of_ble_eq_true rfl), (Nat.le_of_ble_eq_true rfl)⟩ (Nat.le_of_ble_eq_true rfl) ⟨(Nat.le_of_ble_eq_true rfl), (Nat.le_of_ble_eq_true rfl)⟩ dX8_setSafe_9 rfl (Nat.le_of_ble_eq_true rfl) (Nat.le_of_ble_eq_true rfl)
  · obtain ⟨rfl, rfl⟩ := Prod.mk.inj hf
    exact x_erV C (c_X8_vitrineAt hl h2) F rfl w_599 w_600 w_1315 w_2 w_601 hd_X8_vitrineAt rfl (by decide) g1 rfl rfl rfl ⟨(Nat.le_of_ble_eq_true rfl), (Nat.le_of_ble_eq_true rfl)⟩ (Nat.le_of_ble_eq_true rfl) ⟨(Nat.le_of_ble_eq_true rfl), (Nat.le_of_ble_eq_true rfl)⟩ dX8_setSafe_2 rfl (Nat.le_of_ble_eq_true rfl) (Nat.le_of_ble_eq_true rfl)
def f_X8_swing (Z : m_Z) (S : m_S) (a0 : Nat) (p1 : Int32) : Option (Except String Int32) := m_gd (m_ok Z a0 8) (m_bt (f_X8_logbookAt Z S a0 p1) (fun b3 => m_bt (f_X8_requireAnHour Z S a0) (fun _u => m_b1 (S.2.2 a0 3) (fun b7 => m_gd (m_ok Z b7 6) (m_b1 (S.2.2 b7 0) (fun b10 => m_gd (m_ok Z b10 4) (m_gd (m_ok Z b3 2) (m_b1 (f_X2_swingAt Z S b3 (S.1 b10 0)) (fun v15 => some (.ok v15))))))))))
abbrev rm_X8_swing : Room := { frames := 7, cells := 2, slots := 12, locals := 103 }
theorem hd_X8_swing : yX8_swing.cls = RX8 ∧ yX8_swing.cls ≠ "java/lang/invoke/MethodHandle" ∧ yX8_swing.cls ≠ "java/lang/invoke/VarHandle" ∧ (parseMethodDescriptor yX8_swing.desc).map (fun d => d.parameters.length) = some 1 := by decide +kernel
set_option maxHeartbeats 4000000 in
set_option maxRecDepth 100000 in
theorem c_X8_swing {l : Launch} (hl : l.stackTraces = false) {Z : m_Z} {S : m_S} {a0 : Nat} {p1 : Int32} {rZ9 : Except String Int32} (hf : f_X8_swing Z S a0 p1 = some rZ9) : m_Cx l yX8_swing (.code yX8_swing cX8_swing 3 (some .int) :: m_ws) rm_X8_swing 2 12 (fun f => [.ref a0, .int p1]) Z S (m_rv (fun r => some (.int r)) rZ9) S := by
  unfold f_X8_swing at hf
  refine m_entX hl (by decide) (fun _ => Nat.le_of_ble_eq_true rfl) (fun x C F => ?_)
  have C : m_H x l RX8 cX8_swing 3 rm_X8_swing := C
  show m_G x Z S 3 0 0 0 [(0, .ref a0), (1, .int p1)] []
  refine r_aload_n (q := 1) C 0 dX8_swing_0 rfl rfl ?_
  refine r_iload_n (q := 2) C 1 dX8_swing_1 rfl rfl ?_
  obtain ⟨g1, hf⟩ := m_gd_of hf
  rcases m_bt_of hf with ⟨b3, h2, hf⟩ | ⟨x4, h2, hf⟩
  · refine x_okV (q := 5) (mcQ := 2) (msQ := 12) (retQ := (some .int)) (st1 := [.ref b3]) C (c_X8_logbookAt hl h2) rfl w_602 w_603 w_1316 w_2 w_604 hd_X8_logbookAt rfl (by decide) g1 rfl rfl rfl ⟨(Nat.le_of_ble_eq_true rfl), (Nat.le_of_ble_eq_true rfl)⟩ (Nat.le_of_ble_eq_true rfl) ⟨(Nat.le_of_ble_eq_true rfl), (Nat.le_of_ble_eq_true rfl)⟩ dX8_swing_2 rfl (Nat.le_of_ble_eq_true rfl) (Nat.le_of_ble_eq_true rfl) rfl ?_
    refine r_astore_n (q := 6) (L' := [(2, .ref b3), (0, .ref a0), (1, .int p1)]) C dX8_swing_5 rfl rfl (by decide) rfl ?_
    refine r_aload_n (q := 7) C 1 dX8_swing_6 rfl rfl ?_
    rcases m_bt_of hf with ⟨_u, h5, hf⟩ | ⟨x6, h5, hf⟩
    · refine x_okV (q := 10) (mcQ := 2) (msQ := 12) (retQ := (some .int)) (st1 := []) C (c_X8_requireAnHour hl h5) rfl w_650 w_651 w_1317 w_2 w_652 hd_X8_requireAnHour rfl (by decide) g1 rfl rfl rfl ⟨(Nat.le_of_ble_eq_true rfl), (Nat.le_of_ble_eq_true rfl)⟩ (Nat.le_of_ble_eq_true rfl) ⟨(Nat.le_of_ble_eq_true rfl), (Nat.le_of_ble_eq_true rfl)⟩ dX8_swing_7 rfl (Nat.le_of_ble_eq_true rfl) (Nat.le_of_ble_eq_true rfl) rfl ?_
      refine r_aload_n (q := 11) C 0 dX8_swing_10 rfl rfl ?_
      refine r_aload_n (q := 12) C 1 dX8_swing_11 rfl rfl ?_
      obtain ⟨b7, e8, hf⟩ := m_b1_of hf
      refine gf_X8_29 (q := 15) C dX8_swing_12 g1 e8 rfl ?_
      obtain ⟨g9, hf⟩ := m_gd_of hf
      obtain ⟨b10, e11, hf⟩ := m_b1_of hf
      refine gf_X8_95 (q := 18) C dX8_swing_15 g9 e11 rfl ?_
      obtain ⟨g12, hf⟩ := m_gd_of hf
      refine gf_X8_98 (q := 21) C dX8_swing_18 g12 rfl ?_
      obtain ⟨g13, hf⟩ := m_gd_of hf
      obtain ⟨v15, h14, hf⟩ := m_b1_of hf
      refine r_callV (mc := 0) (ms := 0) (q := 24) (st1 := [.int v15]) C (c_X2_swingAt hl h14) rfl w_653 w_654 w_655 w_10 w_656 hd_X2_swingAt rfl (by decide) g13 rfl rfl rfl ⟨(Nat.le_of_ble_eq_true rfl), (Nat.le_of_ble_eq_true rfl)⟩ (Nat.le_of_ble_eq_true rfl) ⟨(Nat.le_of_ble_eq_true rfl), (Nat.le_of_ble_eq_true rfl)⟩ dX8_swing_21 rfl rfl ?_
      obtain rfl := m_so1 hf
      exact x_iret C F (Nat.le_of_ble_eq_true rfl) (Nat.le_of_ble_eq_true rfl) dX8_swing_24
    · subst hf
      exact x_erV C (c_X8_requireAnHour hl h5) F rfl w_650 w_651 w_1317 w_2 w_652 hd_X8_requireAnHour rfl (by decide) g1 rfl rfl rfl ⟨(Nat.le_of_ble_eq_true rfl), (Nat.le_of_ble_eq_true rfl)⟩ (Nat.le_of_ble_eq_true rfl) ⟨(Nat.le_of_ble_eq_true rfl), (Nat.le_of_ble_eq_true rfl)⟩ dX8_swing_7 rfl (Nat.le_of_ble_eq_true rfl) (Nat.le_of_ble_eq_true rfl)
  · subst hf
    exact x_erV C (c_X8_logbookAt hl h2) F rfl w_602 w_603 w_1316 w_2 w_604 hd_X8_logbookAt rfl (by decide) g1 rfl rfl rfl ⟨(Nat.le_of_ble_eq_true rfl), (Nat.le_of_ble_eq_true rfl)⟩ (Nat.le_of_ble_eq_true rfl) ⟨(Nat.le_of_ble_eq_true rfl), (Nat.le_of_ble_eq_true rfl)⟩ dX8_swing_2 rfl (Nat.le_of_ble_eq_true rfl) (Nat.le_of_ble_eq_true rfl)
def f_X8_truncate (Z : m_Z) (S : m_S) (a0 : Nat) (p1 : Int32) : Option ((Except String Int32) × m_S) := (if p1 < 0 then some (.error "java/lang/IndexOutOfBoundsException", S) else m_gd (m_ok Z a0 8) (m_b1 (S.2.2 a0 0) (fun b3 => m_gd (m_ok Z b3 3) ((if p1 ≤ (S.1 b3 1) then m_lt (m_pI S b3 1 p1) (fun S7 => some ((.ok p1), S7)) else some (.error "java/lang/IndexOutOfBoundsException", S))))))
abbrev rm_X8_truncate : Room := { frames := 6, cells := 1, slots := 6, locals := 82 }
theorem hd_X8_truncate : yX8_truncate.cls = RX8 ∧ yX8_truncate.cls ≠ "java/lang/invoke/MethodHandle" ∧ yX8_truncate.cls ≠ "java/lang/invoke/VarHandle" ∧ (parseMethodDescriptor yX8_truncate.desc).map (fun d => d.parameters.length) = some 1 := by decide +kernel
set_option maxHeartbeats 4000000 in
set_option maxRecDepth 100000 in
theorem c_X8_truncate {l : Launch} (hl : l.stackTraces = false) {Z : m_Z} {S : m_S} {a0 : Nat} {p1 : Int32} {rZ9 : Except String Int32} {SZ9 : m_S} (hf : f_X8_truncate Z S a0 p1 = some (rZ9, SZ9)) : m_Cx l yX8_truncate (.code yX8_truncate cX8_truncate 2 (some .int) :: m_ws) rm_X8_truncate 1 6 (fun f => [.ref a0, .int p1]) Z S (m_rv (fun r => some (.int r)) rZ9) SZ9 := by
  unfold f_X8_truncate at hf
  refine m_entX hl (by decide) (fun _ => Nat.le_of_ble_eq_true rfl) (fun x C F => ?_)
  have C : m_H x l RX8 cX8_truncate 2 rm_X8_truncate := C
  show m_G x Z S 2 0 0 0 [(0, .ref a0), (1, .int p1)] []
  refine r_iload_n (q := 1) C 1 dX8_truncate_0 rfl rfl ?_
  refine r_if_lt (t := 15) (q := 4) C dX8_truncate_1 (by decide) rfl (fun c1 => ?_) (fun c1 => ?_)
  · replace hf := m_if1 hf c1
    obtain ⟨rfl, rfl⟩ := m_so2 hf
    exact x_thrB (text := "the text is not so long") (ti := 9) C F w_285 w_16 (by decide +kernel) dX8_truncate_15 dX8_truncate_18 dX8_truncate_19 dX8_truncate_21 dX8_truncate_24 (Nat.le_of_ble_eq_true rfl) (Nat.le_of_ble_eq_true rfl) (Nat.le_of_ble_eq_true rfl) (Nat.le_of_ble_eq_true rfl) (Nat.le_of_ble_eq_true rfl) (Nat.le_of_ble_eq_true rfl)
  · replace hf := m_if0 hf c1
    refine r_iload_n (q := 5) C 1 dX8_truncate_4 rfl rfl ?_
    refine r_aload_n (q := 6) C 0 dX8_truncate_5 rfl rfl ?_
    obtain ⟨g2, hf⟩ := m_gd_of hf
    obtain ⟨b3, e4, hf⟩ := m_b1_of hf
    refine gf_X8_10 (q := 9) C dX8_truncate_6 g2 e4 rfl ?_
    obtain ⟨g5, hf⟩ := m_gd_of hf
    refine gf_X8_59 (q := 12) C dX8_truncate_9 g5 rfl ?_
    refine r_icmp_le (t := 25) (q := 15) C dX8_truncate_12 (by decide) rfl (fun c6 => ?_) (fun c6 => ?_)
    · replace hf := m_if1 hf c6
      refine r_aload_n (q := 26) C 0 dX8_truncate_25 rfl rfl ?_
      refine gf_X8_10 (q := 29) C dX8_truncate_26 g2 e4 rfl ?_
      refine r_iload_n (q := 30) C 1 dX8_truncate_29 rfl rfl ?_
      obtain ⟨S7, e8, hf⟩ := m_lt_of hf
      refine pf_X8_59 (q := 33) C dX8_truncate_30 g5 e8 rfl ?_
      refine r_iload_n (q := 34) C 1 dX8_truncate_33 rfl rfl ?_
      obtain ⟨rfl, rfl⟩ := m_so2 hf
      exact x_iret C F (Nat.le_of_ble_eq_true rfl) (Nat.le_of_ble_eq_true rfl) dX8_truncate_34
    · replace hf := m_if0 hf c6
      obtain ⟨rfl, rfl⟩ := m_so2 hf
      exact x_thrB (text := "the text is not so long") (ti := 9) C F w_285 w_16 (by decide +kernel) dX8_truncate_15 dX8_truncate_18 dX8_truncate_19 dX8_truncate_21 dX8_truncate_24 (Nat.le_of_ble_eq_true rfl) (Nat.le_of_ble_eq_true rfl) (Nat.le_of_ble_eq_true rfl) (Nat.le_of_ble_eq_true rfl) (Nat.le_of_ble_eq_true rfl) (Nat.le_of_ble_eq_true rfl)
def F_X8_unsafeIn_28 (Z : m_Z) (a0 : Nat) (j21 : (m_S → Option ((Except String Int32) × m_S))) (j24 : (Int32 → m_S → Option ((Except String Int32) × m_S))) (lp27 : (Int32 × m_S) → Option ((Except String Int32) × m_S)) (p54 : (Int32 × m_S)) : Option ((Except String Int32) × m_S) := match p54 with
  | (v25, S26) => (if (2000 : Int32) < v25 then j21 S26 else m_b1 (S26.2.2 a0 7) (fun b32 => m_b1 (S26.2.2 a0 6) (fun b34 => m_b1 (S26.2.2 a0 1) (fun b36 => m_gd (m_ok Z b34 4) (m_bw (f_X4_passHour Z S26 b34 b36) (fun v41 S40 => m_gd (m_ok Z b32 7) (m_bw (f_X7_passHour Z S40 b32 v41) (fun v45 S44 => m_b1 (S44.2.2 a0 7) (fun b46 => m_gd (m_ok Z b46 7) (m_b1 (f_X7_isUnsafe Z S44 b46) (fun v50 => (if v50 = 0 then m_lt (v25 + (1 : Int32)) (fun v52 => lp27 (v52, S44)) else j24 v25 S44))))))))))))
def f_X8_unsafeIn (Z : m_Z) (S : m_S) (a0 : Nat) (p1 : Int32) : Option ((Except String Int32) × m_S) := m_gd (m_ok Z a0 8) (m_b1 (S.2.2 a0 7) (fun b2 => m_btw (f_X8_vitrineAt Z S a0 p1) S (fun b5 => m_gd (m_ok Z b2 7) (m_bw (f_X7_copyFrom Z S b2 b5) (fun _u S9 => m_b1 (S9.2.2 a0 6) (fun b10 => m_b1 (S9.2.2 a0 3) (fun b12 => m_gd (m_ok Z b12 6) (m_b1 (S9.2.2 b12 0) (fun b15 => m_gd (m_ok Z b10 4) (m_bw (f_X4_copyFrom Z S9 b10 b15) (fun _u S19 => m_jp (fun (S20 : m_S) => some ((.ok (-1 : Int32)), S20)) (fun j21 => m_jp (fun (v22 : Int32) (S23 : m_S) => some ((.ok v22), S23)) (fun j24 => m_fx (F_X8_unsafeIn_28 Z a0 j21 j24) 100000 ((1 : Int32), S19))))))))))))))
abbrev rm_X8_unsafeIn : Room := { frames := 7, cells := 1, slots := 6, locals := 116 }
theorem hd_X8_unsafeIn : yX8_unsafeIn.cls = RX8 ∧ yX8_unsafeIn.cls ≠ "java/lang/invoke/MethodHandle" ∧ yX8_unsafeIn.cls ≠ "java/lang/invoke/VarHandle" ∧ (parseMethodDescriptor yX8_unsafeIn.desc).map (fun d => d.parameters.length) = some 1 := by decide +kernel
set_option maxHeartbeats 4000000 in
set_option maxRecDepth 100000 in
theorem c_X8_unsafeIn {l : Launch} (hl : l.stackTraces = false) {Z : m_Z} {S : m_S} {a0 : Nat} {p1 : Int32} {rZ9 : Except String Int32} {SZ9 : m_S} (hf : f_X8_unsafeIn Z S a0 p1 = some (rZ9, SZ9)) : m_Cx l yX8_unsafeIn (.code yX8_unsafeIn cX8_unsafeIn 3 (some .int) :: m_ws) rm_X8_unsafeIn 1 6 (fun f => [.ref a0, .int p1]) Z S (m_rv (fun r => some (.int r)) rZ9) SZ9 := by
  unfold f_X8_unsafeIn at hf
  refine m_entX hl (by decide) (fun _ => Nat.le_of_ble_eq_true rfl) (fun x C F => ?_)
  have C : m_H x l RX8 cX8_unsafeIn 3 rm_X8_unsafeIn := C
  show m_G x Z S 3 0 0 0 [(0, .ref a0), (1, .int p1)] []
  refine r_aload_n (q := 1) C 0 dX8_unsafeIn_0 rfl rfl ?_
  obtain ⟨g1, hf⟩ := m_gd_of hf
  obtain ⟨b2, e3, hf⟩ := m_b1_of hf
  refine gf_X8_51 (q := 4) C dX8_unsafeIn_1 g1 e3 rfl ?_
  refine r_aload_n (q := 5) C 0 dX8_unsafeIn_4 rfl rfl ?_
  refine r_iload_n (q := 6) C 1 dX8_unsafeIn_5 rfl rfl ?_
  rcases m_btw_of hf with ⟨b5, h4, hf⟩ | ⟨x6, h4, hf⟩
  · refine x_okV (q := 9) (mcQ := 1) (msQ := 6) (retQ := (some .int)) (st1 := [.ref b5, .ref b2]) C (c_X8_vitrineAt hl h4) rfl w_599 w_600 w_1315 w_2 w_601 hd_X8_vitrineAt rfl (by decide) g1 rfl rfl rfl ⟨(Nat.le_of_ble_eq_true rfl), (Nat.le_of_ble_eq_true rfl)⟩ (Nat.le_of_ble_eq_true rfl) ⟨(Nat.le_of_ble_eq_true rfl), (Nat.le_of_ble_eq_true rfl)⟩ dX8_unsafeIn_6 rfl (Nat.le_of_ble_eq_true rfl) (Nat.le_of_ble_eq_true rfl) rfl ?_
    obtain ⟨g7, hf⟩ := m_gd_of hf
    obtain ⟨_u, S9, h8, hf⟩ := m_bw_of hf
    refine r_callV (mc := 0) (ms := 0) (q := 12) (st1 := []) C (c_X7_copyFrom hl h8) rfl w_849 w_506 w_507 w_6 w_508 hd_X7_copyFrom rfl (by decide) g7 rfl rfl rfl ⟨(Nat.le_of_ble_eq_true rfl), (Nat.le_of_ble_eq_true rfl)⟩ (Nat.le_of_ble_eq_true rfl) ⟨(Nat.le_of_ble_eq_true rfl), (Nat.le_of_ble_eq_true rfl)⟩ dX8_unsafeIn_9 rfl rfl ?_
    refine r_aload_n (q := 13) C 0 dX8_unsafeIn_12 rfl rfl ?_
    obtain ⟨b10, e11, hf⟩ := m_b1_of hf
    refine gf_X8_44 (q := 16) C dX8_unsafeIn_13 g1 e11 rfl ?_
    refine r_aload_n (q := 17) C 0 dX8_unsafeIn_16 rfl rfl ?_
    obtain ⟨b12, e13, hf⟩ := m_b1_of hf
    refine gf_X8_29 (q := 20) C dX8_unsafeIn_17 g1 e13 rfl ?_
    obtain ⟨g14, hf⟩ := m_gd_of hf
    obtain ⟨b15, e16, hf⟩ := m_b1_of hf
    refine gf_X8_95 (q := 23) C dX8_unsafeIn_20 g14 e16 rfl ?_
    obtain ⟨g17, hf⟩ := m_gd_of hf
    obtain ⟨_u, S19, h18, hf⟩ := m_bw_of hf
    refine r_callV (mc := 0) (ms := 0) (q := 26) (st1 := []) C (c_X4_copyFrom hl h18) rfl w_837 w_838 w_839 w_9 w_840 hd_X4_copyFrom rfl (by decide) g17 rfl rfl rfl ⟨(Nat.le_of_ble_eq_true rfl), (Nat.le_of_ble_eq_true rfl)⟩ (Nat.le_of_ble_eq_true rfl) ⟨(Nat.le_of_ble_eq_true rfl), (Nat.le_of_ble_eq_true rfl)⟩ dX8_unsafeIn_23 rfl rfl ?_
    refine r_iconst (q := 27) (v := (1 : Int32)) C dX8_unsafeIn_26 (by decide) rfl ?_
    refine r_istore_n (q := 28) (L' := [(2, .int (1 : Int32)), (0, .ref a0), (1, .int p1)]) C dX8_unsafeIn_27 rfl rfl (by decide) rfl ?_
    obtain ⟨j21, ej21, hf⟩ := m_jp_of hf
    have J21 : ∀ (S20 : m_S), j21 S20 = some (rZ9, SZ9) → m_G x Z S20 3 1 6 72 [] [] := by
      intro S20 hf
      rw [ej21] at hf
      refine r_iconst (q := 73) (v := (-1 : Int32)) C dX8_unsafeIn_72 (by decide) rfl ?_
      obtain ⟨rfl, rfl⟩ := m_so2 hf
      exact x_iret C F (Nat.le_of_ble_eq_true rfl) (Nat.le_of_ble_eq_true rfl) dX8_unsafeIn_73
    obtain ⟨j24, ej24, hf⟩ := m_jp_of hf
    have J24 : ∀ (v22 : Int32) (S23 : m_S), j24 v22 S23 = some (rZ9, SZ9) → m_G x Z S23 3 1 6 64 [(2, .int v22)] [] := by
      intro v22 S23 hf
      rw [ej24] at hf
      refine r_iload_n (q := 65) C 0 dX8_unsafeIn_64 rfl rfl ?_
      obtain ⟨rfl, rfl⟩ := m_so2 hf
      exact x_iret C F (Nat.le_of_ble_eq_true rfl) (Nat.le_of_ble_eq_true rfl) dX8_unsafeIn_65
    have LL30 : ∀ (fu29 : Nat) (v25 : Int32) (S26 : m_S), m_fx (F_X8_unsafeIn_28 Z a0 j21 j24) fu29 (v25, S26) = some (rZ9, SZ9) → m_G x Z S26 3 1 6 28 [(0, .ref a0), (2, .int v25)] [] := by
      intro fu29
      induction fu29 with
      | zero => intros; rename_i hf; cases hf
      | succ fu29 ih28 =>
        intro v25 S26 hf
        replace hf : F_X8_unsafeIn_28 Z a0 j21 j24 (m_fx (F_X8_unsafeIn_28 Z a0 j21 j24) fu29) (v25, S26) = some (rZ9, SZ9) := hf
        unfold F_X8_unsafeIn_28 at hf
        dsimp only at hf
        refine r_iload_n (q := 29) C 1 dX8_unsafeIn_28 rfl rfl ?_
        refine r_sipush (q := 32) (v := (2000 : Int32)) C dX8_unsafeIn_29 (by decide) rfl ?_
        refine r_icmp_gt (t := 72) (q := 35) C dX8_unsafeIn_32 (by decide) rfl (fun c31 => ?_) (fun c31 => ?_)
        · replace hf := m_if1 hf c31
          refine r_sub [] rfl ?_
          exact J21 S26 hf
        · replace hf := m_if0 hf c31
          refine r_aload_n (q := 36) C 0 dX8_unsafeIn_35 rfl rfl ?_
          obtain ⟨b32, e33, hf⟩ := m_b1_of hf
          refine gf_X8_51 (q := 39) C dX8_unsafeIn_36 g1 e33 rfl ?_
          refine r_aload_n (q := 40) C 0 dX8_unsafeIn_39 rfl rfl ?_
          obtain ⟨b34, e35, hf⟩ := m_b1_of hf
          refine gf_X8_44 (q := 43) C dX8_unsafeIn_40 g1 e35 rfl ?_
          refine r_aload_n (q := 44) C 0 dX8_unsafeIn_43 rfl rfl ?_
          obtain ⟨b36, e37, hf⟩ := m_b1_of hf
          refine gf_X8_19 (q := 47) C dX8_unsafeIn_44 g1 e37 rfl ?_
          obtain ⟨g38, hf⟩ := m_gd_of hf
          obtain ⟨v41, S40, h39, hf⟩ := m_bw_of hf
          refine r_callV (mc := 0) (ms := 0) (q := 50) (st1 := [.int v41, .ref b32]) C (c_X4_passHour hl h39) rfl w_841 w_804 w_805 w_9 w_806 hd_X4_passHour rfl (by decide) g38 rfl rfl rfl ⟨(Nat.le_of_ble_eq_true rfl), (Nat.le_of_ble_eq_true rfl)⟩ (Nat.le_of_ble_eq_true rfl) ⟨(Nat.le_of_ble_eq_true rfl), (Nat.le_of_ble_eq_true rfl)⟩ dX8_unsafeIn_47 rfl rfl ?_
          obtain ⟨g42, hf⟩ := m_gd_of hf
          obtain ⟨v45, S44, h43, hf⟩ := m_bw_of hf
          refine r_callV (mc := 0) (ms := 0) (q := 53) (st1 := [.int v45]) C (c_X7_passHour hl h43) rfl w_850 w_812 w_813 w_6 w_814 hd_X7_passHour rfl (by decide) g42 rfl rfl rfl ⟨(Nat.le_of_ble_eq_true rfl), (Nat.le_of_ble_eq_true rfl)⟩ (Nat.le_of_ble_eq_true rfl) ⟨(Nat.le_of_ble_eq_true rfl), (Nat.le_of_ble_eq_true rfl)⟩ dX8_unsafeIn_50 rfl rfl ?_
          refine r_pop (q := 54) C dX8_unsafeIn_53 rfl rfl ?_
          refine r_aload_n (q := 55) C 0 dX8_unsafeIn_54 rfl rfl ?_
          obtain ⟨b46, e47, hf⟩ := m_b1_of hf
          refine gf_X8_51 (q := 58) C dX8_unsafeIn_55 g1 e47 rfl ?_
          obtain ⟨g48, hf⟩ := m_gd_of hf
          obtain ⟨v50, h49, hf⟩ := m_b1_of hf
          refine r_callV (mc := 0) (ms := 0) (q := 61) (st1 := [.int v50]) C (c_X7_isUnsafe hl h49) rfl w_858 w_822 w_823 w_6 w_824 hd_X7_isUnsafe rfl (by decide) g48 rfl rfl rfl ⟨(Nat.le_of_ble_eq_true rfl), (Nat.le_of_ble_eq_true rfl)⟩ (Nat.le_of_ble_eq_true rfl) ⟨(Nat.le_of_ble_eq_true rfl), (Nat.le_of_ble_eq_true rfl)⟩ dX8_unsafeIn_58 rfl rfl ?_
          refine r_if_eq (t := 66) (q := 64) C dX8_unsafeIn_61 (by decide) rfl (fun c51 => ?_) (fun c51 => ?_)
          · replace hf := m_if1 hf c51
            obtain ⟨v52, e53, hf⟩ := m_lt_of hf
            refine r_iinc (q := 69) (v := v52) (L' := [(2, .int v52), (0, .ref a0)]) C 1 dX8_unsafeIn_66 rfl (by rw [e53]; rfl) rfl (by decide) rfl ?_
            refine r_goto (t := 28) C dX8_unsafeIn_69 (by decide) ?_
            refine r_sub [1, 0] rfl ?_
            exact ih28 v52 S44 hf
          · replace hf := m_if0 hf c51
            refine r_sub [1] rfl ?_
            exact J24 v25 S44 hf
    refine r_sub [1, 0] rfl ?_
    exact LL30 100000 (1 : Int32) S19 hf
  · obtain ⟨rfl, rfl⟩ := Prod.mk.inj hf
    exact x_erV C (c_X8_vitrineAt hl h4) F rfl w_599 w_600 w_1315 w_2 w_601 hd_X8_vitrineAt rfl (by decide) g1 rfl rfl rfl ⟨(Nat.le_of_ble_eq_true rfl), (Nat.le_of_ble_eq_true rfl)⟩ (Nat.le_of_ble_eq_true rfl) ⟨(Nat.le_of_ble_eq_true rfl), (Nat.le_of_ble_eq_true rfl)⟩ dX8_unsafeIn_6 rfl (Nat.le_of_ble_eq_true rfl) (Nat.le_of_ble_eq_true rfl)
def f_X8_visitors (Z : m_Z) (S : m_S) (a0 : Nat) (p1 : Int32) : Option (Except String Int32) := (if p1 < 0 then some (.error "java/lang/IllegalArgumentException") else (if p1 < (24 : Int32) then m_gd (m_ok Z a0 8) (m_b1 (S.2.2 a0 1) (fun b4 => m_gd (m_ok Z b4 5) (m_b1 (f_X5_visitorsAt Z S b4 p1) (fun v8 => some (.ok v8))))) else some (.error "java/lang/IllegalArgumentException")))
abbrev rm_X8_visitors : Room := { frames := 6, cells := 1, slots := 6, locals := 82 }
theorem hd_X8_visitors : yX8_visitors.cls = RX8 ∧ yX8_visitors.cls ≠ "java/lang/invoke/MethodHandle" ∧ yX8_visitors.cls ≠ "java/lang/invoke/VarHandle" ∧ (parseMethodDescriptor yX8_visitors.desc).map (fun d => d.parameters.length) = some 1 := by decide +kernel
set_option maxHeartbeats 4000000 in
set_option maxRecDepth 100000 in
theorem c_X8_visitors {l : Launch} (hl : l.stackTraces = false) {Z : m_Z} {S : m_S} {a0 : Nat} {p1 : Int32} {rZ9 : Except String Int32} (hf : f_X8_visitors Z S a0 p1 = some rZ9) : m_Cx l yX8_visitors (.code yX8_visitors cX8_visitors 2 (some .int) :: m_ws) rm_X8_visitors 1 6 (fun f => [.ref a0, .int p1]) Z S (m_rv (fun r => some (.int r)) rZ9) S := by
  unfold f_X8_visitors at hf
  refine m_entX hl (by decide) (fun _ => Nat.le_of_ble_eq_true rfl) (fun x C F => ?_)
  have C : m_H x l RX8 cX8_visitors 2 rm_X8_visitors := C
  show m_G x Z S 2 0 0 0 [(0, .ref a0), (1, .int p1)] []
  refine r_iload_n (q := 1) C 1 dX8_visitors_0 rfl rfl ?_
  refine r_if_lt (t := 10) (q := 4) C dX8_visitors_1 (by decide) rfl (fun c1 => ?_) (fun c1 => ?_)
  · replace hf := m_if1 hf c1
    obtain rfl := m_so1 hf
    exact x_thrA (text := "an hour of the day is 0 to 23") (ti := 13) C F w_553 w_21 (by decide +kernel) dX8_visitors_10 dX8_visitors_13 dX8_visitors_14 dX8_visitors_16 dX8_visitors_19 (Nat.le_of_ble_eq_true rfl) (Nat.le_of_ble_eq_true rfl) (Nat.le_of_ble_eq_true rfl) (Nat.le_of_ble_eq_true rfl) (Nat.le_of_ble_eq_true rfl) (Nat.le_of_ble_eq_true rfl)
  · replace hf := m_if0 hf c1
    refine r_iload_n (q := 5) C 1 dX8_visitors_4 rfl rfl ?_
    refine r_bipush (q := 7) (v := (24 : Int32)) C dX8_visitors_5 (by decide) rfl ?_
    refine r_icmp_lt (t := 20) (q := 10) C dX8_visitors_7 (by decide) rfl (fun c2 => ?_) (fun c2 => ?_)
    · replace hf := m_if1 hf c2
      refine r_aload_n (q := 21) C 0 dX8_visitors_20 rfl rfl ?_
      obtain ⟨g3, hf⟩ := m_gd_of hf
      obtain ⟨b4, e5, hf⟩ := m_b1_of hf
      refine gf_X8_19 (q := 24) C dX8_visitors_21 g3 e5 rfl ?_
      refine r_iload_n (q := 25) C 1 dX8_visitors_24 rfl rfl ?_
      obtain ⟨g6, hf⟩ := m_gd_of hf
      obtain ⟨v8, h7, hf⟩ := m_b1_of hf
      refine r_callV (mc := 0) (ms := 0) (q := 28) (st1 := [.int v8]) C (c_X5_visitorsAt hl h7) rfl w_570 w_571 w_572 w_4 w_573 hd_X5_visitorsAt rfl (by decide) g6 rfl rfl rfl ⟨(Nat.le_of_ble_eq_true rfl), (Nat.le_of_ble_eq_true rfl)⟩ (Nat.le_of_ble_eq_true rfl) ⟨(Nat.le_of_ble_eq_true rfl), (Nat.le_of_ble_eq_true rfl)⟩ dX8_visitors_25 rfl rfl ?_
      obtain rfl := m_so1 hf
      exact x_iret C F (Nat.le_of_ble_eq_true rfl) (Nat.le_of_ble_eq_true rfl) dX8_visitors_28
    · replace hf := m_if0 hf c2
      obtain rfl := m_so1 hf
      exact x_thrA (text := "an hour of the day is 0 to 23") (ti := 13) C F w_553 w_21 (by decide +kernel) dX8_visitors_10 dX8_visitors_13 dX8_visitors_14 dX8_visitors_16 dX8_visitors_19 (Nat.le_of_ble_eq_true rfl) (Nat.le_of_ble_eq_true rfl) (Nat.le_of_ble_eq_true rfl) (Nat.le_of_ble_eq_true rfl) (Nat.le_of_ble_eq_true rfl) (Nat.le_of_ble_eq_true rfl)
