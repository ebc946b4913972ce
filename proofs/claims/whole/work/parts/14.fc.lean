def F_X3_appendBytes_3 (Z : m_Z) (a0 : Nat) (p1 : Int32) (j2 : (m_S → Option (Unit × m_S))) (lp5 : (Int32 × m_S) → Option (Unit × m_S)) (p22 : (Int32 × m_S)) : Option (Unit × m_S) := match p22 with
  | (v3, S4) => (if v3 < 0 then j2 S4 else m_gd (m_ok Z a0 3) (m_b1 (S4.2.2 a0 0) (fun b11 => m_gd (m_ok Z b11 10) ((if (Int32.ofNat (Z.2.2 b11)) ≤ (S4.1 a0 1) then j2 S4 else m_gd (m_in (S4.1 a0 1) (Z.2.2 b11)) (m_lt (m_pI S4 b11 (S4.1 a0 1).toNatClampNeg (vp_nar .byte (((p1.toUInt32 >>> (v3.toUInt32 &&& Int32.toUInt32 31)).toInt32).toInt8.toInt32))) (fun S16 => m_lt (m_pI S16 a0 1 ((S16.1 a0 1) + (1 : Int32))) (fun S18 => m_lt (v3 + (-8 : Int32)) (fun v20 => lp5 (v20, S18))))))))))
def f_X3_appendBytes (Z : m_Z) (S : m_S) (a0 : Nat) (p1 : Int32) : Option (Unit × m_S) := m_jp (fun (S1 : m_S) => some ((), S1)) (fun j2 => m_fx (F_X3_appendBytes_3 Z a0 p1 j2) 100000 ((24 : Int32), S))
abbrev rm_X3_appendBytes : Room := { frames := 0, cells := 0, slots := 0, locals := 0 }
theorem hd_X3_appendBytes : yX3_appendBytes.cls = RX3 ∧ yX3_appendBytes.cls ≠ "java/lang/invoke/MethodHandle" ∧ yX3_appendBytes.cls ≠ "java/lang/invoke/VarHandle" ∧ (parseMethodDescriptor yX3_appendBytes.desc).map (fun d => d.parameters.length) = some 1 := by decide +kernel
set_option maxHeartbeats 4000000 in
set_option maxRecDepth 100000 in
theorem c_X3_appendBytes {l : Launch} (hl : l.stackTraces = false) {Z : m_Z} {S : m_S} {a0 : Nat} {p1 : Int32} {rZ9 : Unit} {SZ9 : m_S} (hf : f_X3_appendBytes Z S a0 p1 = some (rZ9, SZ9)) : m_Ct l yX3_appendBytes (.code yX3_appendBytes cX3_appendBytes 3 none :: m_ws) rm_X3_appendBytes (fun f => [.ref a0, .int p1]) Z S (none) SZ9 := by
  unfold f_X3_appendBytes at hf
  refine m_ent hl (by decide) (fun _ => Nat.le_of_ble_eq_true rfl) (fun x C F => ?_)
  have C : m_H x l RX3 cX3_appendBytes 3 rm_X3_appendBytes := C
  show m_G x Z S 3 0 0 0 [(0, .ref a0), (1, .int p1)] []
  refine r_bipush (q := 2) (v := (24 : Int32)) C dX3_appendBytes_0 (by decide) rfl ?_
  refine r_istore_n (q := 3) (L' := [(2, .int (24 : Int32)), (0, .ref a0), (1, .int p1)]) C dX3_appendBytes_2 rfl rfl (by decide) rfl ?_
  obtain ⟨j2, ej2, hf⟩ := m_jp_of hf
  have J2 : ∀ (S1 : m_S), j2 S1 = some (rZ9, SZ9) → m_G x Z S1 3 0 0 48 [] [] := by
    intro S1 hf
    rw [ej2] at hf
    obtain ⟨rfl, rfl⟩ := m_so2 hf
    exact r_vret C F dX3_appendBytes_48
  have LL8 : ∀ (fu7 : Nat) (v3 : Int32) (S4 : m_S), m_fx (F_X3_appendBytes_3 Z a0 p1 j2) fu7 (v3, S4) = some (rZ9, SZ9) → m_G x Z S4 3 0 0 3 [(0, .ref a0), (1, .int p1), (2, .int v3)] [] := by
    intro fu7
    induction fu7 with
    | zero => intros; rename_i hf; cases hf
    | succ fu7 ih6 =>
      intro v3 S4 hf
      replace hf : F_X3_appendBytes_3 Z a0 p1 j2 (m_fx (F_X3_appendBytes_3 Z a0 p1 j2) fu7) (v3, S4) = some (rZ9, SZ9) := hf
      unfold F_X3_appendBytes_3 at hf
      dsimp only at hf
      refine r_iload_n (q := 4) C 2 dX3_appendBytes_3 rfl rfl ?_
      refine r_if_lt (t := 48) (q := 7) C dX3_appendBytes_4 (by decide) rfl (fun c9 => ?_) (fun c9 => ?_)
      · replace hf := m_if1 hf c9
        refine r_sub [] rfl ?_
        exact J2 S4 hf
      · replace hf := m_if0 hf c9
        refine r_aload_n (q := 8) C 0 dX3_appendBytes_7 rfl rfl ?_
        obtain ⟨g10, hf⟩ := m_gd_of hf
        refine gf_X3_15 (q := 11) C dX3_appendBytes_8 g10 rfl ?_
        refine r_aload_n (q := 12) C 0 dX3_appendBytes_11 rfl rfl ?_
        obtain ⟨b11, e12, hf⟩ := m_b1_of hf
        refine gf_X3_9 (q := 15) C dX3_appendBytes_12 g10 e12 rfl ?_
        obtain ⟨g13, hf⟩ := m_gd_of hf
        refine r_alen (q := 16) 10 0 C dX3_appendBytes_15 g13 (by decide) rfl rfl ?_
        refine r_icmp_ge (t := 48) (q := 19) C dX3_appendBytes_16 (by decide) rfl (fun c14 => ?_) (fun c14 => ?_)
        · replace hf := m_if1 hf c14
          refine r_sub [] rfl ?_
          exact J2 S4 hf
        · replace hf := m_if0 hf c14
          refine r_aload_n (q := 20) C 0 dX3_appendBytes_19 rfl rfl ?_
          refine gf_X3_9 (q := 23) C dX3_appendBytes_20 g10 e12 rfl ?_
          refine r_aload_n (q := 24) C 0 dX3_appendBytes_23 rfl rfl ?_
          refine gf_X3_15 (q := 27) C dX3_appendBytes_24 g10 rfl ?_
          refine r_iload_n (q := 28) C 1 dX3_appendBytes_27 rfl rfl ?_
          refine r_iload_n (q := 29) C 2 dX3_appendBytes_28 rfl rfl ?_
          refine r_iushr (q := 30) C dX3_appendBytes_29 rfl ?_
          refine r_i2b (q := 31) C dX3_appendBytes_30 rfl ?_
          obtain ⟨g15, hf⟩ := m_gd_of hf
          obtain ⟨S16, e17, hf⟩ := m_lt_of hf
          refine r_bast (q := 32) C dX3_appendBytes_31 ⟨g13, g15⟩ rfl ?_
          rw [← e17]
          refine r_aload_n (q := 33) C 0 dX3_appendBytes_32 rfl rfl ?_
          refine r_dup (q := 34) C dX3_appendBytes_33 rfl rfl ?_
          refine gf_X3_15 (q := 37) C dX3_appendBytes_34 g10 rfl ?_
          refine r_iconst (q := 38) (v := (1 : Int32)) C dX3_appendBytes_37 (by decide) rfl ?_
          refine r_iadd (q := 39) C dX3_appendBytes_38 rfl ?_
          obtain ⟨S18, e19, hf⟩ := m_lt_of hf
          refine pf_X3_15 (q := 42) C dX3_appendBytes_39 g10 e19 rfl ?_
          obtain ⟨v20, e21, hf⟩ := m_lt_of hf
          refine r_iinc (q := 45) (v := v20) (L' := [(2, .int v20), (0, .ref a0), (1, .int p1)]) C 2 dX3_appendBytes_42 rfl (by rw [e21]; rfl) rfl (by decide) rfl ?_
          refine r_goto (t := 3) C dX3_appendBytes_45 (by decide) ?_
          refine r_sub [1, 2, 0] rfl ?_
          exact ih6 v20 S18 hf
  refine r_sub [1, 2, 0] rfl ?_
  exact LL8 100000 (24 : Int32) S hf
def F_X3_at_31 (Z : m_Z) (S : m_S) (a0 : Nat) (p1 : Nat) (j5 : (Unit → Option (Int32))) (j6 : (Unit → Option (Int32))) (lp8 : Int32 → Option (Int32)) (v7 : Int32) : Option (Int32) := (if (S.1 a0 6) ≤ v7 then j5 () else m_b1 (S.2.2 a0 0) (fun b13 => m_gd (m_ok Z b13 10) (m_gd (m_in v7 (Z.2.2 b13)) (m_lt (v7 - (S.1 a0 5)) (fun v17 => m_gd (p1 < 8 ∧ m_in v17 (m_len.getD p1 0)) ((if (S.1 b13 v7.toNatClampNeg) = ((m_byt.getD p1 []).getD v17.toNatClampNeg 0) then m_lt (v7 + (1 : Int32)) (fun v21 => lp8 v21) else j6 ())))))))
def f_X3_at (Z : m_Z) (S : m_S) (a0 : Nat) (p1 : Nat) : Option (Int32) := m_gd (m_ok Z a0 3) ((if ¬ (S.1 a0 4) = (1 : Int32) then some (0 : Int32) else m_gd (p1 < 8) ((if ((S.1 a0 6) - (S.1 a0 5)) = (Int32.ofNat (m_len.getD p1 0)) then m_jp (fun (_ : Unit) => some (1 : Int32)) (fun j5 => m_jp (fun (_ : Unit) => some (0 : Int32)) (fun j6 => m_fx (F_X3_at_31 Z S a0 p1 j5 j6) 100000 (S.1 a0 5))) else some (0 : Int32)))))
abbrev rm_X3_at : Room := { frames := 4, cells := 0, slots := 0, locals := 120 }
theorem hd_X3_at : yX3_at.cls = RX3 ∧ yX3_at.cls ≠ "java/lang/invoke/MethodHandle" ∧ yX3_at.cls ≠ "java/lang/invoke/VarHandle" ∧ (parseMethodDescriptor yX3_at.desc).map (fun d => d.parameters.length) = some 1 := by decide +kernel
set_option maxHeartbeats 4000000 in
set_option maxRecDepth 100000 in
theorem c_X3_at {l : Launch} (hl : l.stackTraces = false) {Z : m_Z} {S : m_S} {a0 : Nat} {p1 : Nat} {rZ9 : Int32} (hf : f_X3_at Z S a0 p1 = some rZ9) : m_Ct l yX3_at (.code yX3_at cX3_at 3 (some .boolean) :: m_ws) rm_X3_at (fun f => [.ref a0, .ref (f p1)]) Z S (some (.int rZ9)) S := by
  unfold f_X3_at at hf
  refine m_ent hl (by decide) (fun _ => Nat.le_of_ble_eq_true rfl) (fun x C F => ?_)
  have C : m_H x l RX3 cX3_at 3 rm_X3_at := C
  show m_G x Z S 3 0 0 0 [(0, .ref a0), (1, .ref (m_K x p1))] []
  refine r_aload_n (q := 1) C 0 dX3_at_0 rfl rfl ?_
  obtain ⟨g1, hf⟩ := m_gd_of hf
  refine gf_X3_25 (q := 4) C dX3_at_1 g1 rfl ?_
  refine r_iconst (q := 5) (v := (1 : Int32)) C dX3_at_4 (by decide) rfl ?_
  refine r_icmp_ne (t := 24) (q := 8) C dX3_at_5 (by decide) rfl (fun c2 => ?_) (fun c2 => ?_)
  · replace hf := m_if1 hf c2
    refine r_iconst (q := 25) (v := (0 : Int32)) C dX3_at_24 (by decide) rfl ?_
    obtain rfl := m_so1 hf
    exact r_zret C F (by decide) dX3_at_25
  · replace hf := m_if0 hf (fun z => z c2)
    refine r_aload_n (q := 9) C 0 dX3_at_8 rfl rfl ?_
    refine gf_X3_31 (q := 12) C dX3_at_9 g1 rfl ?_
    refine r_aload_n (q := 13) C 0 dX3_at_12 rfl rfl ?_
    refine gf_X3_28 (q := 16) C dX3_at_13 g1 rfl ?_
    refine r_isub (q := 17) C dX3_at_16 rfl ?_
    refine r_aload_n (q := 18) C 1 dX3_at_17 rfl rfl ?_
    obtain ⟨g3, hf⟩ := m_gd_of hf
    refine r_slen (st0 := []) (q := 21) hl C w_335 g3 ⟨(Nat.le_of_ble_eq_true rfl), (Nat.le_of_ble_eq_true rfl)⟩ (Nat.le_of_ble_eq_true rfl) ⟨(Nat.le_of_ble_eq_true rfl), (Nat.le_of_ble_eq_true rfl)⟩ dX3_at_18 rfl ?_
    refine r_icmp_eq (t := 26) (q := 24) C dX3_at_21 (by decide) rfl (fun c4 => ?_) (fun c4 => ?_)
    · replace hf := m_if1 hf c4
      refine r_aload_n (q := 27) C 0 dX3_at_26 rfl rfl ?_
      refine gf_X3_28 (q := 30) C dX3_at_27 g1 rfl ?_
      refine r_istore_n (q := 31) (L' := [(2, .int (S.1 a0 5)), (0, .ref a0), (1, .ref (m_K x p1))]) C dX3_at_30 rfl rfl (by decide) rfl ?_
      obtain ⟨j5, ej5, hf⟩ := m_jp_of hf
      have J5 : ∀ (_ : Unit), j5 () = some rZ9 → m_G x Z S 3 0 0 66 [] [] := by
        intro _ hf
        rw [ej5] at hf
        refine r_iconst (q := 67) (v := (1 : Int32)) C dX3_at_66 (by decide) rfl ?_
        obtain rfl := m_so1 hf
        exact r_zret C F (by decide) dX3_at_67
      obtain ⟨j6, ej6, hf⟩ := m_jp_of hf
      have J6 : ∀ (_ : Unit), j6 () = some rZ9 → m_G x Z S 3 0 0 58 [] [] := by
        intro _ hf
        rw [ej6] at hf
        refine r_iconst (q := 59) (v := (0 : Int32)) C dX3_at_58 (by decide) rfl ?_
        obtain rfl := m_so1 hf
        exact r_zret C F (by decide) dX3_at_59
      have LL11 : ∀ (fu10 : Nat) (v7 : Int32), m_fx (F_X3_at_31 Z S a0 p1 j5 j6) fu10 v7 = some rZ9 → m_G x Z S 3 0 0 31 [(0, .ref a0), (1, .ref (m_K x p1)), (2, .int v7)] [] := by
        intro fu10
        induction fu10 with
        | zero => intros; rename_i hf; cases hf
        | succ fu10 ih9 =>
          intro v7 hf
          replace hf : F_X3_at_31 Z S a0 p1 j5 j6 (m_fx (F_X3_at_31 Z S a0 p1 j5 j6) fu10) v7 = some rZ9 := hf
          unfold F_X3_at_31 at hf
          refine r_iload_n (q := 32) C 2 dX3_at_31 rfl rfl ?_
          refine r_aload_n (q := 33) C 0 dX3_at_32 rfl rfl ?_
          refine gf_X3_31 (q := 36) C dX3_at_33 g1 rfl ?_
          refine r_icmp_ge (t := 66) (q := 39) C dX3_at_36 (by decide) rfl (fun c12 => ?_) (fun c12 => ?_)
          · replace hf := m_if1 hf c12
            refine r_sub [] rfl ?_
            exact J5 ()  hf
          · replace hf := m_if0 hf c12
            refine r_aload_n (q := 40) C 0 dX3_at_39 rfl rfl ?_
            obtain ⟨b13, e14, hf⟩ := m_b1_of hf
            refine gf_X3_9 (q := 43) C dX3_at_40 g1 e14 rfl ?_
            refine r_iload_n (q := 44) C 2 dX3_at_43 rfl rfl ?_
            obtain ⟨g15, hf⟩ := m_gd_of hf
            obtain ⟨g16, hf⟩ := m_gd_of hf
            refine r_bald (q := 45) C dX3_at_44 ⟨g15, g16⟩ rfl ?_
            refine r_aload_n (q := 46) C 1 dX3_at_45 rfl rfl ?_
            refine r_iload_n (q := 47) C 2 dX3_at_46 rfl rfl ?_
            refine r_aload_n (q := 48) C 0 dX3_at_47 rfl rfl ?_
            refine gf_X3_28 (q := 51) C dX3_at_48 g1 rfl ?_
            refine r_isub (q := 52) C dX3_at_51 rfl ?_
            obtain ⟨v17, e18, hf⟩ := m_lt_of hf
            refine r_nm e18 ?_
            obtain ⟨g19, hf⟩ := m_gd_of hf
            refine r_schar (q := 55) hl C w_344 g19 ⟨(Nat.le_of_ble_eq_true rfl), (Nat.le_of_ble_eq_true rfl)⟩ (Nat.le_of_ble_eq_true rfl) ⟨(Nat.le_of_ble_eq_true rfl), (Nat.le_of_ble_eq_true rfl)⟩ dX3_at_52 rfl ?_
            refine r_icmp_eq (t := 60) (q := 58) C dX3_at_55 (by decide) rfl (fun c20 => ?_) (fun c20 => ?_)
            · replace hf := m_if1 hf c20
              obtain ⟨v21, e22, hf⟩ := m_lt_of hf
              refine r_iinc (q := 63) (v := v21) (L' := [(2, .int v21), (0, .ref a0), (1, .ref (m_K x p1))]) C 2 dX3_at_60 rfl (by rw [e22]; rfl) rfl (by decide) rfl ?_
              refine r_goto (t := 31) C dX3_at_63 (by decide) ?_
              refine r_sub [1, 2, 0] rfl ?_
              exact ih9 v21 hf
            · replace hf := m_if0 hf c20
              refine r_sub [] rfl ?_
              exact J6 ()  hf
      refine r_sub [1, 2, 0] rfl ?_
      exact LL11 100000 (S.1 a0 5) hf
    · replace hf := m_if0 hf c4
      refine r_iconst (q := 25) (v := (0 : Int32)) C dX3_at_24 (by decide) rfl ?_
      obtain rfl := m_so1 hf
      exact r_zret C F (by decide) dX3_at_25
def f_X3_fail (Z : m_Z) (S : m_S) (a0 : Nat) (p1 : Int32) : Option ((Except String Unit) × m_S) := m_gd (m_ok Z a0 3) (m_lt (m_pI S a0 2 p1) (fun S2 => m_lt (m_pI S2 a0 3 (S2.1 a0 5)) (fun S4 => m_lt (m_pI S4 a0 1 (0 : Int32)) (fun S6 => some (.error "java/lang/IllegalArgumentException", S6)))))
abbrev rm_X3_fail : Room := { frames := 6, cells := 1, slots := 6, locals := 82 }
theorem hd_X3_fail : yX3_fail.cls = RX3 ∧ yX3_fail.cls ≠ "java/lang/invoke/MethodHandle" ∧ yX3_fail.cls ≠ "java/lang/invoke/VarHandle" ∧ (parseMethodDescriptor yX3_fail.desc).map (fun d => d.parameters.length) = some 1 := by decide +kernel
set_option maxHeartbeats 4000000 in
set_option maxRecDepth 100000 in
theorem c_X3_fail {l : Launch} (hl : l.stackTraces = false) {Z : m_Z} {S : m_S} {a0 : Nat} {p1 : Int32} {rZ9 : Except String Unit} {SZ9 : m_S} (hf : f_X3_fail Z S a0 p1 = some (rZ9, SZ9)) : m_Cx l yX3_fail (.code yX3_fail cX3_fail 2 none :: m_ws) rm_X3_fail 1 6 (fun f => [.ref a0, .int p1]) Z S (m_rv (fun _ => none) rZ9) SZ9 := by
  unfold f_X3_fail at hf
  refine m_entX hl (by decide) (fun _ => Nat.le_of_ble_eq_true rfl) (fun x C F => ?_)
  have C : m_H x l RX3 cX3_fail 2 rm_X3_fail := C
  show m_G x Z S 2 0 0 0 [(0, .ref a0), (1, .int p1)] []
  refine r_aload_n (q := 1) C 0 dX3_fail_0 rfl rfl ?_
  refine r_iload_n (q := 2) C 1 dX3_fail_1 rfl rfl ?_
  obtain ⟨g1, hf⟩ := m_gd_of hf
  obtain ⟨S2, e3, hf⟩ := m_lt_of hf
  refine pf_X3_19 (q := 5) C dX3_fail_2 g1 e3 rfl ?_
  refine r_aload_n (q := 6) C 0 dX3_fail_5 rfl rfl ?_
  refine r_aload_n (q := 7) C 0 dX3_fail_6 rfl rfl ?_
  refine gf_X3_28 (q := 10) C dX3_fail_7 g1 rfl ?_
  obtain ⟨S4, e5, hf⟩ := m_lt_of hf
  refine pf_X3_22 (q := 13) C dX3_fail_10 g1 e5 rfl ?_
  refine r_aload_n (q := 14) C 0 dX3_fail_13 rfl rfl ?_
  refine r_iconst (q := 15) (v := (0 : Int32)) C dX3_fail_14 (by decide) rfl ?_
  obtain ⟨S6, e7, hf⟩ := m_lt_of hf
  refine pf_X3_15 (q := 18) C dX3_fail_15 g1 e7 rfl ?_
  obtain ⟨rfl, rfl⟩ := m_so2 hf
  exact x_thrR (text := "the text has an error") (ti := 10) C F w_381 w_21 (by decide +kernel) dX3_fail_18 dX3_fail_21 dX3_fail_22 dX3_fail_24 dX3_fail_27 (Nat.le_of_ble_eq_true rfl) (Nat.le_of_ble_eq_true rfl) (Nat.le_of_ble_eq_true rfl) (Nat.le_of_ble_eq_true rfl) (Nat.le_of_ble_eq_true rfl) (Nat.le_of_ble_eq_true rfl)
def F_X3_indexOf_3 (Z : m_Z) (S : m_S) (p0 : Nat) (p1 : Int32) (p2 : Int64) (j1 : (Unit → Option (Int32))) (j3 : (Int32 → Option (Int32))) (lp5 : Int32 → Option (Int32)) (v4 : Int32) : Option (Int32) := (if p1 ≤ v4 then j1 () else m_gd (m_ok Z p0 12) ((if (Int32.ofNat (Z.2.2 p0)) ≤ v4 then j1 () else m_gd (m_in v4 (Z.2.2 p0)) ((if ¬ (lg_cmp (S.2.1 p0 v4.toNatClampNeg) p2) = 0 then m_lt (v4 + (1 : Int32)) (fun v14 => lp5 v14) else j3 v4)))))
def f_X3_indexOf (Z : m_Z) (S : m_S) (p0 : Nat) (p1 : Int32) (p2 : Int64) : Option (Int32) := m_jp (fun (_ : Unit) => some (-1 : Int32)) (fun j1 => m_jp (fun (v2 : Int32) => some v2) (fun j3 => m_fx (F_X3_indexOf_3 Z S p0 p1 p2 j1 j3) 100000 (0 : Int32)))
abbrev rm_X3_indexOf : Room := { frames := 0, cells := 0, slots := 0, locals := 0 }
theorem hd_X3_indexOf : yX3_indexOf.cls ≠ "java/lang/invoke/MethodHandle" ∧ yX3_indexOf.cls ≠ "java/lang/invoke/VarHandle" ∧ (parseMethodDescriptor yX3_indexOf.desc).map (fun d => d.parameters.length) = some 3 := by decide +kernel
set_option maxHeartbeats 4000000 in
set_option maxRecDepth 100000 in
theorem c_X3_indexOf {l : Launch} (hl : l.stackTraces = false) {Z : m_Z} {S : m_S} {p0 : Nat} {p1 : Int32} {p2 : Int64} {rZ9 : Int32} (hf : f_X3_indexOf Z S p0 p1 p2 = some rZ9) : m_Ct l yX3_indexOf (.code yX3_indexOf cX3_indexOf 5 (some .int) :: m_ws) rm_X3_indexOf (fun f => [.ref p0, .int p1, .long p2]) Z S (some (.int rZ9)) S := by
  unfold f_X3_indexOf at hf
  refine m_ent hl (by decide) (fun _ => Nat.le_of_ble_eq_true rfl) (fun x C F => ?_)
  have C : m_H x l RX3 cX3_indexOf 5 rm_X3_indexOf := C
  show m_G x Z S 5 0 0 0 [(0, .ref p0), (1, .int p1), (2, .long p2)] []
  refine r_iconst (q := 1) (v := (0 : Int32)) C dX3_indexOf_0 (by decide) rfl ?_
  refine r_istore (q := 3) (L' := [(4, .int (0 : Int32)), (0, .ref p0), (1, .int p1), (2, .long p2)]) C dX3_indexOf_1 rfl (by decide) rfl ?_
  obtain ⟨j1, ej1, hf⟩ := m_jp_of hf
  have J1 : ∀ (_ : Unit), j1 () = some rZ9 → m_G x Z S 5 0 0 34 [] [] := by
    intro _ hf
    rw [ej1] at hf
    refine r_iconst (q := 35) (v := (-1 : Int32)) C dX3_indexOf_34 (by decide) rfl ?_
    obtain rfl := m_so1 hf
    exact r_iret C F dX3_indexOf_35
  obtain ⟨j3, ej3, hf⟩ := m_jp_of hf
  have J3 : ∀ (v2 : Int32), j3 v2 = some rZ9 → m_G x Z S 5 0 0 25 [(4, .int v2)] [] := by
    intro v2 hf
    rw [ej3] at hf
    refine r_iload (q := 27) C 0 dX3_indexOf_25 rfl rfl ?_
    obtain rfl := m_so1 hf
    exact r_iret C F dX3_indexOf_27
  have LL8 : ∀ (fu7 : Nat) (v4 : Int32), m_fx (F_X3_indexOf_3 Z S p0 p1 p2 j1 j3) fu7 v4 = some rZ9 → m_G x Z S 5 0 0 3 [(0, .ref p0), (1, .int p1), (2, .long p2), (4, .int v4)] [] := by
    intro fu7
    induction fu7 with
    | zero => intros; rename_i hf; cases hf
    | succ fu7 ih6 =>
      intro v4 hf
      replace hf : F_X3_indexOf_3 Z S p0 p1 p2 j1 j3 (m_fx (F_X3_indexOf_3 Z S p0 p1 p2 j1 j3) fu7) v4 = some rZ9 := hf
      unfold F_X3_indexOf_3 at hf
      refine r_iload (q := 5) C 3 dX3_indexOf_3 rfl rfl ?_
      refine r_iload_n (q := 6) C 1 dX3_indexOf_5 rfl rfl ?_
      refine r_icmp_ge (t := 34) (q := 9) C dX3_indexOf_6 (by decide) rfl (fun c9 => ?_) (fun c9 => ?_)
      · replace hf := m_if1 hf c9
        refine r_sub [] rfl ?_
        exact J1 ()  hf
      · replace hf := m_if0 hf c9
        refine r_iload (q := 11) C 3 dX3_indexOf_9 rfl rfl ?_
        refine r_aload_n (q := 12) C 0 dX3_indexOf_11 rfl rfl ?_
        obtain ⟨g10, hf⟩ := m_gd_of hf
        refine r_alen (q := 13) 12 2 C dX3_indexOf_12 g10 (by decide) rfl rfl ?_
        refine r_icmp_ge (t := 34) (q := 16) C dX3_indexOf_13 (by decide) rfl (fun c11 => ?_) (fun c11 => ?_)
        · replace hf := m_if1 hf c11
          refine r_sub [] rfl ?_
          exact J1 ()  hf
        · replace hf := m_if0 hf c11
          refine r_aload_n (q := 17) C 0 dX3_indexOf_16 rfl rfl ?_
          refine r_iload (q := 19) C 3 dX3_indexOf_17 rfl rfl ?_
          obtain ⟨g12, hf⟩ := m_gd_of hf
          refine r_lald (q := 20) C dX3_indexOf_19 ⟨g10, g12⟩ rfl ?_
          refine r_lload_n (q := 21) C 2 dX3_indexOf_20 rfl rfl ?_
          refine r_lcmp (q := 22) C dX3_indexOf_21 rfl ?_
          refine r_if_ne (t := 28) (q := 25) C dX3_indexOf_22 (by decide) rfl (fun c13 => ?_) (fun c13 => ?_)
          · replace hf := m_if1 hf c13
            obtain ⟨v14, e15, hf⟩ := m_lt_of hf
            refine r_iinc (q := 31) (v := v14) (L' := [(4, .int v14), (0, .ref p0), (1, .int p1), (2, .long p2)]) C 3 dX3_indexOf_28 rfl (by rw [e15]; rfl) rfl (by decide) rfl ?_
            refine r_goto (t := 3) C dX3_indexOf_31 (by decide) ?_
            refine r_sub [1, 2, 3, 0] rfl ?_
            exact ih6 v14 hf
          · replace hf := m_if0 hf (fun z => z c13)
            refine r_sub [3] rfl ?_
            exact J3 v4 hf
  refine r_sub [1, 2, 3, 0] rfl ?_
  exact LL8 100000 (0 : Int32) hf
def f_X3_isBlank (Z : m_Z) (S : m_S) (p0 : Int32) : Option (Int32) := (if p0 = (10 : Int32) then some (1 : Int32) else (if ¬ p0 = (32 : Int32) then some (0 : Int32) else some (1 : Int32)))
abbrev rm_X3_isBlank : Room := { frames := 0, cells := 0, slots := 0, locals := 0 }
theorem hd_X3_isBlank : yX3_isBlank.cls ≠ "java/lang/invoke/MethodHandle" ∧ yX3_isBlank.cls ≠ "java/lang/invoke/VarHandle" ∧ (parseMethodDescriptor yX3_isBlank.desc).map (fun d => d.parameters.length) = some 1 := by decide +kernel
set_option maxHeartbeats 4000000 in
set_option maxRecDepth 100000 in
theorem c_X3_isBlank {l : Launch} (hl : l.stackTraces = false) {Z : m_Z} {S : m_S} {p0 : Int32} {rZ9 : Int32} (hf : f_X3_isBlank Z S p0 = some rZ9) : m_Ct l yX3_isBlank (.code yX3_isBlank cX3_isBlank 1 (some .boolean) :: m_ws) rm_X3_isBlank (fun f => [.int p0]) Z S (some (.int rZ9)) S := by
  unfold f_X3_isBlank at hf
  refine m_ent hl (by decide) (fun _ => Nat.le_of_ble_eq_true rfl) (fun x C F => ?_)
  have C : m_H x l RX3 cX3_isBlank 1 rm_X3_isBlank := C
  show m_G x Z S 1 0 0 0 [(0, .int p0)] []
  refine r_iload_n (q := 1) C 0 dX3_isBlank_0 rfl rfl ?_
  refine r_bipush (q := 3) (v := (10 : Int32)) C dX3_isBlank_1 (by decide) rfl ?_
  refine r_icmp_eq (t := 12) (q := 6) C dX3_isBlank_3 (by decide) rfl (fun c1 => ?_) (fun c1 => ?_)
  · replace hf := m_if1 hf c1
    refine r_iconst (q := 13) (v := (1 : Int32)) C dX3_isBlank_12 (by decide) rfl ?_
    refine r_goto (t := 17) C dX3_isBlank_13 (by decide) ?_
    obtain rfl := m_so1 hf
    exact r_zret C F (by decide) dX3_isBlank_17
  · replace hf := m_if0 hf c1
    refine r_iload_n (q := 7) C 0 dX3_isBlank_6 rfl rfl ?_
    refine r_bipush (q := 9) (v := (32 : Int32)) C dX3_isBlank_7 (by decide) rfl ?_
    refine r_icmp_ne (t := 16) (q := 12) C dX3_isBlank_9 (by decide) rfl (fun c2 => ?_) (fun c2 => ?_)
    · replace hf := m_if1 hf c2
      refine r_iconst (q := 17) (v := (0 : Int32)) C dX3_isBlank_16 (by decide) rfl ?_
      obtain rfl := m_so1 hf
      exact r_zret C F (by decide) dX3_isBlank_17
    · replace hf := m_if0 hf (fun z => z c2)
      refine r_iconst (q := 13) (v := (1 : Int32)) C dX3_isBlank_12 (by decide) rfl ?_
      refine r_goto (t := 17) C dX3_isBlank_13 (by decide) ?_
      obtain rfl := m_so1 hf
      exact r_zret C F (by decide) dX3_isBlank_17
def F_X3_nameHere_34 (Z : m_Z) (a0 : Nat) (S3 : m_S) (j5 : (Int64 → Option ((Except String Int64) × m_S))) (lp8 : (Int64 × Int32) → Option ((Except String Int64) × m_S)) (p21 : (Int64 × Int32)) : Option ((Except String Int64) × m_S) := match p21 with
  | (w6, v7) => (if (S3.1 a0 6) ≤ v7 then j5 w6 else m_b1 (S3.2.2 a0 0) (fun b13 => m_gd (m_ok Z b13 10) (m_gd (m_in v7 (Z.2.2 b13)) (m_lt ((w6 * (32 : Int64)) + (((S3.1 b13 v7.toNatClampNeg) - (97 : Int32)) + (1 : Int32)).toInt64) (fun w17 => m_lt (v7 + (1 : Int32)) (fun v19 => lp8 (w17, v19)))))))
def f_X3_nameHere (Z : m_Z) (S : m_S) (a0 : Nat) : Option ((Except String Int64) × m_S) := m_gd (m_ok Z a0 3) (m_jp (fun (S3 : m_S) => m_jp (fun (w4 : Int64) => some ((.ok w4), S3)) (fun j5 => m_fx (F_X3_nameHere_34 Z a0 S3 j5) 100000 ((0 : Int64), (S3.1 a0 5)))) (fun j2 => m_jp (fun (_ : Unit) => m_bx (f_X3_fail Z S a0 (1 : Int32)) (fun _u S24 => j2 S24)) (fun j22 => (if ¬ (S.1 a0 4) = (1 : Int32) then j22 () else (if ((S.1 a0 6) - (S.1 a0 5)) ≤ (8 : Int32) then j2 S else j22 ())))))
abbrev rm_X3_nameHere : Room := { frames := 7, cells := 1, slots := 6, locals := 103 }
theorem hd_X3_nameHere : yX3_nameHere.cls = RX3 ∧ yX3_nameHere.cls ≠ "java/lang/invoke/MethodHandle" ∧ yX3_nameHere.cls ≠ "java/lang/invoke/VarHandle" ∧ (parseMethodDescriptor yX3_nameHere.desc).map (fun d => d.parameters.length) = some 0 := by decide +kernel
set_option maxHeartbeats 4000000 in
set_option maxRecDepth 100000 in
theorem c_X3_nameHere {l : Launch} (hl : l.stackTraces = false) {Z : m_Z} {S : m_S} {a0 : Nat} {rZ9 : Except String Int64} {SZ9 : m_S} (hf : f_X3_nameHere Z S a0 = some (rZ9, SZ9)) : m_Cx l yX3_nameHere (.code yX3_nameHere cX3_nameHere 4 (some .long) :: m_ws) rm_X3_nameHere 1 6 (fun f => [.ref a0]) Z S (m_rv (fun r => some (.long r)) rZ9) SZ9 := by
  unfold f_X3_nameHere at hf
  refine m_entX hl (by decide) (fun _ => Nat.le_of_ble_eq_true rfl) (fun x C F => ?_)
  have C : m_H x l RX3 cX3_nameHere 4 rm_X3_nameHere := C
  show m_G x Z S 4 0 0 0 [(0, .ref a0)] []
  refine r_aload_n (q := 1) C 0 dX3_nameHere_0 rfl rfl ?_
  obtain ⟨g1, hf⟩ := m_gd_of hf
  refine gf_X3_25 (q := 4) C dX3_nameHere_1 g1 rfl ?_
  refine r_iconst (q := 5) (v := (1 : Int32)) C dX3_nameHere_4 (by decide) rfl ?_
  obtain ⟨j2, ej2, hf⟩ := m_jp_of hf
  have J2 : ∀ (S3 : m_S), j2 S3 = some (rZ9, SZ9) → m_G x Z S3 4 1 6 27 [(0, .ref a0)] [] := by
    intro S3 hf
    rw [ej2] at hf
    refine r_lconst (q := 28) (v := (0 : Int64)) C dX3_nameHere_27 (by decide) rfl ?_
    refine r_lstore_n (q := 29) (L' := [(1, .long (0 : Int64)), (0, .ref a0)]) C dX3_nameHere_28 rfl rfl (by decide) rfl ?_
    refine r_aload_n (q := 30) C 1 dX3_nameHere_29 rfl rfl ?_
    refine gf_X3_28 (q := 33) C dX3_nameHere_30 g1 rfl ?_
    refine r_istore_n (q := 34) (L' := [(3, .int (S3.1 a0 5)), (1, .long (0 : Int64)), (0, .ref a0)]) C dX3_nameHere_33 rfl rfl (by decide) rfl ?_
    obtain ⟨j5, ej5, hf⟩ := m_jp_of hf
    have J5 : ∀ (w4 : Int64), j5 w4 = some (rZ9, SZ9) → m_G x Z S3 4 1 6 67 [(1, .long w4)] [] := by
      intro w4 hf
      rw [ej5] at hf
      refine r_lload_n (q := 68) C 0 dX3_nameHere_67 rfl rfl ?_
      obtain ⟨rfl, rfl⟩ := m_so2 hf
      exact x_lret C F (Nat.le_of_ble_eq_true rfl) (Nat.le_of_ble_eq_true rfl) dX3_nameHere_68
    have LL11 : ∀ (fu10 : Nat) (w6 : Int64) (v7 : Int32), m_fx (F_X3_nameHere_34 Z a0 S3 j5) fu10 (w6, v7) = some (rZ9, SZ9) → m_G x Z S3 4 1 6 34 [(0, .ref a0), (1, .long w6), (3, .int v7)] [] := by
      intro fu10
      induction fu10 with
      | zero => intros; rename_i hf; cases hf
      | succ fu10 ih9 =>
        intro w6 v7 hf
        replace hf : F_X3_nameHere_34 Z a0 S3 j5 (m_fx (F_X3_nameHere_34 Z a0 S3 j5) fu10) (w6, v7) = some (rZ9, SZ9) := hf
        unfold F_X3_nameHere_34 at hf
        dsimp only at hf
        refine r_iload_n (q := 35) C 2 dX3_nameHere_34 rfl rfl ?_
        refine r_aload_n (q := 36) C 0 dX3_nameHere_35 rfl rfl ?_
        refine gf_X3_31 (q := 39) C dX3_nameHere_36 g1 rfl ?_
        refine r_icmp_ge (t := 67) (q := 42) C dX3_nameHere_39 (by decide) rfl (fun c12 => ?_) (fun c12 => ?_)
        · replace hf := m_if1 hf c12
          refine r_sub [1] rfl ?_
          exact J5 w6 hf
        · replace hf := m_if0 hf c12
          refine r_lload_n (q := 43) C 1 dX3_nameHere_42 rfl rfl ?_
          refine r_ldc2 (q := 46) C dX3_nameHere_43 w_430 rfl ?_
          refine r_lmul (q := 47) C dX3_nameHere_46 rfl ?_
          refine r_aload_n (q := 48) C 0 dX3_nameHere_47 rfl rfl ?_
          obtain ⟨b13, e14, hf⟩ := m_b1_of hf
          refine gf_X3_9 (q := 51) C dX3_nameHere_48 g1 e14 rfl ?_
          refine r_iload_n (q := 52) C 2 dX3_nameHere_51 rfl rfl ?_
          obtain ⟨g15, hf⟩ := m_gd_of hf
          obtain ⟨g16, hf⟩ := m_gd_of hf
          refine r_bald (q := 53) C dX3_nameHere_52 ⟨g15, g16⟩ rfl ?_
          refine r_bipush (q := 55) (v := (97 : Int32)) C dX3_nameHere_53 (by decide) rfl ?_
          refine r_isub (q := 56) C dX3_nameHere_55 rfl ?_
          refine r_iconst (q := 57) (v := (1 : Int32)) C dX3_nameHere_56 (by decide) rfl ?_
          refine r_iadd (q := 58) C dX3_nameHere_57 rfl ?_
          refine r_i2l (q := 59) C dX3_nameHere_58 rfl ?_
          refine r_ladd (q := 60) C dX3_nameHere_59 rfl ?_
          obtain ⟨w17, e18, hf⟩ := m_lt_of hf
          refine r_nmJ e18 ?_
          refine r_lstore_n (q := 61) (L' := [(1, .long w17), (0, .ref a0), (3, .int v7)]) C dX3_nameHere_60 rfl rfl (by decide) rfl ?_
          obtain ⟨v19, e20, hf⟩ := m_lt_of hf
          refine r_iinc (q := 64) (v := v19) (L' := [(3, .int v19), (1, .long w17), (0, .ref a0)]) C 2 dX3_nameHere_61 rfl (by rw [e20]; rfl) rfl (by decide) rfl ?_
          refine r_goto (t := 34) C dX3_nameHere_64 (by decide) ?_
          refine r_sub [2, 1, 0] rfl ?_
          exact ih9 w17 v19 hf
    refine r_sub [2, 1, 0] rfl ?_
    exact LL11 100000 (0 : Int64) (S3.1 a0 5) hf
  obtain ⟨j22, ej22, hf⟩ := m_jp_of hf
  have J22 : ∀ (_ : Unit), j22 () = some (rZ9, SZ9) → m_G x Z S 4 0 0 22 [(0, .ref a0)] [] := by
    intro _ hf
    rw [ej22] at hf
    refine r_aload_n (q := 23) C 0 dX3_nameHere_22 rfl rfl ?_
    refine r_iconst (q := 24) (v := (1 : Int32)) C dX3_nameHere_23 (by decide) rfl ?_
    rcases m_bx_of hf with ⟨_u, S24, h23, hf⟩ | ⟨x25, S24, h23, hf⟩
    · refine x_okV (q := 27) (mcQ := 1) (msQ := 6) (retQ := (some .long)) (st1 := []) C (c_X3_fail hl h23) rfl w_378 w_379 w_1301 w_3 w_380 hd_X3_fail rfl (by decide) g1 rfl rfl rfl ⟨(Nat.le_of_ble_eq_true rfl), (Nat.le_of_ble_eq_true rfl)⟩ (Nat.le_of_ble_eq_true rfl) ⟨(Nat.le_of_ble_eq_true rfl), (Nat.le_of_ble_eq_true rfl)⟩ dX3_nameHere_24 rfl (Nat.le_of_ble_eq_true rfl) (Nat.le_of_ble_eq_true rfl) rfl ?_
      exact J2 S24 hf
    · obtain ⟨rfl, rfl⟩ := Prod.mk.inj hf
      exact x_erV C (c_X3_fail hl h23) F rfl w_378 w_379 w_1301 w_3 w_380 hd_X3_fail rfl (by decide) g1 rfl rfl rfl ⟨(Nat.le_of_ble_eq_true rfl), (Nat.le_of_ble_eq_true rfl)⟩ (Nat.le_of_ble_eq_true rfl) ⟨(Nat.le_of_ble_eq_true rfl), (Nat.le_of_ble_eq_true rfl)⟩ dX3_nameHere_24 rfl (Nat.le_of_ble_eq_true rfl) (Nat.le_of_ble_eq_true rfl)
  refine r_icmp_ne (t := 22) (q := 8) C dX3_nameHere_5 (by decide) rfl (fun c26 => ?_) (fun c26 => ?_)
  · replace hf := m_if1 hf c26
    exact J22 ()  hf
  · replace hf := m_if0 hf (fun z => z c26)
    refine r_aload_n (q := 9) C 0 dX3_nameHere_8 rfl rfl ?_
    refine gf_X3_31 (q := 12) C dX3_nameHere_9 g1 rfl ?_
    refine r_aload_n (q := 13) C 0 dX3_nameHere_12 rfl rfl ?_
    refine gf_X3_28 (q := 16) C dX3_nameHere_13 g1 rfl ?_
    refine r_isub (q := 17) C dX3_nameHere_16 rfl ?_
    refine r_bipush (q := 19) (v := (8 : Int32)) C dX3_nameHere_17 (by decide) rfl ?_
    refine r_icmp_le (t := 27) (q := 22) C dX3_nameHere_19 (by decide) rfl (fun c27 => ?_) (fun c27 => ?_)
    · replace hf := m_if1 hf c27
      refine r_wid (k' := 1) (n' := 6) (by omega) (by omega) ?_
      exact J2 S hf
    · replace hf := m_if0 hf c27
      exact J22 ()  hf
def f_X3_knownName (Z : m_Z) (S : m_S) (a0 : Nat) (p1 : Nat) (p2 : Int32) : Option ((Except String Int32) × m_S) := m_gd (m_ok Z a0 3) (m_bx (f_X3_nameHere Z S a0) (fun w4 S3 => m_b1 (f_X3_indexOf Z S3 p1 p2 w4) (fun v7 => (if ¬ v7 = (-1 : Int32) then some ((.ok v7), S3) else m_bx (f_X3_fail Z S3 a0 (3 : Int32)) (fun _u S10 => some ((.ok v7), S10))))))
abbrev rm_X3_knownName : Room := { frames := 8, cells := 2, slots := 12, locals := 126 }
theorem hd_X3_knownName : yX3_knownName.cls = RX3 ∧ yX3_knownName.cls ≠ "java/lang/invoke/MethodHandle" ∧ yX3_knownName.cls ≠ "java/lang/invoke/VarHandle" ∧ (parseMethodDescriptor yX3_knownName.desc).map (fun d => d.parameters.length) = some 2 := by decide +kernel
set_option maxHeartbeats 4000000 in
set_option maxRecDepth 100000 in
theorem c_X3_knownName {l : Launch} (hl : l.stackTraces = false) {Z : m_Z} {S : m_S} {a0 : Nat} {p1 : Nat} {p2 : Int32} {rZ9 : Except String Int32} {SZ9 : m_S} (hf : f_X3_knownName Z S a0 p1 p2 = some (rZ9, SZ9)) : m_Cx l yX3_knownName (.code yX3_knownName cX3_knownName 4 (some .int) :: m_ws) rm_X3_knownName 2 12 (fun f => [.ref a0, .ref p1, .int p2]) Z S (m_rv (fun r => some (.int r)) rZ9) SZ9 := by
  unfold f_X3_knownName at hf
  refine m_entX hl (by decide) (fun _ => Nat.le_of_ble_eq_true rfl) (fun x C F => ?_)
  have C : m_H x l RX3 cX3_knownName 4 rm_X3_knownName := C
  show m_G x Z S 4 0 0 0 [(0, .ref a0), (1, .ref p1), (2, .int p2)] []
  refine r_aload_n (q := 1) C 1 dX3_knownName_0 rfl rfl ?_
  refine r_iload_n (q := 2) C 2 dX3_knownName_1 rfl rfl ?_
  refine r_aload_n (q := 3) C 0 dX3_knownName_2 rfl rfl ?_
  obtain ⟨g1, hf⟩ := m_gd_of hf
  rcases m_bx_of hf with ⟨w4, S3, h2, hf⟩ | ⟨x5, S3, h2, hf⟩
  · refine x_okV (q := 6) (mcQ := 2) (msQ := 12) (retQ := (some .int)) (st1 := [.long w4, .int p2, .ref p1]) C (c_X3_nameHere hl h2) rfl w_427 w_428 w_1309 w_3 w_429 hd_X3_nameHere rfl (by decide) g1 rfl rfl rfl ⟨(Nat.le_of_ble_eq_true rfl), (Nat.le_of_ble_eq_true rfl)⟩ (Nat.le_of_ble_eq_true rfl) ⟨(Nat.le_of_ble_eq_true rfl), (Nat.le_of_ble_eq_true rfl)⟩ dX3_knownName_3 rfl (Nat.le_of_ble_eq_true rfl) (Nat.le_of_ble_eq_true rfl) rfl ?_
    obtain ⟨v7, h6, hf⟩ := m_b1_of hf
    refine r_callS (mc := 0) (ms := 0) (q := 9) (st1 := [.int v7]) C (c_X3_indexOf hl h6) rfl w_431 w_432 w_3 w_433 hd_X3_indexOf rfl rfl rfl ⟨(Nat.le_of_ble_eq_true rfl), (Nat.le_of_ble_eq_true rfl)⟩ (Nat.le_of_ble_eq_true rfl) ⟨(Nat.le_of_ble_eq_true rfl), (Nat.le_of_ble_eq_true rfl)⟩ dX3_knownName_6 rfl rfl ?_
    refine r_istore_n (q := 10) (L' := [(3, .int v7), (0, .ref a0), (1, .ref p1), (2, .int p2)]) C dX3_knownName_9 rfl rfl (by decide) rfl ?_
    refine r_iload_n (q := 11) C 0 dX3_knownName_10 rfl rfl ?_
    refine r_iconst (q := 12) (v := (-1 : Int32)) C dX3_knownName_11 (by decide) rfl ?_
    refine r_icmp_ne (t := 20) (q := 15) C dX3_knownName_12 (by decide) rfl (fun c8 => ?_) (fun c8 => ?_)
    · replace hf := m_if1 hf c8
      refine r_iload_n (q := 21) C 0 dX3_knownName_20 rfl rfl ?_
      obtain ⟨rfl, rfl⟩ := m_so2 hf
      exact x_iret C F (Nat.le_of_ble_eq_true rfl) (Nat.le_of_ble_eq_true rfl) dX3_knownName_21
    · replace hf := m_if0 hf (fun z => z c8)
      refine r_aload_n (q := 16) C 1 dX3_knownName_15 rfl rfl ?_
      refine r_iconst (q := 17) (v := (3 : Int32)) C dX3_knownName_16 (by decide) rfl ?_
      rcases m_bx_of hf with ⟨_u, S10, h9, hf⟩ | ⟨x11, S10, h9, hf⟩
      · refine x_okV (q := 20) (mcQ := 2) (msQ := 12) (retQ := (some .int)) (st1 := []) C (c_X3_fail hl h9) rfl w_378 w_379 w_1301 w_3 w_380 hd_X3_fail rfl (by decide) g1 rfl rfl rfl ⟨(Nat.le_of_ble_eq_true rfl), (Nat.le_of_ble_eq_true rfl)⟩ (Nat.le_of_ble_eq_true rfl) ⟨(Nat.le_of_ble_eq_true rfl), (Nat.le_of_ble_eq_true rfl)⟩ dX3_knownName_17 rfl (Nat.le_of_ble_eq_true rfl) (Nat.le_of_ble_eq_true rfl) rfl ?_
        refine r_iload_n (q := 21) C 0 dX3_knownName_20 rfl rfl ?_
        obtain ⟨rfl, rfl⟩ := m_so2 hf
        exact x_iret C F (Nat.le_of_ble_eq_true rfl) (Nat.le_of_ble_eq_true rfl) dX3_knownName_21
      · obtain ⟨rfl, rfl⟩ := Prod.mk.inj hf
        exact x_erV C (c_X3_fail hl h9) F rfl w_378 w_379 w_1301 w_3 w_380 hd_X3_fail rfl (by decide) g1 rfl rfl rfl ⟨(Nat.le_of_ble_eq_true rfl), (Nat.le_of_ble_eq_true rfl)⟩ (Nat.le_of_ble_eq_true rfl) ⟨(Nat.le_of_ble_eq_true rfl), (Nat.le_of_ble_eq_true rfl)⟩ dX3_knownName_17 rfl (Nat.le_of_ble_eq_true rfl) (Nat.le_of_ble_eq_true rfl)
  · obtain ⟨rfl, rfl⟩ := Prod.mk.inj hf
    exact x_erV C (c_X3_nameHere hl h2) F rfl w_427 w_428 w_1309 w_3 w_429 hd_X3_nameHere rfl (by decide) g1 rfl rfl rfl ⟨(Nat.le_of_ble_eq_true rfl), (Nat.le_of_ble_eq_true rfl)⟩ (Nat.le_of_ble_eq_true rfl) ⟨(Nat.le_of_ble_eq_true rfl), (Nat.le_of_ble_eq_true rfl)⟩ dX3_knownName_3 rfl (Nat.le_of_ble_eq_true rfl) (Nat.le_of_ble_eq_true rfl)
def f_X3_tokenOf (Z : m_Z) (S : m_S) (p0 : Int32) : Option (Int32) := m_jp (fun (_ : Unit) => (if p0 < (48 : Int32) then (if ¬ p0 = (59 : Int32) then some (4 : Int32) else some (3 : Int32)) else (if (57 : Int32) < p0 then (if ¬ p0 = (59 : Int32) then some (4 : Int32) else some (3 : Int32)) else some (2 : Int32)))) (fun j1 => (if p0 < (97 : Int32) then j1 () else (if (122 : Int32) < p0 then j1 () else some (1 : Int32))))
abbrev rm_X3_tokenOf : Room := { frames := 0, cells := 0, slots := 0, locals := 0 }
theorem hd_X3_tokenOf : yX3_tokenOf.cls ≠ "java/lang/invoke/MethodHandle" ∧ yX3_tokenOf.cls ≠ "java/lang/invoke/VarHandle" ∧ (parseMethodDescriptor yX3_tokenOf.desc).map (fun d => d.parameters.length) = some 1 := by decide +kernel
set_option maxHeartbeats 4000000 in
set_option maxRecDepth 100000 in
theorem c_X3_tokenOf {l : Launch} (hl : l.stackTraces = false) {Z : m_Z} {S : m_S} {p0 : Int32} {rZ9 : Int32} (hf : f_X3_tokenOf Z S p0 = some rZ9) : m_Ct l yX3_tokenOf (.code yX3_tokenOf cX3_tokenOf 1 (some .int) :: m_ws) rm_X3_tokenOf (fun f => [.int p0]) Z S (some (.int rZ9)) S := by
  unfold f_X3_tokenOf at hf
  refine m_ent hl (by decide) (fun _ => Nat.le_of_ble_eq_true rfl) (fun x C F => ?_)
  have C : m_H x l RX3 cX3_tokenOf 1 rm_X3_tokenOf := C
  show m_G x Z S 1 0 0 0 [(0, .int p0)] []
  refine r_iload_n (q := 1) C 0 dX3_tokenOf_0 rfl rfl ?_
  refine r_bipush (q := 3) (v := (97 : Int32)) C dX3_tokenOf_1 (by decide) rfl ?_
  obtain ⟨j1, ej1, hf⟩ := m_jp_of hf
  have J1 : ∀ (_ : Unit), j1 () = some rZ9 → m_G x Z S 1 0 0 14 [(0, .int p0)] [] := by
    intro _ hf
    rw [ej1] at hf
    refine r_iload_n (q := 15) C 0 dX3_tokenOf_14 rfl rfl ?_
    refine r_bipush (q := 17) (v := (48 : Int32)) C dX3_tokenOf_15 (by decide) rfl ?_
    refine r_icmp_lt (t := 28) (q := 20) C dX3_tokenOf_17 (by decide) rfl (fun c2 => ?_) (fun c2 => ?_)
    · replace hf := m_if1 hf c2
      refine r_iload_n (q := 29) C 0 dX3_tokenOf_28 rfl rfl ?_
      refine r_bipush (q := 31) (v := (59 : Int32)) C dX3_tokenOf_29 (by decide) rfl ?_
      refine r_icmp_ne (t := 38) (q := 34) C dX3_tokenOf_31 (by decide) rfl (fun c3 => ?_) (fun c3 => ?_)
      · replace hf := m_if1 hf c3
        refine r_iconst (q := 39) (v := (4 : Int32)) C dX3_tokenOf_38 (by decide) rfl ?_
        obtain rfl := m_so1 hf
        exact r_iret C F dX3_tokenOf_39
      · replace hf := m_if0 hf (fun z => z c3)
        refine r_iconst (q := 35) (v := (3 : Int32)) C dX3_tokenOf_34 (by decide) rfl ?_
        refine r_goto (t := 39) C dX3_tokenOf_35 (by decide) ?_
        obtain rfl := m_so1 hf
        exact r_iret C F dX3_tokenOf_39
    · replace hf := m_if0 hf c2
      refine r_iload_n (q := 21) C 0 dX3_tokenOf_20 rfl rfl ?_
      refine r_bipush (q := 23) (v := (57 : Int32)) C dX3_tokenOf_21 (by decide) rfl ?_
      refine r_icmp_gt (t := 28) (q := 26) C dX3_tokenOf_23 (by decide) rfl (fun c4 => ?_) (fun c4 => ?_)
      · replace hf := m_if1 hf c4
        refine r_iload_n (q := 29) C 0 dX3_tokenOf_28 rfl rfl ?_
        refine r_bipush (q := 31) (v := (59 : Int32)) C dX3_tokenOf_29 (by decide) rfl ?_
        refine r_icmp_ne (t := 38) (q := 34) C dX3_tokenOf_31 (by decide) rfl (fun c5 => ?_) (fun c5 => ?_)
        · replace hf := m_if1 hf c5
          refine r_iconst (q := 39) (v := (4 : Int32)) C dX3_tokenOf_38 (by decide) rfl ?_
          obtain rfl := m_so1 hf
          exact r_iret C F dX3_tokenOf_39
        · replace hf := m_if0 hf (fun z => z c5)
          refine r_iconst (q := 35) (v := (3 : Int32)) C dX3_tokenOf_34 (by decide) rfl ?_
          refine r_goto (t := 39) C dX3_tokenOf_35 (by decide) ?_
          obtain rfl := m_so1 hf
          exact r_iret C F dX3_tokenOf_39
      · replace hf := m_if0 hf c4
        refine r_iconst (q := 27) (v := (2 : Int32)) C dX3_tokenOf_26 (by decide) rfl ?_
        obtain rfl := m_so1 hf
        exact r_iret C F dX3_tokenOf_27
  refine r_icmp_lt (t := 14) (q := 6) C dX3_tokenOf_3 (by decide) rfl (fun c6 => ?_) (fun c6 => ?_)
  · replace hf := m_if1 hf c6
    exact J1 ()  hf
  · replace hf := m_if0 hf c6
    refine r_iload_n (q := 7) C 0 dX3_tokenOf_6 rfl rfl ?_
    refine r_bipush (q := 9) (v := (122 : Int32)) C dX3_tokenOf_7 (by decide) rfl ?_
    refine r_icmp_gt (t := 14) (q := 12) C dX3_tokenOf_9 (by decide) rfl (fun c7 => ?_) (fun c7 => ?_)
    · replace hf := m_if1 hf c7
      exact J1 ()  hf
    · replace hf := m_if0 hf c7
      refine r_iconst (q := 13) (v := (1 : Int32)) C dX3_tokenOf_12 (by decide) rfl ?_
      obtain rfl := m_so1 hf
      exact r_iret C F dX3_tokenOf_13
def F_X3_readValue_24 (Z : m_Z) (a0 : Nat) (j4 : (m_S → Option (Unit × m_S))) (lp7 : (Int32 × m_S) → Option (Unit × m_S)) (p20 : (Int32 × m_S)) : Option (Unit × m_S) := match p20 with
  | (v5, S6) => (if (S6.1 a0 6) ≤ v5 then j4 S6 else m_b1 (S6.2.2 a0 0) (fun b12 => m_gd (m_ok Z b12 10) (m_gd (m_in v5 (Z.2.2 b12)) (m_lt (m_pI S6 a0 7 (((S6.1 a0 7) * (10 : Int32)) + ((S6.1 b12 v5.toNatClampNeg) - (48 : Int32)))) (fun S16 => m_lt (v5 + (1 : Int32)) (fun v18 => lp7 (v18, S16)))))))
def f_X3_readValue (Z : m_Z) (S : m_S) (a0 : Nat) : Option (Unit × m_S) := m_gd (m_ok Z a0 3) ((if ((S.1 a0 6) - (S.1 a0 5)) ≤ (4 : Int32) then m_jp (fun (S3 : m_S) => some ((), S3)) (fun j4 => m_fx (F_X3_readValue_24 Z a0 j4) 100000 ((S.1 a0 5), S)) else m_lt (m_pI S a0 4 (4 : Int32)) (fun S21 => some ((), S21))))
abbrev rm_X3_readValue : Room := { frames := 0, cells := 0, slots := 0, locals := 0 }
theorem hd_X3_readValue : yX3_readValue.cls = RX3 ∧ yX3_readValue.cls ≠ "java/lang/invoke/MethodHandle" ∧ yX3_readValue.cls ≠ "java/lang/invoke/VarHandle" ∧ (parseMethodDescriptor yX3_readValue.desc).map (fun d => d.parameters.length) = some 0 := by decide +kernel
set_option maxHeartbeats 4000000 in
set_option maxRecDepth 100000 in
theorem c_X3_readValue {l : Launch} (hl : l.stackTraces = false) {Z : m_Z} {S : m_S} {a0 : Nat} {rZ9 : Unit} {SZ9 : m_S} (hf : f_X3_readValue Z S a0 = some (rZ9, SZ9)) : m_Ct l yX3_readValue (.code yX3_readValue cX3_readValue 2 none :: m_ws) rm_X3_readValue (fun f => [.ref a0]) Z S (none) SZ9 := by
  unfold f_X3_readValue at hf
  refine m_ent hl (by decide) (fun _ => Nat.le_of_ble_eq_true rfl) (fun x C F => ?_)
  have C : m_H x l RX3 cX3_readValue 2 rm_X3_readValue := C
  show m_G x Z S 2 0 0 0 [(0, .ref a0)] []
  refine r_aload_n (q := 1) C 0 dX3_readValue_0 rfl rfl ?_
  obtain ⟨g1, hf⟩ := m_gd_of hf
  refine gf_X3_31 (q := 4) C dX3_readValue_1 g1 rfl ?_
  refine r_aload_n (q := 5) C 0 dX3_readValue_4 rfl rfl ?_
  refine gf_X3_28 (q := 8) C dX3_readValue_5 g1 rfl ?_
  refine r_isub (q := 9) C dX3_readValue_8 rfl ?_
  refine r_iconst (q := 10) (v := (4 : Int32)) C dX3_readValue_9 (by decide) rfl ?_
  refine r_icmp_le (t := 19) (q := 13) C dX3_readValue_10 (by decide) rfl (fun c2 => ?_) (fun c2 => ?_)
  · replace hf := m_if1 hf c2
    refine r_aload_n (q := 20) C 0 dX3_readValue_19 rfl rfl ?_
    refine gf_X3_28 (q := 23) C dX3_readValue_20 g1 rfl ?_
    refine r_istore_n (q := 24) (L' := [(1, .int (S.1 a0 5)), (0, .ref a0)]) C dX3_readValue_23 rfl rfl (by decide) rfl ?_
    obtain ⟨j4, ej4, hf⟩ := m_jp_of hf
    have J4 : ∀ (S3 : m_S), j4 S3 = some (rZ9, SZ9) → m_G x Z S3 2 0 0 59 [] [] := by
      intro S3 hf
      rw [ej4] at hf
      obtain ⟨rfl, rfl⟩ := m_so2 hf
      exact r_vret C F dX3_readValue_59
    have LL10 : ∀ (fu9 : Nat) (v5 : Int32) (S6 : m_S), m_fx (F_X3_readValue_24 Z a0 j4) fu9 (v5, S6) = some (rZ9, SZ9) → m_G x Z S6 2 0 0 24 [(0, .ref a0), (1, .int v5)] [] := by
      intro fu9
      induction fu9 with
      | zero => intros; rename_i hf; cases hf
      | succ fu9 ih8 =>
        intro v5 S6 hf
        replace hf : F_X3_readValue_24 Z a0 j4 (m_fx (F_X3_readValue_24 Z a0 j4) fu9) (v5, S6) = some (rZ9, SZ9) := hf
        unfold F_X3_readValue_24 at hf
        dsimp only at hf
        refine r_iload_n (q := 25) C 1 dX3_readValue_24 rfl rfl ?_
        refine r_aload_n (q := 26) C 0 dX3_readValue_25 rfl rfl ?_
        refine gf_X3_31 (q := 29) C dX3_readValue_26 g1 rfl ?_
        refine r_icmp_ge (t := 59) (q := 32) C dX3_readValue_29 (by decide) rfl (fun c11 => ?_) (fun c11 => ?_)
        · replace hf := m_if1 hf c11
          refine r_sub [] rfl ?_
          exact J4 S6 hf
        · replace hf := m_if0 hf c11
          refine r_aload_n (q := 33) C 0 dX3_readValue_32 rfl rfl ?_
          refine r_aload_n (q := 34) C 0 dX3_readValue_33 rfl rfl ?_
          refine gf_X3_34 (q := 37) C dX3_readValue_34 g1 rfl ?_
          refine r_bipush (q := 39) (v := (10 : Int32)) C dX3_readValue_37 (by decide) rfl ?_
          refine r_imul (q := 40) C dX3_readValue_39 rfl ?_
          refine r_aload_n (q := 41) C 0 dX3_readValue_40 rfl rfl ?_
          obtain ⟨b12, e13, hf⟩ := m_b1_of hf
          refine gf_X3_9 (q := 44) C dX3_readValue_41 g1 e13 rfl ?_
          refine r_iload_n (q := 45) C 1 dX3_readValue_44 rfl rfl ?_
          obtain ⟨g14, hf⟩ := m_gd_of hf
          obtain ⟨g15, hf⟩ := m_gd_of hf
          refine r_bald (q := 46) C dX3_readValue_45 ⟨g14, g15⟩ rfl ?_
          refine r_bipush (q := 48) (v := (48 : Int32)) C dX3_readValue_46 (by decide) rfl ?_
          refine r_isub (q := 49) C dX3_readValue_48 rfl ?_
          refine r_iadd (q := 50) C dX3_readValue_49 rfl ?_
          obtain ⟨S16, e17, hf⟩ := m_lt_of hf
          refine pf_X3_34 (q := 53) C dX3_readValue_50 g1 e17 rfl ?_
          obtain ⟨v18, e19, hf⟩ := m_lt_of hf
          refine r_iinc (q := 56) (v := v18) (L' := [(1, .int v18), (0, .ref a0)]) C 1 dX3_readValue_53 rfl (by rw [e19]; rfl) rfl (by decide) rfl ?_
          refine r_goto (t := 24) C dX3_readValue_56 (by decide) ?_
          refine r_sub [1, 0] rfl ?_
          exact ih8 v18 S16 hf
    refine r_sub [1, 0] rfl ?_
    exact LL10 100000 (S.1 a0 5) S hf
  · replace hf := m_if0 hf c2
    refine r_aload_n (q := 14) C 0 dX3_readValue_13 rfl rfl ?_
    refine r_iconst (q := 15) (v := (4 : Int32)) C dX3_readValue_14 (by decide) rfl ?_
    obtain ⟨S21, e22, hf⟩ := m_lt_of hf
    refine pf_X3_25 (q := 18) C dX3_readValue_15 g1 e22 rfl ?_
    obtain ⟨rfl, rfl⟩ := m_so2 hf
    exact r_vret C F dX3_readValue_18
def F_X3_readToken_111 (Z : m_Z) (a0 : Nat) (j23 : (m_S → Option (Unit × m_S))) (lp25 : m_S → Option (Unit × m_S)) (S24 : m_S) : Option (Unit × m_S) := (if (S24.1 a0 1) ≤ (S24.1 a0 6) then j23 S24 else m_b1 (S24.2.2 a0 0) (fun b30 => m_gd (m_ok Z b30 10) (m_gd (m_in (S24.1 a0 6) (Z.2.2 b30)) (m_b1 (f_X3_tokenOf Z S24 (S24.1 b30 (S24.1 a0 6).toNatClampNeg)) (fun v35 => (if ¬ v35 = (S24.1 a0 4) then j23 S24 else m_lt (m_pI S24 a0 6 ((S24.1 a0 6) + (1 : Int32))) (fun S37 => lp25 S37)))))))
def F_X3_readToken_0 (Z : m_Z) (a0 : Nat) (j47 : (m_S → Option (Unit × m_S))) (lp49 : m_S → Option (Unit × m_S)) (S48 : m_S) : Option (Unit × m_S) := m_gd (m_ok Z a0 3) ((if (S48.1 a0 1) ≤ (S48.1 a0 6) then j47 S48 else m_b1 (S48.2.2 a0 0) (fun b55 => m_gd (m_ok Z b55 10) (m_gd (m_in (S48.1 a0 6) (Z.2.2 b55)) (m_b1 (f_X3_isBlank Z S48 (S48.1 b55 (S48.1 a0 6).toNatClampNeg)) (fun v60 => (if v60 = 0 then j47 S48 else m_lt (m_pI S48 a0 6 ((S48.1 a0 6) + (1 : Int32))) (fun S62 => lp49 S62))))))))
def f_X3_readToken (Z : m_Z) (S : m_S) (a0 : Nat) : Option (Unit × m_S) := m_jp (fun (S1 : m_S) => m_gd (m_ok Z a0 3) (m_lt (m_pI S1 a0 5 (S1.1 a0 6)) (fun S3 => m_lt (m_pI S3 a0 7 (0 : Int32)) (fun S5 => (if (S5.1 a0 5) < (S5.1 a0 1) then m_b1 (S5.2.2 a0 0) (fun b8 => m_gd (m_ok Z b8 10) (m_gd (m_in (S5.1 a0 5) (Z.2.2 b8)) (m_b1 (f_X3_tokenOf Z S5 (S5.1 b8 (S5.1 a0 5).toNatClampNeg)) (fun v13 => m_lt (m_pI S5 a0 4 v13) (fun S14 => m_lt (m_pI S14 a0 6 ((S14.1 a0 5) + (1 : Int32))) (fun S16 => m_jp (fun (_ : Unit) => m_jp (fun (S19 : m_S) => (if ¬ (S19.1 a0 4) = (2 : Int32) then some ((), S19) else m_bw (f_X3_readValue Z S19 a0) (fun _u S22 => some ((), S22)))) (fun j23 => m_fx (F_X3_readToken_111 Z a0 j23) 100000 S16)) (fun j18 => (if (S16.1 a0 4) = (1 : Int32) then j18 () else (if ¬ (S16.1 a0 4) = (2 : Int32) then (if ¬ (S16.1 a0 4) = (2 : Int32) then some ((), S16) else m_bw (f_X3_readValue Z S16 a0) (fun _u S44 => some ((), S44))) else j18 ()))))))))) else m_lt (m_pI S5 a0 4 (0 : Int32)) (fun S45 => some ((), S45))))))) (fun j47 => m_fx (F_X3_readToken_0 Z a0 j47) 100000 S)
abbrev rm_X3_readToken : Room := { frames := 1, cells := 0, slots := 0, locals := 21 }
theorem hd_X3_readToken : yX3_readToken.cls = RX3 ∧ yX3_readToken.cls ≠ "java/lang/invoke/MethodHandle" ∧ yX3_readToken.cls ≠ "java/lang/invoke/VarHandle" ∧ (parseMethodDescriptor yX3_readToken.desc).map (fun d => d.parameters.length) = some 0 := by decide +kernel
set_option maxHeartbeats 4000000 in
set_option maxRecDepth 100000 in
theorem c_X3_readToken {l : Launch} (hl : l.stackTraces = false) {Z : m_Z} {S : m_S} {a0 : Nat} {rZ9 : Unit} {SZ9 : m_S} (hf : f_X3_readToken Z S a0 = some (rZ9, SZ9)) : m_Ct l yX3_readToken (.code yX3_readToken cX3_readToken 1 none :: m_ws) rm_X3_readToken (fun f => [.ref a0]) Z S (none) SZ9 := by
  unfold f_X3_readToken at hf
  refine m_ent hl (by decide) (fun _ => Nat.le_of_ble_eq_true rfl) (fun x C F => ?_)
  have C : m_H x l RX3 cX3_readToken 1 rm_X3_readToken := C
  show m_G x Z S 1 0 0 0 [(0, .ref a0)] []
  obtain ⟨j47, ej47, hf⟩ := m_jp_of hf
  have J47 : ∀ (S1 : m_S), j47 S1 = some (rZ9, SZ9) → m_G x Z S1 1 0 0 39 [(0, .ref a0)] [] := by
    intro S1 hf
    rw [ej47] at hf
    refine r_aload_n (q := 40) C 0 dX3_readToken_39 rfl rfl ?_
    refine r_aload_n (q := 41) C 0 dX3_readToken_40 rfl rfl ?_
    obtain ⟨g2, hf⟩ := m_gd_of hf
    refine gf_X3_31 (q := 44) C dX3_readToken_41 g2 rfl ?_
    obtain ⟨S3, e4, hf⟩ := m_lt_of hf
    refine pf_X3_28 (q := 47) C dX3_readToken_44 g2 e4 rfl ?_
    refine r_aload_n (q := 48) C 0 dX3_readToken_47 rfl rfl ?_
    refine r_iconst (q := 49) (v := (0 : Int32)) C dX3_readToken_48 (by decide) rfl ?_
    obtain ⟨S5, e6, hf⟩ := m_lt_of hf
    refine pf_X3_34 (q := 52) C dX3_readToken_49 g2 e6 rfl ?_
    refine r_aload_n (q := 53) C 0 dX3_readToken_52 rfl rfl ?_
    refine gf_X3_28 (q := 56) C dX3_readToken_53 g2 rfl ?_
    refine r_aload_n (q := 57) C 0 dX3_readToken_56 rfl rfl ?_
    refine gf_X3_15 (q := 60) C dX3_readToken_57 g2 rfl ?_
    refine r_icmp_lt (t := 69) (q := 63) C dX3_readToken_60 (by decide) rfl (fun c7 => ?_) (fun c7 => ?_)
    · replace hf := m_if1 hf c7
      refine r_aload_n (q := 70) C 0 dX3_readToken_69 rfl rfl ?_
      refine r_aload_n (q := 71) C 0 dX3_readToken_70 rfl rfl ?_
      obtain ⟨b8, e9, hf⟩ := m_b1_of hf
      refine gf_X3_9 (q := 74) C dX3_readToken_71 g2 e9 rfl ?_
      refine r_aload_n (q := 75) C 0 dX3_readToken_74 rfl rfl ?_
      refine gf_X3_28 (q := 78) C dX3_readToken_75 g2 rfl ?_
      obtain ⟨g10, hf⟩ := m_gd_of hf
      obtain ⟨g11, hf⟩ := m_gd_of hf
      refine r_bald (q := 79) C dX3_readToken_78 ⟨g10, g11⟩ rfl ?_
      obtain ⟨v13, h12, hf⟩ := m_b1_of hf
      refine r_callS (mc := 0) (ms := 0) (q := 82) (st1 := [.int v13, .ref a0]) C (c_X3_tokenOf hl h12) rfl w_320 w_321 w_3 w_322 hd_X3_tokenOf rfl rfl rfl ⟨(Nat.le_of_ble_eq_true rfl), (Nat.le_of_ble_eq_true rfl)⟩ (Nat.le_of_ble_eq_true rfl) ⟨(Nat.le_of_ble_eq_true rfl), (Nat.le_of_ble_eq_true rfl)⟩ dX3_readToken_79 rfl rfl ?_
      obtain ⟨S14, e15, hf⟩ := m_lt_of hf
      refine pf_X3_25 (q := 85) C dX3_readToken_82 g2 e15 rfl ?_
      refine r_aload_n (q := 86) C 0 dX3_readToken_85 rfl rfl ?_
      refine r_aload_n (q := 87) C 0 dX3_readToken_86 rfl rfl ?_
      refine gf_X3_28 (q := 90) C dX3_readToken_87 g2 rfl ?_
      refine r_iconst (q := 91) (v := (1 : Int32)) C dX3_readToken_90 (by decide) rfl ?_
      refine r_iadd (q := 92) C dX3_readToken_91 rfl ?_
      obtain ⟨S16, e17, hf⟩ := m_lt_of hf
      refine pf_X3_31 (q := 95) C dX3_readToken_92 g2 e17 rfl ?_
      refine r_aload_n (q := 96) C 0 dX3_readToken_95 rfl rfl ?_
      refine gf_X3_25 (q := 99) C dX3_readToken_96 g2 rfl ?_
      refine r_iconst (q := 100) (v := (1 : Int32)) C dX3_readToken_99 (by decide) rfl ?_
      obtain ⟨j18, ej18, hf⟩ := m_jp_of hf
      have J18 : ∀ (_ : Unit), j18 () = some (rZ9, SZ9) → m_G x Z S16 1 0 0 111 [(0, .ref a0)] [] := by
        intro _ hf
        rw [ej18] at hf
        obtain ⟨j23, ej23, hf⟩ := m_jp_of hf
        have J23 : ∀ (S19 : m_S), j23 S19 = some (rZ9, SZ9) → m_G x Z S19 1 0 0 154 [(0, .ref a0)] [] := by
          intro S19 hf
          rw [ej23] at hf
          refine r_aload_n (q := 155) C 0 dX3_readToken_154 rfl rfl ?_
          refine gf_X3_25 (q := 158) C dX3_readToken_155 g2 rfl ?_
          refine r_iconst (q := 159) (v := (2 : Int32)) C dX3_readToken_158 (by decide) rfl ?_
          refine r_icmp_ne (t := 166) (q := 162) C dX3_readToken_159 (by decide) rfl (fun c20 => ?_) (fun c20 => ?_)
          · replace hf := m_if1 hf c20
            obtain ⟨rfl, rfl⟩ := m_so2 hf
            exact r_vret C F dX3_readToken_166
          · replace hf := m_if0 hf (fun z => z c20)
            refine r_aload_n (q := 163) C 0 dX3_readToken_162 rfl rfl ?_
            obtain ⟨_u, S22, h21, hf⟩ := m_bw_of hf
            refine r_callV (mc := 0) (ms := 0) (q := 166) (st1 := []) C (c_X3_readValue hl h21) rfl w_323 w_324 w_1297 w_3 w_325 hd_X3_readValue rfl (by decide) g2 rfl rfl rfl ⟨(Nat.le_of_ble_eq_true rfl), (Nat.le_of_ble_eq_true rfl)⟩ (Nat.le_of_ble_eq_true rfl) ⟨(Nat.le_of_ble_eq_true rfl), (Nat.le_of_ble_eq_true rfl)⟩ dX3_readToken_163 rfl rfl ?_
            obtain ⟨rfl, rfl⟩ := m_so2 hf
            exact r_vret C F dX3_readToken_166
        have LL28 : ∀ (fu27 : Nat) (S24 : m_S), m_fx (F_X3_readToken_111 Z a0 j23) fu27 S24 = some (rZ9, SZ9) → m_G x Z S24 1 0 0 111 [(0, .ref a0)] [] := by
          intro fu27
          induction fu27 with
          | zero => intros; rename_i hf; cases hf
          | succ fu27 ih26 =>
            intro S24 hf
            replace hf : F_X3_readToken_111 Z a0 j23 (m_fx (F_X3_readToken_111 Z a0 j23) fu27) S24 = some (rZ9, SZ9) := hf
            unfold F_X3_readToken_111 at hf
            refine r_aload_n (q := 112) C 0 dX3_readToken_111 rfl rfl ?_
            refine gf_X3_31 (q := 115) C dX3_readToken_112 g2 rfl ?_
            refine r_aload_n (q := 116) C 0 dX3_readToken_115 rfl rfl ?_
            refine gf_X3_15 (q := 119) C dX3_readToken_116 g2 rfl ?_
            refine r_icmp_ge (t := 154) (q := 122) C dX3_readToken_119 (by decide) rfl (fun c29 => ?_) (fun c29 => ?_)
            · replace hf := m_if1 hf c29
              exact J23 S24 hf
            · replace hf := m_if0 hf c29
              refine r_aload_n (q := 123) C 0 dX3_readToken_122 rfl rfl ?_
              obtain ⟨b30, e31, hf⟩ := m_b1_of hf
              refine gf_X3_9 (q := 126) C dX3_readToken_123 g2 e31 rfl ?_
              refine r_aload_n (q := 127) C 0 dX3_readToken_126 rfl rfl ?_
              refine gf_X3_31 (q := 130) C dX3_readToken_127 g2 rfl ?_
              obtain ⟨g32, hf⟩ := m_gd_of hf
              obtain ⟨g33, hf⟩ := m_gd_of hf
              refine r_bald (q := 131) C dX3_readToken_130 ⟨g32, g33⟩ rfl ?_
              obtain ⟨v35, h34, hf⟩ := m_b1_of hf
              refine r_callS (mc := 0) (ms := 0) (q := 134) (st1 := [.int v35]) C (c_X3_tokenOf hl h34) rfl w_320 w_321 w_3 w_322 hd_X3_tokenOf rfl rfl rfl ⟨(Nat.le_of_ble_eq_true rfl), (Nat.le_of_ble_eq_true rfl)⟩ (Nat.le_of_ble_eq_true rfl) ⟨(Nat.le_of_ble_eq_true rfl), (Nat.le_of_ble_eq_true rfl)⟩ dX3_readToken_131 rfl rfl ?_
              refine r_aload_n (q := 135) C 0 dX3_readToken_134 rfl rfl ?_
              refine gf_X3_25 (q := 138) C dX3_readToken_135 g2 rfl ?_
              refine r_icmp_ne (t := 154) (q := 141) C dX3_readToken_138 (by decide) rfl (fun c36 => ?_) (fun c36 => ?_)
              · replace hf := m_if1 hf c36
                exact J23 S24 hf
              · replace hf := m_if0 hf (fun z => z c36)
                refine r_aload_n (q := 142) C 0 dX3_readToken_141 rfl rfl ?_
                refine r_dup (q := 143) C dX3_readToken_142 rfl rfl ?_
                refine gf_X3_31 (q := 146) C dX3_readToken_143 g2 rfl ?_
                refine r_iconst (q := 147) (v := (1 : Int32)) C dX3_readToken_146 (by decide) rfl ?_
                refine r_iadd (q := 148) C dX3_readToken_147 rfl ?_
                obtain ⟨S37, e38, hf⟩ := m_lt_of hf
                refine pf_X3_31 (q := 151) C dX3_readToken_148 g2 e38 rfl ?_
                refine r_goto (t := 111) C dX3_readToken_151 (by decide) ?_
                exact ih26 S37 hf
        exact LL28 100000 S16 hf
      refine r_icmp_eq (t := 111) (q := 103) C dX3_readToken_100 (by decide) rfl (fun c40 => ?_) (fun c40 => ?_)
      · replace hf := m_if1 hf c40
        exact J18 ()  hf
      · replace hf := m_if0 hf c40
        refine r_aload_n (q := 104) C 0 dX3_readToken_103 rfl rfl ?_
        refine gf_X3_25 (q := 107) C dX3_readToken_104 g2 rfl ?_
        refine r_iconst (q := 108) (v := (2 : Int32)) C dX3_readToken_107 (by decide) rfl ?_
        refine r_icmp_ne (t := 154) (q := 111) C dX3_readToken_108 (by decide) rfl (fun c41 => ?_) (fun c41 => ?_)
        · replace hf := m_if1 hf c41
          refine r_aload_n (q := 155) C 0 dX3_readToken_154 rfl rfl ?_
          refine gf_X3_25 (q := 158) C dX3_readToken_155 g2 rfl ?_
          refine r_iconst (q := 159) (v := (2 : Int32)) C dX3_readToken_158 (by decide) rfl ?_
          refine r_icmp_ne (t := 166) (q := 162) C dX3_readToken_159 (by decide) rfl (fun c42 => ?_) (fun c42 => ?_)
          · replace hf := m_if1 hf c42
            obtain ⟨rfl, rfl⟩ := m_so2 hf
            exact r_vret C F dX3_readToken_166
          · replace hf := m_if0 hf (fun z => z c42)
            refine r_aload_n (q := 163) C 0 dX3_readToken_162 rfl rfl ?_
            obtain ⟨_u, S44, h43, hf⟩ := m_bw_of hf
            refine r_callV (mc := 0) (ms := 0) (q := 166) (st1 := []) C (c_X3_readValue hl h43) rfl w_323 w_324 w_1297 w_3 w_325 hd_X3_readValue rfl (by decide) g2 rfl rfl rfl ⟨(Nat.le_of_ble_eq_true rfl), (Nat.le_of_ble_eq_true rfl)⟩ (Nat.le_of_ble_eq_true rfl) ⟨(Nat.le_of_ble_eq_true rfl), (Nat.le_of_ble_eq_true rfl)⟩ dX3_readToken_163 rfl rfl ?_
            obtain ⟨rfl, rfl⟩ := m_so2 hf
            exact r_vret C F dX3_readToken_166
        · replace hf := m_if0 hf (fun z => z c41)
          exact J18 ()  hf
    · replace hf := m_if0 hf c7
      refine r_aload_n (q := 64) C 0 dX3_readToken_63 rfl rfl ?_
      refine r_iconst (q := 65) (v := (0 : Int32)) C dX3_readToken_64 (by decide) rfl ?_
      obtain ⟨S45, e46, hf⟩ := m_lt_of hf
      refine pf_X3_25 (q := 68) C dX3_readToken_65 g2 e46 rfl ?_
      obtain ⟨rfl, rfl⟩ := m_so2 hf
      exact r_vret C F dX3_readToken_68
  have LL52 : ∀ (fu51 : Nat) (S48 : m_S), m_fx (F_X3_readToken_0 Z a0 j47) fu51 S48 = some (rZ9, SZ9) → m_G x Z S48 1 0 0 0 [(0, .ref a0)] [] := by
    intro fu51
    induction fu51 with
    | zero => intros; rename_i hf; cases hf
    | succ fu51 ih50 =>
      intro S48 hf
      replace hf : F_X3_readToken_0 Z a0 j47 (m_fx (F_X3_readToken_0 Z a0 j47) fu51) S48 = some (rZ9, SZ9) := hf
      unfold F_X3_readToken_0 at hf
      refine r_aload_n (q := 1) C 0 dX3_readToken_0 rfl rfl ?_
      obtain ⟨g53, hf⟩ := m_gd_of hf
      refine gf_X3_31 (q := 4) C dX3_readToken_1 g53 rfl ?_
      refine r_aload_n (q := 5) C 0 dX3_readToken_4 rfl rfl ?_
      refine gf_X3_15 (q := 8) C dX3_readToken_5 g53 rfl ?_
      refine r_icmp_ge (t := 39) (q := 11) C dX3_readToken_8 (by decide) rfl (fun c54 => ?_) (fun c54 => ?_)
      · replace hf := m_if1 hf c54
        exact J47 S48 hf
      · replace hf := m_if0 hf c54
        refine r_aload_n (q := 12) C 0 dX3_readToken_11 rfl rfl ?_
        obtain ⟨b55, e56, hf⟩ := m_b1_of hf
        refine gf_X3_9 (q := 15) C dX3_readToken_12 g53 e56 rfl ?_
        refine r_aload_n (q := 16) C 0 dX3_readToken_15 rfl rfl ?_
        refine gf_X3_31 (q := 19) C dX3_readToken_16 g53 rfl ?_
        obtain ⟨g57, hf⟩ := m_gd_of hf
        obtain ⟨g58, hf⟩ := m_gd_of hf
        refine r_bald (q := 20) C dX3_readToken_19 ⟨g57, g58⟩ rfl ?_
        obtain ⟨v60, h59, hf⟩ := m_b1_of hf
        refine r_callS (mc := 0) (ms := 0) (q := 23) (st1 := [.int v60]) C (c_X3_isBlank hl h59) rfl w_317 w_318 w_3 w_319 hd_X3_isBlank rfl rfl rfl ⟨(Nat.le_of_ble_eq_true rfl), (Nat.le_of_ble_eq_true rfl)⟩ (Nat.le_of_ble_eq_true rfl) ⟨(Nat.le_of_ble_eq_true rfl), (Nat.le_of_ble_eq_true rfl)⟩ dX3_readToken_20 rfl rfl ?_
        refine r_if_eq (t := 39) (q := 26) C dX3_readToken_23 (by decide) rfl (fun c61 => ?_) (fun c61 => ?_)
        · replace hf := m_if1 hf c61
          exact J47 S48 hf
        · replace hf := m_if0 hf c61
          refine r_aload_n (q := 27) C 0 dX3_readToken_26 rfl rfl ?_
          refine r_dup (q := 28) C dX3_readToken_27 rfl rfl ?_
          refine gf_X3_31 (q := 31) C dX3_readToken_28 g53 rfl ?_
          refine r_iconst (q := 32) (v := (1 : Int32)) C dX3_readToken_31 (by decide) rfl ?_
          refine r_iadd (q := 33) C dX3_readToken_32 rfl ?_
          obtain ⟨S62, e63, hf⟩ := m_lt_of hf
          refine pf_X3_31 (q := 36) C dX3_readToken_33 g53 e63 rfl ?_
          refine r_goto (t := 0) C dX3_readToken_36 (by decide) ?_
          exact ih50 S62 hf
  exact LL52 100000 S hf
def f_X3_takeNewName (Z : m_Z) (S : m_S) (a0 : Nat) (p1 : Nat) (p2 : Int32) : Option ((Except String Int64) × m_S) := m_gd (m_ok Z a0 3) (m_bx (f_X3_nameHere Z S a0) (fun w4 S3 => m_b1 (f_X3_indexOf Z S3 p1 p2 w4) (fun v7 => (if v7 = (-1 : Int32) then m_bw (f_X3_readToken Z S3 a0) (fun _u S10 => some ((.ok w4), S10)) else m_bx (f_X3_fail Z S3 a0 (3 : Int32)) (fun _u S12 => m_bw (f_X3_readToken Z S12 a0) (fun _u S15 => some ((.ok w4), S15)))))))
abbrev rm_X3_takeNewName : Room := { frames := 8, cells := 2, slots := 12, locals := 126 }
theorem hd_X3_takeNewName : yX3_takeNewName.cls = RX3 ∧ yX3_takeNewName.cls ≠ "java/lang/invoke/MethodHandle" ∧ yX3_takeNewName.cls ≠ "java/lang/invoke/VarHandle" ∧ (parseMethodDescriptor yX3_takeNewName.desc).map (fun d => d.parameters.length) = some 2 := by decide +kernel
set_option maxHeartbeats 4000000 in
set_option maxRecDepth 100000 in
theorem c_X3_takeNewName {l : Launch} (hl : l.stackTraces = false) {Z : m_Z} {S : m_S} {a0 : Nat} {p1 : Nat} {p2 : Int32} {rZ9 : Except String Int64} {SZ9 : m_S} (hf : f_X3_takeNewName Z S a0 p1 p2 = some (rZ9, SZ9)) : m_Cx l yX3_takeNewName (.code yX3_takeNewName cX3_takeNewName 5 (some .long) :: m_ws) rm_X3_takeNewName 2 12 (fun f => [.ref a0, .ref p1, .int p2]) Z S (m_rv (fun r => some (.long r)) rZ9) SZ9 := by
  unfold f_X3_takeNewName at hf
  refine m_entX hl (by decide) (fun _ => Nat.le_of_ble_eq_true rfl) (fun x C F => ?_)
  have C : m_H x l RX3 cX3_takeNewName 5 rm_X3_takeNewName := C
  show m_G x Z S 5 0 0 0 [(0, .ref a0), (1, .ref p1), (2, .int p2)] []
  refine r_aload_n (q := 1) C 0 dX3_takeNewName_0 rfl rfl ?_
  obtain ⟨g1, hf⟩ := m_gd_of hf
  rcases m_bx_of hf with ⟨w4, S3, h2, hf⟩ | ⟨x5, S3, h2, hf⟩
  · refine x_okV (q := 4) (mcQ := 2) (msQ := 12) (retQ := (some .long)) (st1 := [.long w4]) C (c_X3_nameHere hl h2) rfl w_427 w_428 w_1309 w_3 w_429 hd_X3_nameHere rfl (by decide) g1 rfl rfl rfl ⟨(Nat.le_of_ble_eq_true rfl), (Nat.le_of_ble_eq_true rfl)⟩ (Nat.le_of_ble_eq_true rfl) ⟨(Nat.le_of_ble_eq_true rfl), (Nat.le_of_ble_eq_true rfl)⟩ dX3_takeNewName_1 rfl (Nat.le_of_ble_eq_true rfl) (Nat.le_of_ble_eq_true rfl) rfl ?_
    refine r_lstore_n (q := 5) (L' := [(3, .long w4), (0, .ref a0), (1, .ref p1), (2, .int p2)]) C dX3_takeNewName_4 rfl rfl (by decide) rfl ?_
    refine r_aload_n (q := 6) C 2 dX3_takeNewName_5 rfl rfl ?_
    refine r_iload_n (q := 7) C 3 dX3_takeNewName_6 rfl rfl ?_
    refine r_lload_n (q := 8) C 0 dX3_takeNewName_7 rfl rfl ?_
    obtain ⟨v7, h6, hf⟩ := m_b1_of hf
    refine r_callS (mc := 0) (ms := 0) (q := 11) (st1 := [.int v7]) C (c_X3_indexOf hl h6) rfl w_431 w_432 w_3 w_433 hd_X3_indexOf rfl rfl rfl ⟨(Nat.le_of_ble_eq_true rfl), (Nat.le_of_ble_eq_true rfl)⟩ (Nat.le_of_ble_eq_true rfl) ⟨(Nat.le_of_ble_eq_true rfl), (Nat.le_of_ble_eq_true rfl)⟩ dX3_takeNewName_8 rfl rfl ?_
    refine r_iconst (q := 12) (v := (-1 : Int32)) C dX3_takeNewName_11 (by decide) rfl ?_
    refine r_icmp_eq (t := 20) (q := 15) C dX3_takeNewName_12 (by decide) rfl (fun c8 => ?_) (fun c8 => ?_)
    · replace hf := m_if1 hf c8
      refine r_aload_n (q := 21) C 1 dX3_takeNewName_20 rfl rfl ?_
      obtain ⟨_u, S10, h9, hf⟩ := m_bw_of hf
      refine r_callV (mc := 0) (ms := 0) (q := 24) (st1 := []) C (c_X3_readToken hl h9) rfl w_314 w_315 w_1296 w_3 w_316 hd_X3_readToken rfl (by decide) g1 rfl rfl rfl ⟨(Nat.le_of_ble_eq_true rfl), (Nat.le_of_ble_eq_true rfl)⟩ (Nat.le_of_ble_eq_true rfl) ⟨(Nat.le_of_ble_eq_true rfl), (Nat.le_of_ble_eq_true rfl)⟩ dX3_takeNewName_21 rfl rfl ?_
      refine r_lload_n (q := 25) C 0 dX3_takeNewName_24 rfl rfl ?_
      obtain ⟨rfl, rfl⟩ := m_so2 hf
      exact x_lret C F (Nat.le_of_ble_eq_true rfl) (Nat.le_of_ble_eq_true rfl) dX3_takeNewName_25
    · replace hf := m_if0 hf c8
      refine r_aload_n (q := 16) C 1 dX3_takeNewName_15 rfl rfl ?_
      refine r_iconst (q := 17) (v := (3 : Int32)) C dX3_takeNewName_16 (by decide) rfl ?_
      rcases m_bx_of hf with ⟨_u, S12, h11, hf⟩ | ⟨x13, S12, h11, hf⟩
      · refine x_okV (q := 20) (mcQ := 2) (msQ := 12) (retQ := (some .long)) (st1 := []) C (c_X3_fail hl h11) rfl w_378 w_379 w_1301 w_3 w_380 hd_X3_fail rfl (by decide) g1 rfl rfl rfl ⟨(Nat.le_of_ble_eq_true rfl), (Nat.le_of_ble_eq_true rfl)⟩ (Nat.le_of_ble_eq_true rfl) ⟨(Nat.le_of_ble_eq_true rfl), (Nat.le_of_ble_eq_true rfl)⟩ dX3_takeNewName_17 rfl (Nat.le_of_ble_eq_true rfl) (Nat.le_of_ble_eq_true rfl) rfl ?_
        refine r_aload_n (q := 21) C 1 dX3_takeNewName_20 rfl rfl ?_
        obtain ⟨_u, S15, h14, hf⟩ := m_bw_of hf
        refine r_callV (mc := 0) (ms := 0) (q := 24) (st1 := []) C (c_X3_readToken hl h14) rfl w_314 w_315 w_1296 w_3 w_316 hd_X3_readToken rfl (by decide) g1 rfl rfl rfl ⟨(Nat.le_of_ble_eq_true rfl), (Nat.le_of_ble_eq_true rfl)⟩ (Nat.le_of_ble_eq_true rfl) ⟨(Nat.le_of_ble_eq_true rfl), (Nat.le_of_ble_eq_true rfl)⟩ dX3_takeNewName_21 rfl rfl ?_
        refine r_lload_n (q := 25) C 0 dX3_takeNewName_24 rfl rfl ?_
        obtain ⟨rfl, rfl⟩ := m_so2 hf
        exact x_lret C F (Nat.le_of_ble_eq_true rfl) (Nat.le_of_ble_eq_true rfl) dX3_takeNewName_25
      · obtain ⟨rfl, rfl⟩ := Prod.mk.inj hf
        exact x_erV C (c_X3_fail hl h11) F rfl w_378 w_379 w_1301 w_3 w_380 hd_X3_fail rfl (by decide) g1 rfl rfl rfl ⟨(Nat.le_of_ble_eq_true rfl), (Nat.le_of_ble_eq_true rfl)⟩ (Nat.le_of_ble_eq_true rfl) ⟨(Nat.le_of_ble_eq_true rfl), (Nat.le_of_ble_eq_true rfl)⟩ dX3_takeNewName_17 rfl (Nat.le_of_ble_eq_true rfl) (Nat.le_of_ble_eq_true rfl)
  · obtain ⟨rfl, rfl⟩ := Prod.mk.inj hf
    exact x_erV C (c_X3_nameHere hl h2) F rfl w_427 w_428 w_1309 w_3 w_429 hd_X3_nameHere rfl (by decide) g1 rfl rfl rfl ⟨(Nat.le_of_ble_eq_true rfl), (Nat.le_of_ble_eq_true rfl)⟩ (Nat.le_of_ble_eq_true rfl) ⟨(Nat.le_of_ble_eq_true rfl), (Nat.le_of_ble_eq_true rfl)⟩ dX3_takeNewName_1 rfl (Nat.le_of_ble_eq_true rfl) (Nat.le_of_ble_eq_true rfl)
def f_X3_takeNumber (Z : m_Z) (S : m_S) (a0 : Nat) (p1 : Int32) (p2 : Int32) : Option ((Except String Int32) × m_S) := m_gd (m_ok Z a0 3) (m_jp (fun (S3 : m_S) => m_jp (fun (_ : Unit) => m_bx (f_X3_fail Z S3 a0 (2 : Int32)) (fun _u S6 => m_bw (f_X3_readToken Z S6 a0) (fun _u S9 => some ((.ok (S6.1 a0 7)), S9)))) (fun j4 => (if (S3.1 a0 7) < p1 then j4 () else (if (S3.1 a0 7) ≤ p2 then m_bw (f_X3_readToken Z S3 a0) (fun _u S13 => some ((.ok (S3.1 a0 7)), S13)) else j4 ())))) (fun j2 => (if (S.1 a0 4) = (2 : Int32) then j2 S else m_bx (f_X3_fail Z S a0 (1 : Int32)) (fun _u S16 => j2 S16))))
abbrev rm_X3_takeNumber : Room := { frames := 7, cells := 2, slots := 12, locals := 103 }
theorem hd_X3_takeNumber : yX3_takeNumber.cls = RX3 ∧ yX3_takeNumber.cls ≠ "java/lang/invoke/MethodHandle" ∧ yX3_takeNumber.cls ≠ "java/lang/invoke/VarHandle" ∧ (parseMethodDescriptor yX3_takeNumber.desc).map (fun d => d.parameters.length) = some 2 := by decide +kernel
set_option maxHeartbeats 4000000 in
set_option maxRecDepth 100000 in
theorem c_X3_takeNumber {l : Launch} (hl : l.stackTraces = false) {Z : m_Z} {S : m_S} {a0 : Nat} {p1 : Int32} {p2 : Int32} {rZ9 : Except String Int32} {SZ9 : m_S} (hf : f_X3_takeNumber Z S a0 p1 p2 = some (rZ9, SZ9)) : m_Cx l yX3_takeNumber (.code yX3_takeNumber cX3_takeNumber 4 (some .int) :: m_ws) rm_X3_takeNumber 2 12 (fun f => [.ref a0, .int p1, .int p2]) Z S (m_rv (fun r => some (.int r)) rZ9) SZ9 := by
  unfold f_X3_takeNumber at hf
  refine m_entX hl (by decide) (fun _ => Nat.le_of_ble_eq_true rfl) (fun x C F => ?_)
  have C : m_H x l RX3 cX3_takeNumber 4 rm_X3_takeNumber := C
  show m_G x Z S 4 0 0 0 [(0, .ref a0), (1, .int p1), (2, .int p2)] []
  refine r_aload_n (q := 1) C 0 dX3_takeNumber_0 rfl rfl ?_
  obtain ⟨g1, hf⟩ := m_gd_of hf
  refine gf_X3_25 (q := 4) C dX3_takeNumber_1 g1 rfl ?_
  refine r_iconst (q := 5) (v := (2 : Int32)) C dX3_takeNumber_4 (by decide) rfl ?_
  obtain ⟨j2, ej2, hf⟩ := m_jp_of hf
  have J2 : ∀ (S3 : m_S), j2 S3 = some (rZ9, SZ9) → m_G x Z S3 4 1 6 13 [(0, .ref a0), (1, .int p1), (2, .int p2)] [] := by
    intro S3 hf
    rw [ej2] at hf
    refine r_aload_n (q := 14) C 0 dX3_takeNumber_13 rfl rfl ?_
    refine gf_X3_34 (q := 17) C dX3_takeNumber_14 g1 rfl ?_
    refine r_iload_n (q := 18) C 1 dX3_takeNumber_17 rfl rfl ?_
    obtain ⟨j4, ej4, hf⟩ := m_jp_of hf
    have J4 : ∀ (_ : Unit), j4 () = some (rZ9, SZ9) → m_G x Z S3 4 1 6 29 [(0, .ref a0)] [] := by
      intro _ hf
      rw [ej4] at hf
      refine r_aload_n (q := 30) C 0 dX3_takeNumber_29 rfl rfl ?_
      refine r_iconst (q := 31) (v := (2 : Int32)) C dX3_takeNumber_30 (by decide) rfl ?_
      rcases m_bx_of hf with ⟨_u, S6, h5, hf⟩ | ⟨x7, S6, h5, hf⟩
      · refine x_okV (q := 34) (mcQ := 2) (msQ := 12) (retQ := (some .int)) (st1 := []) C (c_X3_fail hl h5) rfl w_378 w_379 w_1301 w_3 w_380 hd_X3_fail rfl (by decide) g1 rfl rfl rfl ⟨(Nat.le_of_ble_eq_true rfl), (Nat.le_of_ble_eq_true rfl)⟩ (Nat.le_of_ble_eq_true rfl) ⟨(Nat.le_of_ble_eq_true rfl), (Nat.le_of_ble_eq_true rfl)⟩ dX3_takeNumber_31 rfl (Nat.le_of_ble_eq_true rfl) (Nat.le_of_ble_eq_true rfl) rfl ?_
        refine r_aload_n (q := 35) C 0 dX3_takeNumber_34 rfl rfl ?_
        refine gf_X3_34 (q := 38) C dX3_takeNumber_35 g1 rfl ?_
        refine r_istore_n (q := 39) (L' := [(3, .int (S6.1 a0 7)), (0, .ref a0)]) C dX3_takeNumber_38 rfl rfl (by decide) rfl ?_
        refine r_aload_n (q := 40) C 1 dX3_takeNumber_39 rfl rfl ?_
        obtain ⟨_u, S9, h8, hf⟩ := m_bw_of hf
        refine r_callV (mc := 0) (ms := 0) (q := 43) (st1 := []) C (c_X3_readToken hl h8) rfl w_314 w_315 w_1296 w_3 w_316 hd_X3_readToken rfl (by decide) g1 rfl rfl rfl ⟨(Nat.le_of_ble_eq_true rfl), (Nat.le_of_ble_eq_true rfl)⟩ (Nat.le_of_ble_eq_true rfl) ⟨(Nat.le_of_ble_eq_true rfl), (Nat.le_of_ble_eq_true rfl)⟩ dX3_takeNumber_40 rfl rfl ?_
        refine r_iload_n (q := 44) C 0 dX3_takeNumber_43 rfl rfl ?_
        obtain ⟨rfl, rfl⟩ := m_so2 hf
        exact x_iret C F (Nat.le_of_ble_eq_true rfl) (Nat.le_of_ble_eq_true rfl) dX3_takeNumber_44
      · obtain ⟨rfl, rfl⟩ := Prod.mk.inj hf
        exact x_erV C (c_X3_fail hl h5) F rfl w_378 w_379 w_1301 w_3 w_380 hd_X3_fail rfl (by decide) g1 rfl rfl rfl ⟨(Nat.le_of_ble_eq_true rfl), (Nat.le_of_ble_eq_true rfl)⟩ (Nat.le_of_ble_eq_true rfl) ⟨(Nat.le_of_ble_eq_true rfl), (Nat.le_of_ble_eq_true rfl)⟩ dX3_takeNumber_31 rfl (Nat.le_of_ble_eq_true rfl) (Nat.le_of_ble_eq_true rfl)
    refine r_icmp_lt (t := 29) (q := 21) C dX3_takeNumber_18 (by decide) rfl (fun c10 => ?_) (fun c10 => ?_)
    · replace hf := m_if1 hf c10
      refine r_sub [0] rfl ?_
      exact J4 ()  hf
    · replace hf := m_if0 hf c10
      refine r_aload_n (q := 22) C 0 dX3_takeNumber_21 rfl rfl ?_
      refine gf_X3_34 (q := 25) C dX3_takeNumber_22 g1 rfl ?_
      refine r_iload_n (q := 26) C 2 dX3_takeNumber_25 rfl rfl ?_
      refine r_icmp_le (t := 34) (q := 29) C dX3_takeNumber_26 (by decide) rfl (fun c11 => ?_) (fun c11 => ?_)
      · replace hf := m_if1 hf c11
        refine r_aload_n (q := 35) C 0 dX3_takeNumber_34 rfl rfl ?_
        refine gf_X3_34 (q := 38) C dX3_takeNumber_35 g1 rfl ?_
        refine r_istore_n (q := 39) (L' := [(3, .int (S3.1 a0 7)), (0, .ref a0), (1, .int p1), (2, .int p2)]) C dX3_takeNumber_38 rfl rfl (by decide) rfl ?_
        refine r_aload_n (q := 40) C 1 dX3_takeNumber_39 rfl rfl ?_
        obtain ⟨_u, S13, h12, hf⟩ := m_bw_of hf
        refine r_callV (mc := 0) (ms := 0) (q := 43) (st1 := []) C (c_X3_readToken hl h12) rfl w_314 w_315 w_1296 w_3 w_316 hd_X3_readToken rfl (by decide) g1 rfl rfl rfl ⟨(Nat.le_of_ble_eq_true rfl), (Nat.le_of_ble_eq_true rfl)⟩ (Nat.le_of_ble_eq_true rfl) ⟨(Nat.le_of_ble_eq_true rfl), (Nat.le_of_ble_eq_true rfl)⟩ dX3_takeNumber_40 rfl rfl ?_
        refine r_iload_n (q := 44) C 0 dX3_takeNumber_43 rfl rfl ?_
        obtain ⟨rfl, rfl⟩ := m_so2 hf
        exact x_iret C F (Nat.le_of_ble_eq_true rfl) (Nat.le_of_ble_eq_true rfl) dX3_takeNumber_44
      · replace hf := m_if0 hf c11
        refine r_sub [0] rfl ?_
        exact J4 ()  hf
  refine r_icmp_eq (t := 13) (q := 8) C dX3_takeNumber_5 (by decide) rfl (fun c14 => ?_) (fun c14 => ?_)
  · replace hf := m_if1 hf c14
    refine r_wid (k' := 1) (n' := 6) (by omega) (by omega) ?_
    exact J2 S hf
  · replace hf := m_if0 hf c14
    refine r_aload_n (q := 9) C 0 dX3_takeNumber_8 rfl rfl ?_
    refine r_iconst (q := 10) (v := (1 : Int32)) C dX3_takeNumber_9 (by decide) rfl ?_
    rcases m_bx_of hf with ⟨_u, S16, h15, hf⟩ | ⟨x17, S16, h15, hf⟩
    · refine x_okV (q := 13) (mcQ := 2) (msQ := 12) (retQ := (some .int)) (st1 := []) C (c_X3_fail hl h15) rfl w_378 w_379 w_1301 w_3 w_380 hd_X3_fail rfl (by decide) g1 rfl rfl rfl ⟨(Nat.le_of_ble_eq_true rfl), (Nat.le_of_ble_eq_true rfl)⟩ (Nat.le_of_ble_eq_true rfl) ⟨(Nat.le_of_ble_eq_true rfl), (Nat.le_of_ble_eq_true rfl)⟩ dX3_takeNumber_10 rfl (Nat.le_of_ble_eq_true rfl) (Nat.le_of_ble_eq_true rfl) rfl ?_
      exact J2 S16 hf
    · obtain ⟨rfl, rfl⟩ := Prod.mk.inj hf
      exact x_erV C (c_X3_fail hl h15) F rfl w_378 w_379 w_1301 w_3 w_380 hd_X3_fail rfl (by decide) g1 rfl rfl rfl ⟨(Nat.le_of_ble_eq_true rfl), (Nat.le_of_ble_eq_true rfl)⟩ (Nat.le_of_ble_eq_true rfl) ⟨(Nat.le_of_ble_eq_true rfl), (Nat.le_of_ble_eq_true rfl)⟩ dX3_takeNumber_10 rfl (Nat.le_of_ble_eq_true rfl) (Nat.le_of_ble_eq_true rfl)
def f_X3_takeSemicolon (Z : m_Z) (S : m_S) (a0 : Nat) : Option ((Except String Unit) × m_S) := m_gd (m_ok Z a0 3) ((if (S.1 a0 4) = (3 : Int32) then m_bw (f_X3_readToken Z S a0) (fun _u S4 => some ((.ok ()), S4)) else m_bx (f_X3_fail Z S a0 (1 : Int32)) (fun _u S6 => m_bw (f_X3_readToken Z S6 a0) (fun _u S9 => some ((.ok ()), S9)))))
abbrev rm_X3_takeSemicolon : Room := { frames := 7, cells := 1, slots := 6, locals := 103 }
theorem hd_X3_takeSemicolon : yX3_takeSemicolon.cls = RX3 ∧ yX3_takeSemicolon.cls ≠ "java/lang/invoke/MethodHandle" ∧ yX3_takeSemicolon.cls ≠ "java/lang/invoke/VarHandle" ∧ (parseMethodDescriptor yX3_takeSemicolon.desc).map (fun d => d.parameters.length) = some 0 := by decide +kernel
set_option maxHeartbeats 4000000 in
set_option maxRecDepth 100000 in
theorem c_X3_takeSemicolon {l : Launch} (hl : l.stackTraces = false) {Z : m_Z} {S : m_S} {a0 : Nat} {rZ9 : Except String Unit} {SZ9 : m_S} (hf : f_X3_takeSemicolon Z S a0 = some (rZ9, SZ9)) : m_Cx l yX3_takeSemicolon (.code yX3_takeSemicolon cX3_takeSemicolon 1 none :: m_ws) rm_X3_takeSemicolon 1 6 (fun f => [.ref a0]) Z S (m_rv (fun _ => none) rZ9) SZ9 := by
  unfold f_X3_takeSemicolon at hf
  refine m_entX hl (by decide) (fun _ => Nat.le_of_ble_eq_true rfl) (fun x C F => ?_)
  have C : m_H x l RX3 cX3_takeSemicolon 1 rm_X3_takeSemicolon := C
  show m_G x Z S 1 0 0 0 [(0, .ref a0)] []
  refine r_aload_n (q := 1) C 0 dX3_takeSemicolon_0 rfl rfl ?_
  obtain ⟨g1, hf⟩ := m_gd_of hf
  refine gf_X3_25 (q := 4) C dX3_takeSemicolon_1 g1 rfl ?_
  refine r_iconst (q := 5) (v := (3 : Int32)) C dX3_takeSemicolon_4 (by decide) rfl ?_
  refine r_icmp_eq (t := 13) (q := 8) C dX3_takeSemicolon_5 (by decide) rfl (fun c2 => ?_) (fun c2 => ?_)
  · replace hf := m_if1 hf c2
    refine r_aload_n (q := 14) C 0 dX3_takeSemicolon_13 rfl rfl ?_
    obtain ⟨_u, S4, h3, hf⟩ := m_bw_of hf
    refine r_callV (mc := 0) (ms := 0) (q := 17) (st1 := []) C (c_X3_readToken hl h3) rfl w_314 w_315 w_1296 w_3 w_316 hd_X3_readToken rfl (by decide) g1 rfl rfl rfl ⟨(Nat.le_of_ble_eq_true rfl), (Nat.le_of_ble_eq_true rfl)⟩ (Nat.le_of_ble_eq_true rfl) ⟨(Nat.le_of_ble_eq_true rfl), (Nat.le_of_ble_eq_true rfl)⟩ dX3_takeSemicolon_14 rfl rfl ?_
    obtain ⟨rfl, rfl⟩ := m_so2 hf
    exact x_vret C F (Nat.le_of_ble_eq_true rfl) (Nat.le_of_ble_eq_true rfl) dX3_takeSemicolon_17
  · replace hf := m_if0 hf c2
    refine r_aload_n (q := 9) C 0 dX3_takeSemicolon_8 rfl rfl ?_
    refine r_iconst (q := 10) (v := (1 : Int32)) C dX3_takeSemicolon_9 (by decide) rfl ?_
    rcases m_bx_of hf with ⟨_u, S6, h5, hf⟩ | ⟨x7, S6, h5, hf⟩
    · refine x_okV (q := 13) (mcQ := 1) (msQ := 6) (retQ := none) (st1 := []) C (c_X3_fail hl h5) rfl w_378 w_379 w_1301 w_3 w_380 hd_X3_fail rfl (by decide) g1 rfl rfl rfl ⟨(Nat.le_of_ble_eq_true rfl), (Nat.le_of_ble_eq_true rfl)⟩ (Nat.le_of_ble_eq_true rfl) ⟨(Nat.le_of_ble_eq_true rfl), (Nat.le_of_ble_eq_true rfl)⟩ dX3_takeSemicolon_10 rfl (Nat.le_of_ble_eq_true rfl) (Nat.le_of_ble_eq_true rfl) rfl ?_
      refine r_aload_n (q := 14) C 0 dX3_takeSemicolon_13 rfl rfl ?_
      obtain ⟨_u, S9, h8, hf⟩ := m_bw_of hf
      refine r_callV (mc := 0) (ms := 0) (q := 17) (st1 := []) C (c_X3_readToken hl h8) rfl w_314 w_315 w_1296 w_3 w_316 hd_X3_readToken rfl (by decide) g1 rfl rfl rfl ⟨(Nat.le_of_ble_eq_true rfl), (Nat.le_of_ble_eq_true rfl)⟩ (Nat.le_of_ble_eq_true rfl) ⟨(Nat.le_of_ble_eq_true rfl), (Nat.le_of_ble_eq_true rfl)⟩ dX3_takeSemicolon_14 rfl rfl ?_
      obtain ⟨rfl, rfl⟩ := m_so2 hf
      exact x_vret C F (Nat.le_of_ble_eq_true rfl) (Nat.le_of_ble_eq_true rfl) dX3_takeSemicolon_17
    · obtain ⟨rfl, rfl⟩ := Prod.mk.inj hf
      exact x_erV C (c_X3_fail hl h5) F rfl w_378 w_379 w_1301 w_3 w_380 hd_X3_fail rfl (by decide) g1 rfl rfl rfl ⟨(Nat.le_of_ble_eq_true rfl), (Nat.le_of_ble_eq_true rfl)⟩ (Nat.le_of_ble_eq_true rfl) ⟨(Nat.le_of_ble_eq_true rfl), (Nat.le_of_ble_eq_true rfl)⟩ dX3_takeSemicolon_10 rfl (Nat.le_of_ble_eq_true rfl) (Nat.le_of_ble_eq_true rfl)
def f_X3_readCase (Z : m_Z) (S : m_S) (a0 : Nat) (p1 : Nat) (p2 : Int32) : Option ((Except String Unit) × m_S) := m_gd (m_ok Z a0 3) (m_bw (f_X3_readToken Z S a0) (fun _u S3 => m_b1 (S3.2.2 a0 9) (fun b4 => m_bx (f_X3_takeNewName Z S3 a0 b4 p2) (fun w8 S7 => m_gd (m_ok Z b4 12) (m_gd (m_in p2 (Z.2.2 b4)) (m_lt (m_pJ S7 b4 p2.toNatClampNeg w8) (fun S12 => m_gd (m_ok Z p1 5) (m_b1 (S12.2.2 p1 9) (fun b15 => m_gd (m_ok Z b15 18) (m_gd (m_in p2 (Z.2.2 b15)) (m_b1 (S12.2.2 b15 p2.toNatClampNeg) (fun b19 => m_bx (f_X3_takeNumber Z S12 a0 (100 : Int32) (9999 : Int32)) (fun v23 S22 => m_bx (f_X3_takeNumber Z S22 a0 (0 : Int32) (1000 : Int32)) (fun v27 S26 => m_bx (f_X3_takeNumber Z S26 a0 (0 : Int32) (1000 : Int32)) (fun v31 S30 => m_gd (m_ok Z b19 7) (m_bw (f_X7_begin Z S30 b19 v23 v27 v31) (fun _u S35 => m_b1 (f_X3_at Z S35 a0 7) (fun v37 => (if v37 = 0 then m_bx (f_X3_takeSemicolon Z S35 a0) (fun _u S40 => m_lt (m_pI S40 p1 8 (p2 + (1 : Int32))) (fun S42 => some ((.ok ()), S42))) else m_bw (f_X3_readToken Z S35 a0) (fun _u S45 => m_bx (f_X3_takeNumber Z S45 a0 (0 : Int32) (1000 : Int32)) (fun v48 S47 => m_lt (m_pI S47 b19 2 v48) (fun S50 => m_bx (f_X3_takeNumber Z S50 a0 (S50.1 b19 2) (1000 : Int32)) (fun v54 S53 => m_lt (m_pI S53 b19 3 v54) (fun S56 => m_bx (f_X3_takeSemicolon Z S56 a0) (fun _u S59 => m_lt (m_pI S59 p1 8 (p2 + (1 : Int32))) (fun S61 => some ((.ok ()), S61)))))))))))))))))))))))))))
abbrev rm_X3_readCase : Room := { frames := 9, cells := 13, slots := 78, locals := 150 }
theorem hd_X3_readCase : yX3_readCase.cls = RX3 ∧ yX3_readCase.cls ≠ "java/lang/invoke/MethodHandle" ∧ yX3_readCase.cls ≠ "java/lang/invoke/VarHandle" ∧ (parseMethodDescriptor yX3_readCase.desc).map (fun d => d.parameters.length) = some 2 := by decide +kernel
set_option maxHeartbeats 4000000 in
set_option maxRecDepth 100000 in
theorem c_X3_readCase {l : Launch} (hl : l.stackTraces = false) {Z : m_Z} {S : m_S} {a0 : Nat} {p1 : Nat} {p2 : Int32} {rZ9 : Except String Unit} {SZ9 : m_S} (hf : f_X3_readCase Z S a0 p1 p2 = some (rZ9, SZ9)) : m_Cx l yX3_readCase (.code yX3_readCase cX3_readCase 7 none :: m_ws) rm_X3_readCase 13 78 (fun f => [.ref a0, .ref p1, .int p2]) Z S (m_rv (fun _ => none) rZ9) SZ9 := by
  unfold f_X3_readCase at hf
  refine m_entX hl (by decide) (fun _ => Nat.le_of_ble_eq_true rfl) (fun x C F => ?_)
  have C : m_H x l RX3 cX3_readCase 7 rm_X3_readCase := C
  show m_G x Z S 7 0 0 0 [(0, .ref a0), (1, .ref p1), (2, .int p2)] []
  refine r_aload_n (q := 1) C 0 dX3_readCase_0 rfl rfl ?_
  obtain ⟨g1, hf⟩ := m_gd_of hf
  obtain ⟨_u, S3, h2, hf⟩ := m_bw_of hf
  refine r_callV (mc := 0) (ms := 0) (q := 4) (st1 := []) C (c_X3_readToken hl h2) rfl w_314 w_315 w_1296 w_3 w_316 hd_X3_readToken rfl (by decide) g1 rfl rfl rfl ⟨(Nat.le_of_ble_eq_true rfl), (Nat.le_of_ble_eq_true rfl)⟩ (Nat.le_of_ble_eq_true rfl) ⟨(Nat.le_of_ble_eq_true rfl), (Nat.le_of_ble_eq_true rfl)⟩ dX3_readCase_1 rfl rfl ?_
  refine r_aload_n (q := 5) C 0 dX3_readCase_4 rfl rfl ?_
  obtain ⟨b4, e5, hf⟩ := m_b1_of hf
  refine gf_X3_41 (q := 8) C dX3_readCase_5 g1 e5 rfl ?_
  refine r_iload_n (q := 9) C 2 dX3_readCase_8 rfl rfl ?_
  refine r_aload_n (q := 10) C 0 dX3_readCase_9 rfl rfl ?_
  refine r_aload_n (q := 11) C 0 dX3_readCase_10 rfl rfl ?_
  refine gf_X3_41 (q := 14) C dX3_readCase_11 g1 e5 rfl ?_
  refine r_iload_n (q := 15) C 2 dX3_readCase_14 rfl rfl ?_
  rcases m_bx_of hf with ⟨w8, S7, h6, hf⟩ | ⟨x9, S7, h6, hf⟩
  · refine x_okV (q := 18) (mcQ := 13) (msQ := 78) (retQ := none) (st1 := [.long w8, .int p2, .ref b4]) C (c_X3_takeNewName hl h6) rfl w_424 w_425 w_1308 w_3 w_426 hd_X3_takeNewName rfl (by decide) g1 rfl rfl rfl ⟨(Nat.le_of_ble_eq_true rfl), (Nat.le_of_ble_eq_true rfl)⟩ (Nat.le_of_ble_eq_true rfl) ⟨(Nat.le_of_ble_eq_true rfl), (Nat.le_of_ble_eq_true rfl)⟩ dX3_readCase_15 rfl (Nat.le_of_ble_eq_true rfl) (Nat.le_of_ble_eq_true rfl) rfl ?_
    obtain ⟨g10, hf⟩ := m_gd_of hf
    obtain ⟨g11, hf⟩ := m_gd_of hf
    obtain ⟨S12, e13, hf⟩ := m_lt_of hf
    refine r_last (q := 19) C dX3_readCase_18 ⟨g10, g11⟩ rfl ?_
    rw [← e13]
    refine r_aload_n (q := 20) C 1 dX3_readCase_19 rfl rfl ?_
    obtain ⟨g14, hf⟩ := m_gd_of hf
    obtain ⟨b15, e16, hf⟩ := m_b1_of hf
    refine gf_X3_155 (q := 23) C dX3_readCase_20 g14 e16 rfl ?_
    refine r_iload_n (q := 24) C 2 dX3_readCase_23 rfl rfl ?_
    obtain ⟨g17, hf⟩ := m_gd_of hf
    obtain ⟨g18, hf⟩ := m_gd_of hf
    obtain ⟨b19, e20, hf⟩ := m_b1_of hf
    refine r_aald18 (q := 25) C dX3_readCase_24 ⟨g17, g18⟩ e20 rfl ?_
    refine r_astore_n (q := 26) (L' := [(3, .ref b19), (0, .ref a0), (1, .ref p1), (2, .int p2)]) C dX3_readCase_25 rfl rfl (by decide) rfl ?_
    refine r_aload_n (q := 27) C 1 dX3_readCase_26 rfl rfl ?_
    refine r_bipush (q := 29) (v := (100 : Int32)) C dX3_readCase_27 (by decide) rfl ?_
    refine r_sipush (q := 32) (v := (9999 : Int32)) C dX3_readCase_29 (by decide) rfl ?_
    rcases m_bx_of hf with ⟨v23, S22, h21, hf⟩ | ⟨x24, S22, h21, hf⟩
    · refine x_okV (q := 35) (mcQ := 13) (msQ := 78) (retQ := none) (st1 := [.int v23]) C (c_X3_takeNumber hl h21) rfl w_394 w_395 w_1302 w_3 w_396 hd_X3_takeNumber rfl (by decide) g1 rfl rfl rfl ⟨(Nat.le_of_ble_eq_true rfl), (Nat.le_of_ble_eq_true rfl)⟩ (Nat.le_of_ble_eq_true rfl) ⟨(Nat.le_of_ble_eq_true rfl), (Nat.le_of_ble_eq_true rfl)⟩ dX3_readCase_32 rfl (Nat.le_of_ble_eq_true rfl) (Nat.le_of_ble_eq_true rfl) rfl ?_
      refine r_istore (q := 37) (L' := [(4, .int v23), (3, .ref b19), (0, .ref a0), (1, .ref p1), (2, .int p2)]) C dX3_readCase_35 rfl (by decide) rfl ?_
      refine r_aload_n (q := 38) C 2 dX3_readCase_37 rfl rfl ?_
      refine r_iconst (q := 39) (v := (0 : Int32)) C dX3_readCase_38 (by decide) rfl ?_
      refine r_sipush (q := 42) (v := (1000 : Int32)) C dX3_readCase_39 (by decide) rfl ?_
      rcases m_bx_of hf with ⟨v27, S26, h25, hf⟩ | ⟨x28, S26, h25, hf⟩
      · refine x_okV (q := 45) (mcQ := 13) (msQ := 78) (retQ := none) (st1 := [.int v27]) C (c_X3_takeNumber hl h25) rfl w_394 w_395 w_1302 w_3 w_396 hd_X3_takeNumber rfl (by decide) g1 rfl rfl rfl ⟨(Nat.le_of_ble_eq_true rfl), (Nat.le_of_ble_eq_true rfl)⟩ (Nat.le_of_ble_eq_true rfl) ⟨(Nat.le_of_ble_eq_true rfl), (Nat.le_of_ble_eq_true rfl)⟩ dX3_readCase_42 rfl (Nat.le_of_ble_eq_true rfl) (Nat.le_of_ble_eq_true rfl) rfl ?_
        refine r_istore (q := 47) (L' := [(5, .int v27), (4, .int v23), (3, .ref b19), (0, .ref a0), (1, .ref p1), (2, .int p2)]) C dX3_readCase_45 rfl (by decide) rfl ?_
        refine r_aload_n (q := 48) C 3 dX3_readCase_47 rfl rfl ?_
        refine r_iconst (q := 49) (v := (0 : Int32)) C dX3_readCase_48 (by decide) rfl ?_
        refine r_sipush (q := 52) (v := (1000 : Int32)) C dX3_readCase_49 (by decide) rfl ?_
        rcases m_bx_of hf with ⟨v31, S30, h29, hf⟩ | ⟨x32, S30, h29, hf⟩
        · refine x_okV (q := 55) (mcQ := 13) (msQ := 78) (retQ := none) (st1 := [.int v31]) C (c_X3_takeNumber hl h29) rfl w_394 w_395 w_1302 w_3 w_396 hd_X3_takeNumber rfl (by decide) g1 rfl rfl rfl ⟨(Nat.le_of_ble_eq_true rfl), (Nat.le_of_ble_eq_true rfl)⟩ (Nat.le_of_ble_eq_true rfl) ⟨(Nat.le_of_ble_eq_true rfl), (Nat.le_of_ble_eq_true rfl)⟩ dX3_readCase_52 rfl (Nat.le_of_ble_eq_true rfl) (Nat.le_of_ble_eq_true rfl) rfl ?_
          refine r_istore (q := 57) (L' := [(6, .int v31), (5, .int v27), (4, .int v23), (3, .ref b19), (0, .ref a0), (1, .ref p1), (2, .int p2)]) C dX3_readCase_55 rfl (by decide) rfl ?_
          refine r_aload_n (q := 58) C 3 dX3_readCase_57 rfl rfl ?_
          refine r_iload (q := 60) C 2 dX3_readCase_58 rfl rfl ?_
          refine r_iload (q := 62) C 1 dX3_readCase_60 rfl rfl ?_
          refine r_iload (q := 64) C 0 dX3_readCase_62 rfl rfl ?_
          obtain ⟨g33, hf⟩ := m_gd_of hf
          obtain ⟨_u, S35, h34, hf⟩ := m_bw_of hf
          refine r_callV (mc := 0) (ms := 0) (q := 67) (st1 := []) C (c_X7_begin hl h34) rfl w_456 w_457 w_458 w_6 w_459 hd_X7_begin rfl (by decide) g33 rfl rfl rfl ⟨(Nat.le_of_ble_eq_true rfl), (Nat.le_of_ble_eq_true rfl)⟩ (Nat.le_of_ble_eq_true rfl) ⟨(Nat.le_of_ble_eq_true rfl), (Nat.le_of_ble_eq_true rfl)⟩ dX3_readCase_64 rfl rfl ?_
          refine r_aload_n (q := 68) C 4 dX3_readCase_67 rfl rfl ?_
          refine r_ldcS (q := 70) (tx := "safe") (t := 7) C (by decide +kernel) dX3_readCase_68 rfl ?_
          obtain ⟨v37, h36, hf⟩ := m_b1_of hf
          refine r_callV (mc := 0) (ms := 0) (q := 73) (st1 := [.int v37]) C (c_X3_at hl h36) rfl w_332 w_333 w_1300 w_3 w_334 hd_X3_at rfl (by decide) g1 rfl rfl rfl ⟨(Nat.le_of_ble_eq_true rfl), (Nat.le_of_ble_eq_true rfl)⟩ (Nat.le_of_ble_eq_true rfl) ⟨(Nat.le_of_ble_eq_true rfl), (Nat.le_of_ble_eq_true rfl)⟩ dX3_readCase_70 rfl rfl ?_
          refine r_if_eq (t := 107) (q := 76) C dX3_readCase_73 (by decide) rfl (fun c38 => ?_) (fun c38 => ?_)
          · replace hf := m_if1 hf c38
            refine r_aload_n (q := 108) C 4 dX3_readCase_107 rfl rfl ?_
            rcases m_bx_of hf with ⟨_u, S40, h39, hf⟩ | ⟨x41, S40, h39, hf⟩
            · refine x_okV (q := 111) (mcQ := 13) (msQ := 78) (retQ := none) (st1 := []) C (c_X3_takeSemicolon hl h39) rfl w_397 w_398 w_1303 w_3 w_399 hd_X3_takeSemicolon rfl (by decide) g1 rfl rfl rfl ⟨(Nat.le_of_ble_eq_true rfl), (Nat.le_of_ble_eq_true rfl)⟩ (Nat.le_of_ble_eq_true rfl) ⟨(Nat.le_of_ble_eq_true rfl), (Nat.le_of_ble_eq_true rfl)⟩ dX3_readCase_108 rfl (Nat.le_of_ble_eq_true rfl) (Nat.le_of_ble_eq_true rfl) rfl ?_
              refine r_aload_n (q := 112) C 5 dX3_readCase_111 rfl rfl ?_
              refine r_iload_n (q := 113) C 6 dX3_readCase_112 rfl rfl ?_
              refine r_iconst (q := 114) (v := (1 : Int32)) C dX3_readCase_113 (by decide) rfl ?_
              refine r_iadd (q := 115) C dX3_readCase_114 rfl ?_
              obtain ⟨S42, e43, hf⟩ := m_lt_of hf
              refine pf_X3_171 (q := 118) C dX3_readCase_115 g14 e43 rfl ?_
              obtain ⟨rfl, rfl⟩ := m_so2 hf
              exact x_vret C F (Nat.le_of_ble_eq_true rfl) (Nat.le_of_ble_eq_true rfl) dX3_readCase_118
            · obtain ⟨rfl, rfl⟩ := Prod.mk.inj hf
              exact x_erV C (c_X3_takeSemicolon hl h39) F rfl w_397 w_398 w_1303 w_3 w_399 hd_X3_takeSemicolon rfl (by decide) g1 rfl rfl rfl ⟨(Nat.le_of_ble_eq_true rfl), (Nat.le_of_ble_eq_true rfl)⟩ (Nat.le_of_ble_eq_true rfl) ⟨(Nat.le_of_ble_eq_true rfl), (Nat.le_of_ble_eq_true rfl)⟩ dX3_readCase_108 rfl (Nat.le_of_ble_eq_true rfl) (Nat.le_of_ble_eq_true rfl)
          · replace hf := m_if0 hf c38
            refine r_aload_n (q := 77) C 4 dX3_readCase_76 rfl rfl ?_
            obtain ⟨_u, S45, h44, hf⟩ := m_bw_of hf
            refine r_callV (mc := 0) (ms := 0) (q := 80) (st1 := []) C (c_X3_readToken hl h44) rfl w_314 w_315 w_1296 w_3 w_316 hd_X3_readToken rfl (by decide) g1 rfl rfl rfl ⟨(Nat.le_of_ble_eq_true rfl), (Nat.le_of_ble_eq_true rfl)⟩ (Nat.le_of_ble_eq_true rfl) ⟨(Nat.le_of_ble_eq_true rfl), (Nat.le_of_ble_eq_true rfl)⟩ dX3_readCase_77 rfl rfl ?_
            refine r_aload_n (q := 81) C 3 dX3_readCase_80 rfl rfl ?_
            refine r_aload_n (q := 82) C 4 dX3_readCase_81 rfl rfl ?_
            refine r_iconst (q := 83) (v := (0 : Int32)) C dX3_readCase_82 (by decide) rfl ?_
            refine r_sipush (q := 86) (v := (1000 : Int32)) C dX3_readCase_83 (by decide) rfl ?_
            rcases m_bx_of hf with ⟨v48, S47, h46, hf⟩ | ⟨x49, S47, h46, hf⟩
            · refine x_okV (q := 89) (mcQ := 13) (msQ := 78) (retQ := none) (st1 := [.int v48, .ref b19]) C (c_X3_takeNumber hl h46) rfl w_394 w_395 w_1302 w_3 w_396 hd_X3_takeNumber rfl (by decide) g1 rfl rfl rfl ⟨(Nat.le_of_ble_eq_true rfl), (Nat.le_of_ble_eq_true rfl)⟩ (Nat.le_of_ble_eq_true rfl) ⟨(Nat.le_of_ble_eq_true rfl), (Nat.le_of_ble_eq_true rfl)⟩ dX3_readCase_86 rfl (Nat.le_of_ble_eq_true rfl) (Nat.le_of_ble_eq_true rfl) rfl ?_
              obtain ⟨S50, e51, hf⟩ := m_lt_of hf
              refine pf_X3_165 (q := 92) C dX3_readCase_89 g33 e51 rfl ?_
              refine r_aload_n (q := 93) C 3 dX3_readCase_92 rfl rfl ?_
              refine r_aload_n (q := 94) C 4 dX3_readCase_93 rfl rfl ?_
              refine r_aload_n (q := 95) C 3 dX3_readCase_94 rfl rfl ?_
              refine gf_X3_165 (q := 98) C dX3_readCase_95 g33 rfl ?_
              refine r_sipush (q := 101) (v := (1000 : Int32)) C dX3_readCase_98 (by decide) rfl ?_
              rcases m_bx_of hf with ⟨v54, S53, h52, hf⟩ | ⟨x55, S53, h52, hf⟩
              · refine x_okV (q := 104) (mcQ := 13) (msQ := 78) (retQ := none) (st1 := [.int v54, .ref b19]) C (c_X3_takeNumber hl h52) rfl w_394 w_395 w_1302 w_3 w_396 hd_X3_takeNumber rfl (by decide) g1 rfl rfl rfl ⟨(Nat.le_of_ble_eq_true rfl), (Nat.le_of_ble_eq_true rfl)⟩ (Nat.le_of_ble_eq_true rfl) ⟨(Nat.le_of_ble_eq_true rfl), (Nat.le_of_ble_eq_true rfl)⟩ dX3_readCase_101 rfl (Nat.le_of_ble_eq_true rfl) (Nat.le_of_ble_eq_true rfl) rfl ?_
                obtain ⟨S56, e57, hf⟩ := m_lt_of hf
                refine pf_X3_168 (q := 107) C dX3_readCase_104 g33 e57 rfl ?_
                refine r_aload_n (q := 108) C 4 dX3_readCase_107 rfl rfl ?_
                rcases m_bx_of hf with ⟨_u, S59, h58, hf⟩ | ⟨x60, S59, h58, hf⟩
                · refine x_okV (q := 111) (mcQ := 13) (msQ := 78) (retQ := none) (st1 := []) C (c_X3_takeSemicolon hl h58) rfl w_397 w_398 w_1303 w_3 w_399 hd_X3_takeSemicolon rfl (by decide) g1 rfl rfl rfl ⟨(Nat.le_of_ble_eq_true rfl), (Nat.le_of_ble_eq_true rfl)⟩ (Nat.le_of_ble_eq_true rfl) ⟨(Nat.le_of_ble_eq_true rfl), (Nat.le_of_ble_eq_true rfl)⟩ dX3_readCase_108 rfl (Nat.le_of_ble_eq_true rfl) (Nat.le_of_ble_eq_true rfl) rfl ?_
                  refine r_aload_n (q := 112) C 5 dX3_readCase_111 rfl rfl ?_
                  refine r_iload_n (q := 113) C 6 dX3_readCase_112 rfl rfl ?_
                  refine r_iconst (q := 114) (v := (1 : Int32)) C dX3_readCase_113 (by decide) rfl ?_
                  refine r_iadd (q := 115) C dX3_readCase_114 rfl ?_
                  obtain ⟨S61, e62, hf⟩ := m_lt_of hf
                  refine pf_X3_171 (q := 118) C dX3_readCase_115 g14 e62 rfl ?_
                  obtain ⟨rfl, rfl⟩ := m_so2 hf
                  exact x_vret C F (Nat.le_of_ble_eq_true rfl) (Nat.le_of_ble_eq_true rfl) dX3_readCase_118
                · obtain ⟨rfl, rfl⟩ := Prod.mk.inj hf
                  exact x_erV C (c_X3_takeSemicolon hl h58) F rfl w_397 w_398 w_1303 w_3 w_399 hd_X3_takeSemicolon rfl (by decide) g1 rfl rfl rfl ⟨(Nat.le_of_ble_eq_true rfl), (Nat.le_of_ble_eq_true rfl)⟩ (Nat.le_of_ble_eq_true rfl) ⟨(Nat.le_of_ble_eq_true rfl), (Nat.le_of_ble_eq_true rfl)⟩ dX3_readCase_108 rfl (Nat.le_of_ble_eq_true rfl) (Nat.le_of_ble_eq_true rfl)
              · obtain ⟨rfl, rfl⟩ := Prod.mk.inj hf
                exact x_erV C (c_X3_takeNumber hl h52) F rfl w_394 w_395 w_1302 w_3 w_396 hd_X3_takeNumber rfl (by decide) g1 rfl rfl rfl ⟨(Nat.le_of_ble_eq_true rfl), (Nat.le_of_ble_eq_true rfl)⟩ (Nat.le_of_ble_eq_true rfl) ⟨(Nat.le_of_ble_eq_true rfl), (Nat.le_of_ble_eq_true rfl)⟩ dX3_readCase_101 rfl (Nat.le_of_ble_eq_true rfl) (Nat.le_of_ble_eq_true rfl)
            · obtain ⟨rfl, rfl⟩ := Prod.mk.inj hf
              exact x_erV C (c_X3_takeNumber hl h46) F rfl w_394 w_395 w_1302 w_3 w_396 hd_X3_takeNumber rfl (by decide) g1 rfl rfl rfl ⟨(Nat.le_of_ble_eq_true rfl), (Nat.le_of_ble_eq_true rfl)⟩ (Nat.le_of_ble_eq_true rfl) ⟨(Nat.le_of_ble_eq_true rfl), (Nat.le_of_ble_eq_true rfl)⟩ dX3_readCase_86 rfl (Nat.le_of_ble_eq_true rfl) (Nat.le_of_ble_eq_true rfl)
        · obtain ⟨rfl, rfl⟩ := Prod.mk.inj hf
          exact x_erV C (c_X3_takeNumber hl h29) F rfl w_394 w_395 w_1302 w_3 w_396 hd_X3_takeNumber rfl (by decide) g1 rfl rfl rfl ⟨(Nat.le_of_ble_eq_true rfl), (Nat.le_of_ble_eq_true rfl)⟩ (Nat.le_of_ble_eq_true rfl) ⟨(Nat.le_of_ble_eq_true rfl), (Nat.le_of_ble_eq_true rfl)⟩ dX3_readCase_52 rfl (Nat.le_of_ble_eq_true rfl) (Nat.le_of_ble_eq_true rfl)
      · obtain ⟨rfl, rfl⟩ := Prod.mk.inj hf
        exact x_erV C (c_X3_takeNumber hl h25) F rfl w_394 w_395 w_1302 w_3 w_396 hd_X3_takeNumber rfl (by decide) g1 rfl rfl rfl ⟨(Nat.le_of_ble_eq_true rfl), (Nat.le_of_ble_eq_true rfl)⟩ (Nat.le_of_ble_eq_true rfl) ⟨(Nat.le_of_ble_eq_true rfl), (Nat.le_of_ble_eq_true rfl)⟩ dX3_readCase_42 rfl (Nat.le_of_ble_eq_true rfl) (Nat.le_of_ble_eq_true rfl)
    · obtain ⟨rfl, rfl⟩ := Prod.mk.inj hf
      exact x_erV C (c_X3_takeNumber hl h21) F rfl w_394 w_395 w_1302 w_3 w_396 hd_X3_takeNumber rfl (by decide) g1 rfl rfl rfl ⟨(Nat.le_of_ble_eq_true rfl), (Nat.le_of_ble_eq_true rfl)⟩ (Nat.le_of_ble_eq_true rfl) ⟨(Nat.le_of_ble_eq_true rfl), (Nat.le_of_ble_eq_true rfl)⟩ dX3_readCase_32 rfl (Nat.le_of_ble_eq_true rfl) (Nat.le_of_ble_eq_true rfl)
  · obtain ⟨rfl, rfl⟩ := Prod.mk.inj hf
    exact x_erV C (c_X3_takeNewName hl h6) F rfl w_424 w_425 w_1308 w_3 w_426 hd_X3_takeNewName rfl (by decide) g1 rfl rfl rfl ⟨(Nat.le_of_ble_eq_true rfl), (Nat.le_of_ble_eq_true rfl)⟩ (Nat.le_of_ble_eq_true rfl) ⟨(Nat.le_of_ble_eq_true rfl), (Nat.le_of_ble_eq_true rfl)⟩ dX3_readCase_15 rfl (Nat.le_of_ble_eq_true rfl) (Nat.le_of_ble_eq_true rfl)
def f_X3_readCassette (Z : m_Z) (S : m_S) (a0 : Nat) (p1 : Nat) : Option ((Except String Unit) × m_S) := m_gd (m_ok Z a0 3) (m_bw (f_X3_readToken Z S a0) (fun _u S3 => m_gd (m_ok Z p1 5) (m_b1 (S3.2.2 p1 9) (fun b5 => m_b1 (S3.2.2 a0 9) (fun b7 => m_bx (f_X3_knownName Z S3 a0 b7 (S3.1 p1 8)) (fun v11 S10 => m_gd (m_ok Z b5 18) (m_gd (m_in v11 (Z.2.2 b5)) (m_b1 (S10.2.2 b5 v11.toNatClampNeg) (fun b15 => m_gd (m_ok Z b15 7) (m_b1 (f_X7_isFull Z S10 b15) (fun v19 => m_jp (fun (S21 : m_S) => m_bw (f_X3_readToken Z S21 a0) (fun _u S23 => m_b1 (S23.2.2 p1 7) (fun b24 => m_b1 (S23.2.2 a0 8) (fun b26 => m_bx (f_X3_knownName Z S23 a0 b26 (S23.1 p1 6)) (fun v30 S29 => m_gd (m_ok Z b24 15) (m_gd (m_in v30 (Z.2.2 b24)) (m_b1 (S29.2.2 b24 v30.toNatClampNeg) (fun b34 => m_bw (f_X3_readToken Z S29 a0) (fun _u S37 => m_bx (f_X3_takeNumber Z S37 a0 (1 : Int32) (999 : Int32)) (fun v40 S39 => m_bx (f_X3_takeNumber Z S39 a0 (0 : Int32) (1000 : Int32)) (fun v44 S43 => m_bx (f_X3_takeSemicolon Z S43 a0) (fun _u S47 => m_gd (m_ok Z b34 1) (m_b1 (f_X1_moistureAt Z S47 b34 v44 v40) (fun v51 => m_bw (f_X7_put Z S47 b15 (S47.1 p1 10) b34 v40 v51) (fun _u S53 => m_lt (m_pI S53 p1 10 ((S53.1 p1 10) + (1 : Int32))) (fun S54 => some ((.ok ()), S54))))))))))))))))) (fun j20 => (if v19 = 0 then j20 S10 else m_bx (f_X3_fail Z S10 a0 (4 : Int32)) (fun _u S58 => j20 S58))))))))))))))
abbrev rm_X3_readCassette : Room := { frames := 9, cells := 10, slots := 60, locals := 149 }
theorem hd_X3_readCassette : yX3_readCassette.cls = RX3 ∧ yX3_readCassette.cls ≠ "java/lang/invoke/MethodHandle" ∧ yX3_readCassette.cls ≠ "java/lang/invoke/VarHandle" ∧ (parseMethodDescriptor yX3_readCassette.desc).map (fun d => d.parameters.length) = some 1 := by decide +kernel
set_option maxHeartbeats 4000000 in
set_option maxRecDepth 100000 in
theorem c_X3_readCassette {l : Launch} (hl : l.stackTraces = false) {Z : m_Z} {S : m_S} {a0 : Nat} {p1 : Nat} {rZ9 : Except String Unit} {SZ9 : m_S} (hf : f_X3_readCassette Z S a0 p1 = some (rZ9, SZ9)) : m_Cx l yX3_readCassette (.code yX3_readCassette cX3_readCassette 6 none :: m_ws) rm_X3_readCassette 10 60 (fun f => [.ref a0, .ref p1]) Z S (m_rv (fun _ => none) rZ9) SZ9 := by
  unfold f_X3_readCassette at hf
  refine m_entX hl (by decide) (fun _ => Nat.le_of_ble_eq_true rfl) (fun x C F => ?_)
  have C : m_H x l RX3 cX3_readCassette 6 rm_X3_readCassette := C
  show m_G x Z S 6 0 0 0 [(0, .ref a0), (1, .ref p1)] []
  refine r_aload_n (q := 1) C 0 dX3_readCassette_0 rfl rfl ?_
  obtain ⟨g1, hf⟩ := m_gd_of hf
  obtain ⟨_u, S3, h2, hf⟩ := m_bw_of hf
  refine r_callV (mc := 0) (ms := 0) (q := 4) (st1 := []) C (c_X3_readToken hl h2) rfl w_314 w_315 w_1296 w_3 w_316 hd_X3_readToken rfl (by decide) g1 rfl rfl rfl ⟨(Nat.le_of_ble_eq_true rfl), (Nat.le_of_ble_eq_true rfl)⟩ (Nat.le_of_ble_eq_true rfl) ⟨(Nat.le_of_ble_eq_true rfl), (Nat.le_of_ble_eq_true rfl)⟩ dX3_readCassette_1 rfl rfl ?_
  refine r_aload_n (q := 5) C 1 dX3_readCassette_4 rfl rfl ?_
  obtain ⟨g4, hf⟩ := m_gd_of hf
  obtain ⟨b5, e6, hf⟩ := m_b1_of hf
  refine gf_X3_155 (q := 8) C dX3_readCassette_5 g4 e6 rfl ?_
  refine r_aload_n (q := 9) C 0 dX3_readCassette_8 rfl rfl ?_
  refine r_aload_n (q := 10) C 0 dX3_readCassette_9 rfl rfl ?_
  obtain ⟨b7, e8, hf⟩ := m_b1_of hf
  refine gf_X3_41 (q := 13) C dX3_readCassette_10 g1 e8 rfl ?_
  refine r_aload_n (q := 14) C 1 dX3_readCassette_13 rfl rfl ?_
  refine gf_X3_171 (q := 17) C dX3_readCassette_14 g4 rfl ?_
  rcases m_bx_of hf with ⟨v11, S10, h9, hf⟩ | ⟨x12, S10, h9, hf⟩
  · refine x_okV (q := 20) (mcQ := 10) (msQ := 60) (retQ := none) (st1 := [.int v11, .ref b5]) C (c_X3_knownName hl h9) rfl w_471 w_472 w_1313 w_3 w_473 hd_X3_knownName rfl (by decide) g1 rfl rfl rfl ⟨(Nat.le_of_ble_eq_true rfl), (Nat.le_of_ble_eq_true rfl)⟩ (Nat.le_of_ble_eq_true rfl) ⟨(Nat.le_of_ble_eq_true rfl), (Nat.le_of_ble_eq_true rfl)⟩ dX3_readCassette_17 rfl (Nat.le_of_ble_eq_true rfl) (Nat.le_of_ble_eq_true rfl) rfl ?_
    obtain ⟨g13, hf⟩ := m_gd_of hf
    obtain ⟨g14, hf⟩ := m_gd_of hf
    obtain ⟨b15, e16, hf⟩ := m_b1_of hf
    refine r_aald18 (q := 21) C dX3_readCassette_20 ⟨g13, g14⟩ e16 rfl ?_
    refine r_astore_n (q := 22) (L' := [(2, .ref b15), (0, .ref a0), (1, .ref p1)]) C dX3_readCassette_21 rfl rfl (by decide) rfl ?_
    refine r_aload_n (q := 23) C 0 dX3_readCassette_22 rfl rfl ?_
    obtain ⟨g17, hf⟩ := m_gd_of hf
    obtain ⟨v19, h18, hf⟩ := m_b1_of hf
    refine r_callV (mc := 0) (ms := 0) (q := 26) (st1 := [.int v19]) C (c_X7_isFull hl h18) rfl w_474 w_475 w_476 w_6 w_477 hd_X7_isFull rfl (by decide) g17 rfl rfl rfl ⟨(Nat.le_of_ble_eq_true rfl), (Nat.le_of_ble_eq_true rfl)⟩ (Nat.le_of_ble_eq_true rfl) ⟨(Nat.le_of_ble_eq_true rfl), (Nat.le_of_ble_eq_true rfl)⟩ dX3_readCassette_23 rfl rfl ?_
    obtain ⟨j20, ej20, hf⟩ := m_jp_of hf
    have J20 : ∀ (S21 : m_S), j20 S21 = some (rZ9, SZ9) → m_G x Z S21 6 3 18 34 [(0, .ref a0), (1, .ref p1), (2, .ref b15)] [] := by
      intro S21 hf
      rw [ej20] at hf
      refine r_aload_n (q := 35) C 0 dX3_readCassette_34 rfl rfl ?_
      obtain ⟨_u, S23, h22, hf⟩ := m_bw_of hf
      refine r_callV (mc := 0) (ms := 0) (q := 38) (st1 := []) C (c_X3_readToken hl h22) rfl w_314 w_315 w_1296 w_3 w_316 hd_X3_readToken rfl (by decide) g1 rfl rfl rfl ⟨(Nat.le_of_ble_eq_true rfl), (Nat.le_of_ble_eq_true rfl)⟩ (Nat.le_of_ble_eq_true rfl) ⟨(Nat.le_of_ble_eq_true rfl), (Nat.le_of_ble_eq_true rfl)⟩ dX3_readCassette_35 rfl rfl ?_
      refine r_aload_n (q := 39) C 1 dX3_readCassette_38 rfl rfl ?_
      obtain ⟨b24, e25, hf⟩ := m_b1_of hf
      refine gf_X3_128 (q := 42) C dX3_readCassette_39 g4 e25 rfl ?_
      refine r_aload_n (q := 43) C 0 dX3_readCassette_42 rfl rfl ?_
      refine r_aload_n (q := 44) C 0 dX3_readCassette_43 rfl rfl ?_
      obtain ⟨b26, e27, hf⟩ := m_b1_of hf
      refine gf_X3_37 (q := 47) C dX3_readCassette_44 g1 e27 rfl ?_
      refine r_aload_n (q := 48) C 1 dX3_readCassette_47 rfl rfl ?_
      refine gf_X3_143 (q := 51) C dX3_readCassette_48 g4 rfl ?_
      rcases m_bx_of hf with ⟨v30, S29, h28, hf⟩ | ⟨x31, S29, h28, hf⟩
      · refine x_okV (q := 54) (mcQ := 10) (msQ := 60) (retQ := none) (st1 := [.int v30, .ref b24]) C (c_X3_knownName hl h28) rfl w_471 w_472 w_1313 w_3 w_473 hd_X3_knownName rfl (by decide) g1 rfl rfl rfl ⟨(Nat.le_of_ble_eq_true rfl), (Nat.le_of_ble_eq_true rfl)⟩ (Nat.le_of_ble_eq_true rfl) ⟨(Nat.le_of_ble_eq_true rfl), (Nat.le_of_ble_eq_true rfl)⟩ dX3_readCassette_51 rfl (Nat.le_of_ble_eq_true rfl) (Nat.le_of_ble_eq_true rfl) rfl ?_
        obtain ⟨g32, hf⟩ := m_gd_of hf
        obtain ⟨g33, hf⟩ := m_gd_of hf
        obtain ⟨b34, e35, hf⟩ := m_b1_of hf
        refine r_aald15 (q := 55) C dX3_readCassette_54 ⟨g32, g33⟩ e35 rfl ?_
        refine r_astore_n (q := 56) (L' := [(3, .ref b34), (0, .ref a0), (1, .ref p1), (2, .ref b15)]) C dX3_readCassette_55 rfl rfl (by decide) rfl ?_
        refine r_aload_n (q := 57) C 1 dX3_readCassette_56 rfl rfl ?_
        obtain ⟨_u, S37, h36, hf⟩ := m_bw_of hf
        refine r_callV (mc := 0) (ms := 0) (q := 60) (st1 := []) C (c_X3_readToken hl h36) rfl w_314 w_315 w_1296 w_3 w_316 hd_X3_readToken rfl (by decide) g1 rfl rfl rfl ⟨(Nat.le_of_ble_eq_true rfl), (Nat.le_of_ble_eq_true rfl)⟩ (Nat.le_of_ble_eq_true rfl) ⟨(Nat.le_of_ble_eq_true rfl), (Nat.le_of_ble_eq_true rfl)⟩ dX3_readCassette_57 rfl rfl ?_
        refine r_aload_n (q := 61) C 1 dX3_readCassette_60 rfl rfl ?_
        refine r_iconst (q := 62) (v := (1 : Int32)) C dX3_readCassette_61 (by decide) rfl ?_
        refine r_sipush (q := 65) (v := (999 : Int32)) C dX3_readCassette_62 (by decide) rfl ?_
        rcases m_bx_of hf with ⟨v40, S39, h38, hf⟩ | ⟨x41, S39, h38, hf⟩
        · refine x_okV (q := 68) (mcQ := 10) (msQ := 60) (retQ := none) (st1 := [.int v40]) C (c_X3_takeNumber hl h38) rfl w_394 w_395 w_1302 w_3 w_396 hd_X3_takeNumber rfl (by decide) g1 rfl rfl rfl ⟨(Nat.le_of_ble_eq_true rfl), (Nat.le_of_ble_eq_true rfl)⟩ (Nat.le_of_ble_eq_true rfl) ⟨(Nat.le_of_ble_eq_true rfl), (Nat.le_of_ble_eq_true rfl)⟩ dX3_readCassette_65 rfl (Nat.le_of_ble_eq_true rfl) (Nat.le_of_ble_eq_true rfl) rfl ?_
          refine r_istore (q := 70) (L' := [(4, .int v40), (3, .ref b34), (0, .ref a0), (1, .ref p1), (2, .ref b15)]) C dX3_readCassette_68 rfl (by decide) rfl ?_
          refine r_aload_n (q := 71) C 2 dX3_readCassette_70 rfl rfl ?_
          refine r_iconst (q := 72) (v := (0 : Int32)) C dX3_readCassette_71 (by decide) rfl ?_
          refine r_sipush (q := 75) (v := (1000 : Int32)) C dX3_readCassette_72 (by decide) rfl ?_
          rcases m_bx_of hf with ⟨v44, S43, h42, hf⟩ | ⟨x45, S43, h42, hf⟩
          · refine x_okV (q := 78) (mcQ := 10) (msQ := 60) (retQ := none) (st1 := [.int v44]) C (c_X3_takeNumber hl h42) rfl w_394 w_395 w_1302 w_3 w_396 hd_X3_takeNumber rfl (by decide) g1 rfl rfl rfl ⟨(Nat.le_of_ble_eq_true rfl), (Nat.le_of_ble_eq_true rfl)⟩ (Nat.le_of_ble_eq_true rfl) ⟨(Nat.le_of_ble_eq_true rfl), (Nat.le_of_ble_eq_true rfl)⟩ dX3_readCassette_75 rfl (Nat.le_of_ble_eq_true rfl) (Nat.le_of_ble_eq_true rfl) rfl ?_
            refine r_istore (q := 80) (L' := [(5, .int v44), (4, .int v40), (3, .ref b34), (0, .ref a0), (1, .ref p1), (2, .ref b15)]) C dX3_readCassette_78 rfl (by decide) rfl ?_
            refine r_aload_n (q := 81) C 3 dX3_readCassette_80 rfl rfl ?_
            rcases m_bx_of hf with ⟨_u, S47, h46, hf⟩ | ⟨x48, S47, h46, hf⟩
            · refine x_okV (q := 84) (mcQ := 10) (msQ := 60) (retQ := none) (st1 := []) C (c_X3_takeSemicolon hl h46) rfl w_397 w_398 w_1303 w_3 w_399 hd_X3_takeSemicolon rfl (by decide) g1 rfl rfl rfl ⟨(Nat.le_of_ble_eq_true rfl), (Nat.le_of_ble_eq_true rfl)⟩ (Nat.le_of_ble_eq_true rfl) ⟨(Nat.le_of_ble_eq_true rfl), (Nat.le_of_ble_eq_true rfl)⟩ dX3_readCassette_81 rfl (Nat.le_of_ble_eq_true rfl) (Nat.le_of_ble_eq_true rfl) rfl ?_
              refine r_aload_n (q := 85) C 5 dX3_readCassette_84 rfl rfl ?_
              refine r_aload_n (q := 86) C 4 dX3_readCassette_85 rfl rfl ?_
              refine gf_X3_182 (q := 89) C dX3_readCassette_86 g4 rfl ?_
              refine r_aload_n (q := 90) C 2 dX3_readCassette_89 rfl rfl ?_
              refine r_iload (q := 92) C 1 dX3_readCassette_90 rfl rfl ?_
              refine r_aload_n (q := 93) C 2 dX3_readCassette_92 rfl rfl ?_
              refine r_iload (q := 95) C 0 dX3_readCassette_93 rfl rfl ?_
              refine r_iload (q := 97) C 1 dX3_readCassette_95 rfl rfl ?_
              obtain ⟨g49, hf⟩ := m_gd_of hf
              obtain ⟨v51, h50, hf⟩ := m_b1_of hf
              refine r_callV (mc := 0) (ms := 0) (q := 100) (st1 := [.int v51, .int v40, .ref b34, .int (S47.1 p1 10), .ref b15]) C (c_X1_moistureAt hl h50) rfl w_478 w_479 w_480 w_5 w_481 hd_X1_moistureAt rfl (by decide) g49 rfl rfl rfl ⟨(Nat.le_of_ble_eq_true rfl), (Nat.le_of_ble_eq_true rfl)⟩ (Nat.le_of_ble_eq_true rfl) ⟨(Nat.le_of_ble_eq_true rfl), (Nat.le_of_ble_eq_true rfl)⟩ dX3_readCassette_97 rfl rfl ?_
              obtain ⟨_u, S53, h52, hf⟩ := m_bw_of hf
              refine r_callV (mc := 0) (ms := 0) (q := 103) (st1 := []) C (c_X7_put hl h52) rfl w_489 w_490 w_491 w_6 w_492 hd_X7_put rfl (by decide) g17 rfl rfl rfl ⟨(Nat.le_of_ble_eq_true rfl), (Nat.le_of_ble_eq_true rfl)⟩ (Nat.le_of_ble_eq_true rfl) ⟨(Nat.le_of_ble_eq_true rfl), (Nat.le_of_ble_eq_true rfl)⟩ dX3_readCassette_100 rfl rfl ?_
              refine r_aload_n (q := 104) C 4 dX3_readCassette_103 rfl rfl ?_
              refine r_dup (q := 105) C dX3_readCassette_104 rfl rfl ?_
              refine gf_X3_182 (q := 108) C dX3_readCassette_105 g4 rfl ?_
              refine r_iconst (q := 109) (v := (1 : Int32)) C dX3_readCassette_108 (by decide) rfl ?_
              refine r_iadd (q := 110) C dX3_readCassette_109 rfl ?_
              obtain ⟨S54, e55, hf⟩ := m_lt_of hf
              refine pf_X3_182 (q := 113) C dX3_readCassette_110 g4 e55 rfl ?_
              obtain ⟨rfl, rfl⟩ := m_so2 hf
              exact x_vret C F (Nat.le_of_ble_eq_true rfl) (Nat.le_of_ble_eq_true rfl) dX3_readCassette_113
            · obtain ⟨rfl, rfl⟩ := Prod.mk.inj hf
              exact x_erV C (c_X3_takeSemicolon hl h46) F rfl w_397 w_398 w_1303 w_3 w_399 hd_X3_takeSemicolon rfl (by decide) g1 rfl rfl rfl ⟨(Nat.le_of_ble_eq_true rfl), (Nat.le_of_ble_eq_true rfl)⟩ (Nat.le_of_ble_eq_true rfl) ⟨(Nat.le_of_ble_eq_true rfl), (Nat.le_of_ble_eq_true rfl)⟩ dX3_readCassette_81 rfl (Nat.le_of_ble_eq_true rfl) (Nat.le_of_ble_eq_true rfl)
          · obtain ⟨rfl, rfl⟩ := Prod.mk.inj hf
            exact x_erV C (c_X3_takeNumber hl h42) F rfl w_394 w_395 w_1302 w_3 w_396 hd_X3_takeNumber rfl (by decide) g1 rfl rfl rfl ⟨(Nat.le_of_ble_eq_true rfl), (Nat.le_of_ble_eq_true rfl)⟩ (Nat.le_of_ble_eq_true rfl) ⟨(Nat.le_of_ble_eq_true rfl), (Nat.le_of_ble_eq_true rfl)⟩ dX3_readCassette_75 rfl (Nat.le_of_ble_eq_true rfl) (Nat.le_of_ble_eq_true rfl)
        · obtain ⟨rfl, rfl⟩ := Prod.mk.inj hf
          exact x_erV C (c_X3_takeNumber hl h38) F rfl w_394 w_395 w_1302 w_3 w_396 hd_X3_takeNumber rfl (by decide) g1 rfl rfl rfl ⟨(Nat.le_of_ble_eq_true rfl), (Nat.le_of_ble_eq_true rfl)⟩ (Nat.le_of_ble_eq_true rfl) ⟨(Nat.le_of_ble_eq_true rfl), (Nat.le_of_ble_eq_true rfl)⟩ dX3_readCassette_65 rfl (Nat.le_of_ble_eq_true rfl) (Nat.le_of_ble_eq_true rfl)
      · obtain ⟨rfl, rfl⟩ := Prod.mk.inj hf
        exact x_erV C (c_X3_knownName hl h28) F rfl w_471 w_472 w_1313 w_3 w_473 hd_X3_knownName rfl (by decide) g1 rfl rfl rfl ⟨(Nat.le_of_ble_eq_true rfl), (Nat.le_of_ble_eq_true rfl)⟩ (Nat.le_of_ble_eq_true rfl) ⟨(Nat.le_of_ble_eq_true rfl), (Nat.le_of_ble_eq_true rfl)⟩ dX3_readCassette_51 rfl (Nat.le_of_ble_eq_true rfl) (Nat.le_of_ble_eq_true rfl)
    refine r_if_eq (t := 34) (q := 29) C dX3_readCassette_26 (by decide) rfl (fun c56 => ?_) (fun c56 => ?_)
    · replace hf := m_if1 hf c56
      refine r_sub [1, 2, 0] rfl ?_
      refine r_wid (k' := 3) (n' := 18) (by omega) (by omega) ?_
      exact J20 S10 hf
    · replace hf := m_if0 hf c56
      refine r_aload_n (q := 30) C 1 dX3_readCassette_29 rfl rfl ?_
      refine r_iconst (q := 31) (v := (4 : Int32)) C dX3_readCassette_30 (by decide) rfl ?_
      rcases m_bx_of hf with ⟨_u, S58, h57, hf⟩ | ⟨x59, S58, h57, hf⟩
      · refine x_okV (q := 34) (mcQ := 10) (msQ := 60) (retQ := none) (st1 := []) C (c_X3_fail hl h57) rfl w_378 w_379 w_1301 w_3 w_380 hd_X3_fail rfl (by decide) g1 rfl rfl rfl ⟨(Nat.le_of_ble_eq_true rfl), (Nat.le_of_ble_eq_true rfl)⟩ (Nat.le_of_ble_eq_true rfl) ⟨(Nat.le_of_ble_eq_true rfl), (Nat.le_of_ble_eq_true rfl)⟩ dX3_readCassette_31 rfl (Nat.le_of_ble_eq_true rfl) (Nat.le_of_ble_eq_true rfl) rfl ?_
        refine r_sub [1, 2, 0] rfl ?_
        exact J20 S58 hf
      · obtain ⟨rfl, rfl⟩ := Prod.mk.inj hf
        exact x_erV C (c_X3_fail hl h57) F rfl w_378 w_379 w_1301 w_3 w_380 hd_X3_fail rfl (by decide) g1 rfl rfl rfl ⟨(Nat.le_of_ble_eq_true rfl), (Nat.le_of_ble_eq_true rfl)⟩ (Nat.le_of_ble_eq_true rfl) ⟨(Nat.le_of_ble_eq_true rfl), (Nat.le_of_ble_eq_true rfl)⟩ dX3_readCassette_31 rfl (Nat.le_of_ble_eq_true rfl) (Nat.le_of_ble_eq_true rfl)
  · obtain ⟨rfl, rfl⟩ := Prod.mk.inj hf
    exact x_erV C (c_X3_knownName hl h9) F rfl w_471 w_472 w_1313 w_3 w_473 hd_X3_knownName rfl (by decide) g1 rfl rfl rfl ⟨(Nat.le_of_ble_eq_true rfl), (Nat.le_of_ble_eq_true rfl)⟩ (Nat.le_of_ble_eq_true rfl) ⟨(Nat.le_of_ble_eq_true rfl), (Nat.le_of_ble_eq_true rfl)⟩ dX3_readCassette_17 rfl (Nat.le_of_ble_eq_true rfl) (Nat.le_of_ble_eq_true rfl)
def f_X3_takeWord (Z : m_Z) (S : m_S) (a0 : Nat) (p1 : Nat) : Option ((Except String Unit) × m_S) := m_gd (m_ok Z a0 3) (m_b1 (f_X3_at Z S a0 p1) (fun v3 => (if ¬ v3 = 0 then m_bw (f_X3_readToken Z S a0) (fun _u S6 => some ((.ok ()), S6)) else m_bx (f_X3_fail Z S a0 (1 : Int32)) (fun _u S8 => m_bw (f_X3_readToken Z S8 a0) (fun _u S11 => some ((.ok ()), S11))))))
abbrev rm_X3_takeWord : Room := { frames := 7, cells := 1, slots := 6, locals := 142 }
theorem hd_X3_takeWord : yX3_takeWord.cls = RX3 ∧ yX3_takeWord.cls ≠ "java/lang/invoke/MethodHandle" ∧ yX3_takeWord.cls ≠ "java/lang/invoke/VarHandle" ∧ (parseMethodDescriptor yX3_takeWord.desc).map (fun d => d.parameters.length) = some 1 := by decide +kernel
set_option maxHeartbeats 4000000 in
set_option maxRecDepth 100000 in
theorem c_X3_takeWord {l : Launch} (hl : l.stackTraces = false) {Z : m_Z} {S : m_S} {a0 : Nat} {p1 : Nat} {rZ9 : Except String Unit} {SZ9 : m_S} (hf : f_X3_takeWord Z S a0 p1 = some (rZ9, SZ9)) : m_Cx l yX3_takeWord (.code yX3_takeWord cX3_takeWord 2 none :: m_ws) rm_X3_takeWord 1 6 (fun f => [.ref a0, .ref (f p1)]) Z S (m_rv (fun _ => none) rZ9) SZ9 := by
  unfold f_X3_takeWord at hf
  refine m_entX hl (by decide) (fun _ => Nat.le_of_ble_eq_true rfl) (fun x C F => ?_)
  have C : m_H x l RX3 cX3_takeWord 2 rm_X3_takeWord := C
  show m_G x Z S 2 0 0 0 [(0, .ref a0), (1, .ref (m_K x p1))] []
  refine r_aload_n (q := 1) C 0 dX3_takeWord_0 rfl rfl ?_
  refine r_aload_n (q := 2) C 1 dX3_takeWord_1 rfl rfl ?_
  obtain ⟨g1, hf⟩ := m_gd_of hf
  obtain ⟨v3, h2, hf⟩ := m_b1_of hf
  refine r_callV (mc := 0) (ms := 0) (q := 5) (st1 := [.int v3]) C (c_X3_at hl h2) rfl w_332 w_333 w_1300 w_3 w_334 hd_X3_at rfl (by decide) g1 rfl rfl rfl ⟨(Nat.le_of_ble_eq_true rfl), (Nat.le_of_ble_eq_true rfl)⟩ (Nat.le_of_ble_eq_true rfl) ⟨(Nat.le_of_ble_eq_true rfl), (Nat.le_of_ble_eq_true rfl)⟩ dX3_takeWord_2 rfl rfl ?_
  refine r_if_ne (t := 13) (q := 8) C dX3_takeWord_5 (by decide) rfl (fun c4 => ?_) (fun c4 => ?_)
  · replace hf := m_if1 hf c4
    refine r_aload_n (q := 14) C 0 dX3_takeWord_13 rfl rfl ?_
    obtain ⟨_u, S6, h5, hf⟩ := m_bw_of hf
    refine r_callV (mc := 0) (ms := 0) (q := 17) (st1 := []) C (c_X3_readToken hl h5) rfl w_314 w_315 w_1296 w_3 w_316 hd_X3_readToken rfl (by decide) g1 rfl rfl rfl ⟨(Nat.le_of_ble_eq_true rfl), (Nat.le_of_ble_eq_true rfl)⟩ (Nat.le_of_ble_eq_true rfl) ⟨(Nat.le_of_ble_eq_true rfl), (Nat.le_of_ble_eq_true rfl)⟩ dX3_takeWord_14 rfl rfl ?_
    obtain ⟨rfl, rfl⟩ := m_so2 hf
    exact x_vret C F (Nat.le_of_ble_eq_true rfl) (Nat.le_of_ble_eq_true rfl) dX3_takeWord_17
  · replace hf := m_if0 hf (fun z => z c4)
    refine r_aload_n (q := 9) C 0 dX3_takeWord_8 rfl rfl ?_
    refine r_iconst (q := 10) (v := (1 : Int32)) C dX3_takeWord_9 (by decide) rfl ?_
    rcases m_bx_of hf with ⟨_u, S8, h7, hf⟩ | ⟨x9, S8, h7, hf⟩
    · refine x_okV (q := 13) (mcQ := 1) (msQ := 6) (retQ := none) (st1 := []) C (c_X3_fail hl h7) rfl w_378 w_379 w_1301 w_3 w_380 hd_X3_fail rfl (by decide) g1 rfl rfl rfl ⟨(Nat.le_of_ble_eq_true rfl), (Nat.le_of_ble_eq_true rfl)⟩ (Nat.le_of_ble_eq_true rfl) ⟨(Nat.le_of_ble_eq_true rfl), (Nat.le_of_ble_eq_true rfl)⟩ dX3_takeWord_10 rfl (Nat.le_of_ble_eq_true rfl) (Nat.le_of_ble_eq_true rfl) rfl ?_
      refine r_aload_n (q := 14) C 0 dX3_takeWord_13 rfl rfl ?_
      obtain ⟨_u, S11, h10, hf⟩ := m_bw_of hf
      refine r_callV (mc := 0) (ms := 0) (q := 17) (st1 := []) C (c_X3_readToken hl h10) rfl w_314 w_315 w_1296 w_3 w_316 hd_X3_readToken rfl (by decide) g1 rfl rfl rfl ⟨(Nat.le_of_ble_eq_true rfl), (Nat.le_of_ble_eq_true rfl)⟩ (Nat.le_of_ble_eq_true rfl) ⟨(Nat.le_of_ble_eq_true rfl), (Nat.le_of_ble_eq_true rfl)⟩ dX3_takeWord_14 rfl rfl ?_
      obtain ⟨rfl, rfl⟩ := m_so2 hf
      exact x_vret C F (Nat.le_of_ble_eq_true rfl) (Nat.le_of_ble_eq_true rfl) dX3_takeWord_17
    · obtain ⟨rfl, rfl⟩ := Prod.mk.inj hf
      exact x_erV C (c_X3_fail hl h7) F rfl w_378 w_379 w_1301 w_3 w_380 hd_X3_fail rfl (by decide) g1 rfl rfl rfl ⟨(Nat.le_of_ble_eq_true rfl), (Nat.le_of_ble_eq_true rfl)⟩ (Nat.le_of_ble_eq_true rfl) ⟨(Nat.le_of_ble_eq_true rfl), (Nat.le_of_ble_eq_true rfl)⟩ dX3_takeWord_10 rfl (Nat.le_of_ble_eq_true rfl) (Nat.le_of_ble_eq_true rfl)
def f_X3_readMuseum (Z : m_Z) (S : m_S) (a0 : Nat) (p1 : Nat) : Option ((Except String Unit) × m_S) := m_gd (m_ok Z a0 3) (m_bx (f_X3_takeWord Z S a0 0) (fun _u S3 => m_bx (f_X3_takeNumber Z S3 a0 (0 : Int32) (999 : Int32)) (fun v7 S6 => m_gd (m_ok Z p1 5) (m_lt (m_pI S6 p1 0 v7) (fun S10 => m_bx (f_X3_takeNumber Z S10 a0 (0 : Int32) (99 : Int32)) (fun v14 S13 => m_lt (m_pI S13 p1 1 v14) (fun S16 => m_bx (f_X3_takeSemicolon Z S16 a0) (fun _u S19 => some ((.ok ()), S19)))))))))
abbrev rm_X3_readMuseum : Room := { frames := 8, cells := 6, slots := 36, locals := 163 }
theorem hd_X3_readMuseum : yX3_readMuseum.cls = RX3 ∧ yX3_readMuseum.cls ≠ "java/lang/invoke/MethodHandle" ∧ yX3_readMuseum.cls ≠ "java/lang/invoke/VarHandle" ∧ (parseMethodDescriptor yX3_readMuseum.desc).map (fun d => d.parameters.length) = some 1 := by decide +kernel
set_option maxHeartbeats 4000000 in
set_option maxRecDepth 100000 in
theorem c_X3_readMuseum {l : Launch} (hl : l.stackTraces = false) {Z : m_Z} {S : m_S} {a0 : Nat} {p1 : Nat} {rZ9 : Except String Unit} {SZ9 : m_S} (hf : f_X3_readMuseum Z S a0 p1 = some (rZ9, SZ9)) : m_Cx l yX3_readMuseum (.code yX3_readMuseum cX3_readMuseum 2 none :: m_ws) rm_X3_readMuseum 6 36 (fun f => [.ref a0, .ref p1]) Z S (m_rv (fun _ => none) rZ9) SZ9 := by
  unfold f_X3_readMuseum at hf
  refine m_entX hl (by decide) (fun _ => Nat.le_of_ble_eq_true rfl) (fun x C F => ?_)
  have C : m_H x l RX3 cX3_readMuseum 2 rm_X3_readMuseum := C
  show m_G x Z S 2 0 0 0 [(0, .ref a0), (1, .ref p1)] []
  refine r_aload_n (q := 1) C 0 dX3_readMuseum_0 rfl rfl ?_
  refine r_ldcS (q := 3) (tx := "museum") (t := 0) C (by decide +kernel) dX3_readMuseum_1 rfl ?_
  obtain ⟨g1, hf⟩ := m_gd_of hf
  rcases m_bx_of hf with ⟨_u, S3, h2, hf⟩ | ⟨x4, S3, h2, hf⟩
  · refine x_okV (q := 6) (mcQ := 6) (msQ := 36) (retQ := none) (st1 := []) C (c_X3_takeWord hl h2) rfl w_329 w_330 w_1299 w_3 w_331 hd_X3_takeWord rfl (by decide) g1 rfl rfl rfl ⟨(Nat.le_of_ble_eq_true rfl), (Nat.le_of_ble_eq_true rfl)⟩ (Nat.le_of_ble_eq_true rfl) ⟨(Nat.le_of_ble_eq_true rfl), (Nat.le_of_ble_eq_true rfl)⟩ dX3_readMuseum_3 rfl (Nat.le_of_ble_eq_true rfl) (Nat.le_of_ble_eq_true rfl) rfl ?_
    refine r_aload_n (q := 7) C 1 dX3_readMuseum_6 rfl rfl ?_
    refine r_aload_n (q := 8) C 0 dX3_readMuseum_7 rfl rfl ?_
    refine r_iconst (q := 9) (v := (0 : Int32)) C dX3_readMuseum_8 (by decide) rfl ?_
    refine r_sipush (q := 12) (v := (999 : Int32)) C dX3_readMuseum_9 (by decide) rfl ?_
    rcases m_bx_of hf with ⟨v7, S6, h5, hf⟩ | ⟨x8, S6, h5, hf⟩
    · refine x_okV (q := 15) (mcQ := 6) (msQ := 36) (retQ := none) (st1 := [.int v7, .ref p1]) C (c_X3_takeNumber hl h5) rfl w_394 w_395 w_1302 w_3 w_396 hd_X3_takeNumber rfl (by decide) g1 rfl rfl rfl ⟨(Nat.le_of_ble_eq_true rfl), (Nat.le_of_ble_eq_true rfl)⟩ (Nat.le_of_ble_eq_true rfl) ⟨(Nat.le_of_ble_eq_true rfl), (Nat.le_of_ble_eq_true rfl)⟩ dX3_readMuseum_12 rfl (Nat.le_of_ble_eq_true rfl) (Nat.le_of_ble_eq_true rfl) rfl ?_
      obtain ⟨g9, hf⟩ := m_gd_of hf
      obtain ⟨S10, e11, hf⟩ := m_lt_of hf
      refine pf_X3_103 (q := 18) C dX3_readMuseum_15 g9 e11 rfl ?_
      refine r_aload_n (q := 19) C 1 dX3_readMuseum_18 rfl rfl ?_
      refine r_aload_n (q := 20) C 0 dX3_readMuseum_19 rfl rfl ?_
      refine r_iconst (q := 21) (v := (0 : Int32)) C dX3_readMuseum_20 (by decide) rfl ?_
      refine r_bipush (q := 23) (v := (99 : Int32)) C dX3_readMuseum_21 (by decide) rfl ?_
      rcases m_bx_of hf with ⟨v14, S13, h12, hf⟩ | ⟨x15, S13, h12, hf⟩
      · refine x_okV (q := 26) (mcQ := 6) (msQ := 36) (retQ := none) (st1 := [.int v14, .ref p1]) C (c_X3_takeNumber hl h12) rfl w_394 w_395 w_1302 w_3 w_396 hd_X3_takeNumber rfl (by decide) g1 rfl rfl rfl ⟨(Nat.le_of_ble_eq_true rfl), (Nat.le_of_ble_eq_true rfl)⟩ (Nat.le_of_ble_eq_true rfl) ⟨(Nat.le_of_ble_eq_true rfl), (Nat.le_of_ble_eq_true rfl)⟩ dX3_readMuseum_23 rfl (Nat.le_of_ble_eq_true rfl) (Nat.le_of_ble_eq_true rfl) rfl ?_
        obtain ⟨S16, e17, hf⟩ := m_lt_of hf
        refine pf_X3_106 (q := 29) C dX3_readMuseum_26 g9 e17 rfl ?_
        refine r_aload_n (q := 30) C 0 dX3_readMuseum_29 rfl rfl ?_
        rcases m_bx_of hf with ⟨_u, S19, h18, hf⟩ | ⟨x20, S19, h18, hf⟩
        · refine x_okV (q := 33) (mcQ := 6) (msQ := 36) (retQ := none) (st1 := []) C (c_X3_takeSemicolon hl h18) rfl w_397 w_398 w_1303 w_3 w_399 hd_X3_takeSemicolon rfl (by decide) g1 rfl rfl rfl ⟨(Nat.le_of_ble_eq_true rfl), (Nat.le_of_ble_eq_true rfl)⟩ (Nat.le_of_ble_eq_true rfl) ⟨(Nat.le_of_ble_eq_true rfl), (Nat.le_of_ble_eq_true rfl)⟩ dX3_readMuseum_30 rfl (Nat.le_of_ble_eq_true rfl) (Nat.le_of_ble_eq_true rfl) rfl ?_
          obtain ⟨rfl, rfl⟩ := m_so2 hf
          exact x_vret C F (Nat.le_of_ble_eq_true rfl) (Nat.le_of_ble_eq_true rfl) dX3_readMuseum_33
        · obtain ⟨rfl, rfl⟩ := Prod.mk.inj hf
          exact x_erV C (c_X3_takeSemicolon hl h18) F rfl w_397 w_398 w_1303 w_3 w_399 hd_X3_takeSemicolon rfl (by decide) g1 rfl rfl rfl ⟨(Nat.le_of_ble_eq_true rfl), (Nat.le_of_ble_eq_true rfl)⟩ (Nat.le_of_ble_eq_true rfl) ⟨(Nat.le_of_ble_eq_true rfl), (Nat.le_of_ble_eq_true rfl)⟩ dX3_readMuseum_30 rfl (Nat.le_of_ble_eq_true rfl) (Nat.le_of_ble_eq_true rfl)
      · obtain ⟨rfl, rfl⟩ := Prod.mk.inj hf
        exact x_erV C (c_X3_takeNumber hl h12) F rfl w_394 w_395 w_1302 w_3 w_396 hd_X3_takeNumber rfl (by decide) g1 rfl rfl rfl ⟨(Nat.le_of_ble_eq_true rfl), (Nat.le_of_ble_eq_true rfl)⟩ (Nat.le_of_ble_eq_true rfl) ⟨(Nat.le_of_ble_eq_true rfl), (Nat.le_of_ble_eq_true rfl)⟩ dX3_readMuseum_23 rfl (Nat.le_of_ble_eq_true rfl) (Nat.le_of_ble_eq_true rfl)
    · obtain ⟨rfl, rfl⟩ := Prod.mk.inj hf
      exact x_erV C (c_X3_takeNumber hl h5) F rfl w_394 w_395 w_1302 w_3 w_396 hd_X3_takeNumber rfl (by decide) g1 rfl rfl rfl ⟨(Nat.le_of_ble_eq_true rfl), (Nat.le_of_ble_eq_true rfl)⟩ (Nat.le_of_ble_eq_true rfl) ⟨(Nat.le_of_ble_eq_true rfl), (Nat.le_of_ble_eq_true rfl)⟩ dX3_readMuseum_12 rfl (Nat.le_of_ble_eq_true rfl) (Nat.le_of_ble_eq_true rfl)
  · obtain ⟨rfl, rfl⟩ := Prod.mk.inj hf
    exact x_erV C (c_X3_takeWord hl h2) F rfl w_329 w_330 w_1299 w_3 w_331 hd_X3_takeWord rfl (by decide) g1 rfl rfl rfl ⟨(Nat.le_of_ble_eq_true rfl), (Nat.le_of_ble_eq_true rfl)⟩ (Nat.le_of_ble_eq_true rfl) ⟨(Nat.le_of_ble_eq_true rfl), (Nat.le_of_ble_eq_true rfl)⟩ dX3_readMuseum_3 rfl (Nat.le_of_ble_eq_true rfl) (Nat.le_of_ble_eq_true rfl)
def f_X3_readSeason (Z : m_Z) (S : m_S) (a0 : Nat) (p1 : Nat) : Option ((Except String Unit) × m_S) := m_gd (m_ok Z a0 3) (m_bw (f_X3_readToken Z S a0) (fun _u S3 => m_gd (m_ok Z p1 5) (m_b1 (f_X5_nextDay Z S3 p1) (fun v6 => m_bx (f_X3_takeNumber Z S3 a0 v6 (364 : Int32)) (fun v9 S8 => m_bx (f_X3_takeNumber Z S8 a0 (0 : Int32) (1000 : Int32)) (fun v13 S12 => m_bx (f_X3_takeSemicolon Z S12 a0) (fun _u S16 => m_bw (f_X5_addSeason Z S16 p1 v9 v13) (fun _u S19 => some ((.ok ()), S19)))))))))
abbrev rm_X3_readSeason : Room := { frames := 8, cells := 5, slots := 30, locals := 126 }
theorem hd_X3_readSeason : yX3_readSeason.cls = RX3 ∧ yX3_readSeason.cls ≠ "java/lang/invoke/MethodHandle" ∧ yX3_readSeason.cls ≠ "java/lang/invoke/VarHandle" ∧ (parseMethodDescriptor yX3_readSeason.desc).map (fun d => d.parameters.length) = some 1 := by decide +kernel
set_option maxHeartbeats 4000000 in
set_option maxRecDepth 100000 in
theorem c_X3_readSeason {l : Launch} (hl : l.stackTraces = false) {Z : m_Z} {S : m_S} {a0 : Nat} {p1 : Nat} {rZ9 : Except String Unit} {SZ9 : m_S} (hf : f_X3_readSeason Z S a0 p1 = some (rZ9, SZ9)) : m_Cx l yX3_readSeason (.code yX3_readSeason cX3_readSeason 4 none :: m_ws) rm_X3_readSeason 5 30 (fun f => [.ref a0, .ref p1]) Z S (m_rv (fun _ => none) rZ9) SZ9 := by
  unfold f_X3_readSeason at hf
  refine m_entX hl (by decide) (fun _ => Nat.le_of_ble_eq_true rfl) (fun x C F => ?_)
  have C : m_H x l RX3 cX3_readSeason 4 rm_X3_readSeason := C
  show m_G x Z S 4 0 0 0 [(0, .ref a0), (1, .ref p1)] []
  refine r_aload_n (q := 1) C 0 dX3_readSeason_0 rfl rfl ?_
  obtain ⟨g1, hf⟩ := m_gd_of hf
  obtain ⟨_u, S3, h2, hf⟩ := m_bw_of hf
  refine r_callV (mc := 0) (ms := 0) (q := 4) (st1 := []) C (c_X3_readToken hl h2) rfl w_314 w_315 w_1296 w_3 w_316 hd_X3_readToken rfl (by decide) g1 rfl rfl rfl ⟨(Nat.le_of_ble_eq_true rfl), (Nat.le_of_ble_eq_true rfl)⟩ (Nat.le_of_ble_eq_true rfl) ⟨(Nat.le_of_ble_eq_true rfl), (Nat.le_of_ble_eq_true rfl)⟩ dX3_readSeason_1 rfl rfl ?_
  refine r_aload_n (q := 5) C 0 dX3_readSeason_4 rfl rfl ?_
  refine r_aload_n (q := 6) C 1 dX3_readSeason_5 rfl rfl ?_
  obtain ⟨g4, hf⟩ := m_gd_of hf
  obtain ⟨v6, h5, hf⟩ := m_b1_of hf
  refine r_callV (mc := 0) (ms := 0) (q := 9) (st1 := [.int v6, .ref a0]) C (c_X5_nextDay hl h5) rfl w_403 w_404 w_405 w_4 w_406 hd_X5_nextDay rfl (by decide) g4 rfl rfl rfl ⟨(Nat.le_of_ble_eq_true rfl), (Nat.le_of_ble_eq_true rfl)⟩ (Nat.le_of_ble_eq_true rfl) ⟨(Nat.le_of_ble_eq_true rfl), (Nat.le_of_ble_eq_true rfl)⟩ dX3_readSeason_6 rfl rfl ?_
  refine r_sipush (q := 12) (v := (364 : Int32)) C dX3_readSeason_9 (by decide) rfl ?_
  rcases m_bx_of hf with ⟨v9, S8, h7, hf⟩ | ⟨x10, S8, h7, hf⟩
  · refine x_okV (q := 15) (mcQ := 5) (msQ := 30) (retQ := none) (st1 := [.int v9]) C (c_X3_takeNumber hl h7) rfl w_394 w_395 w_1302 w_3 w_396 hd_X3_takeNumber rfl (by decide) g1 rfl rfl rfl ⟨(Nat.le_of_ble_eq_true rfl), (Nat.le_of_ble_eq_true rfl)⟩ (Nat.le_of_ble_eq_true rfl) ⟨(Nat.le_of_ble_eq_true rfl), (Nat.le_of_ble_eq_true rfl)⟩ dX3_readSeason_12 rfl (Nat.le_of_ble_eq_true rfl) (Nat.le_of_ble_eq_true rfl) rfl ?_
    refine r_istore_n (q := 16) (L' := [(2, .int v9), (0, .ref a0), (1, .ref p1)]) C dX3_readSeason_15 rfl rfl (by decide) rfl ?_
    refine r_aload_n (q := 17) C 1 dX3_readSeason_16 rfl rfl ?_
    refine r_iconst (q := 18) (v := (0 : Int32)) C dX3_readSeason_17 (by decide) rfl ?_
    refine r_sipush (q := 21) (v := (1000 : Int32)) C dX3_readSeason_18 (by decide) rfl ?_
    rcases m_bx_of hf with ⟨v13, S12, h11, hf⟩ | ⟨x14, S12, h11, hf⟩
    · refine x_okV (q := 24) (mcQ := 5) (msQ := 30) (retQ := none) (st1 := [.int v13]) C (c_X3_takeNumber hl h11) rfl w_394 w_395 w_1302 w_3 w_396 hd_X3_takeNumber rfl (by decide) g1 rfl rfl rfl ⟨(Nat.le_of_ble_eq_true rfl), (Nat.le_of_ble_eq_true rfl)⟩ (Nat.le_of_ble_eq_true rfl) ⟨(Nat.le_of_ble_eq_true rfl), (Nat.le_of_ble_eq_true rfl)⟩ dX3_readSeason_21 rfl (Nat.le_of_ble_eq_true rfl) (Nat.le_of_ble_eq_true rfl) rfl ?_
      refine r_istore_n (q := 25) (L' := [(3, .int v13), (2, .int v9), (0, .ref a0), (1, .ref p1)]) C dX3_readSeason_24 rfl rfl (by decide) rfl ?_
      refine r_aload_n (q := 26) C 2 dX3_readSeason_25 rfl rfl ?_
      rcases m_bx_of hf with ⟨_u, S16, h15, hf⟩ | ⟨x17, S16, h15, hf⟩
      · refine x_okV (q := 29) (mcQ := 5) (msQ := 30) (retQ := none) (st1 := []) C (c_X3_takeSemicolon hl h15) rfl w_397 w_398 w_1303 w_3 w_399 hd_X3_takeSemicolon rfl (by decide) g1 rfl rfl rfl ⟨(Nat.le_of_ble_eq_true rfl), (Nat.le_of_ble_eq_true rfl)⟩ (Nat.le_of_ble_eq_true rfl) ⟨(Nat.le_of_ble_eq_true rfl), (Nat.le_of_ble_eq_true rfl)⟩ dX3_readSeason_26 rfl (Nat.le_of_ble_eq_true rfl) (Nat.le_of_ble_eq_true rfl) rfl ?_
        refine r_aload_n (q := 30) C 3 dX3_readSeason_29 rfl rfl ?_
        refine r_iload_n (q := 31) C 1 dX3_readSeason_30 rfl rfl ?_
        refine r_iload_n (q := 32) C 0 dX3_readSeason_31 rfl rfl ?_
        obtain ⟨_u, S19, h18, hf⟩ := m_bw_of hf
        refine r_callV (mc := 0) (ms := 0) (q := 35) (st1 := []) C (c_X5_addSeason hl h18) rfl w_407 w_408 w_409 w_4 w_410 hd_X5_addSeason rfl (by decide) g4 rfl rfl rfl ⟨(Nat.le_of_ble_eq_true rfl), (Nat.le_of_ble_eq_true rfl)⟩ (Nat.le_of_ble_eq_true rfl) ⟨(Nat.le_of_ble_eq_true rfl), (Nat.le_of_ble_eq_true rfl)⟩ dX3_readSeason_32 rfl rfl ?_
        obtain ⟨rfl, rfl⟩ := m_so2 hf
        exact x_vret C F (Nat.le_of_ble_eq_true rfl) (Nat.le_of_ble_eq_true rfl) dX3_readSeason_35
      · obtain ⟨rfl, rfl⟩ := Prod.mk.inj hf
        exact x_erV C (c_X3_takeSemicolon hl h15) F rfl w_397 w_398 w_1303 w_3 w_399 hd_X3_takeSemicolon rfl (by decide) g1 rfl rfl rfl ⟨(Nat.le_of_ble_eq_true rfl), (Nat.le_of_ble_eq_true rfl)⟩ (Nat.le_of_ble_eq_true rfl) ⟨(Nat.le_of_ble_eq_true rfl), (Nat.le_of_ble_eq_true rfl)⟩ dX3_readSeason_26 rfl (Nat.le_of_ble_eq_true rfl) (Nat.le_of_ble_eq_true rfl)
    · obtain ⟨rfl, rfl⟩ := Prod.mk.inj hf
      exact x_erV C (c_X3_takeNumber hl h11) F rfl w_394 w_395 w_1302 w_3 w_396 hd_X3_takeNumber rfl (by decide) g1 rfl rfl rfl ⟨(Nat.le_of_ble_eq_true rfl), (Nat.le_of_ble_eq_true rfl)⟩ (Nat.le_of_ble_eq_true rfl) ⟨(Nat.le_of_ble_eq_true rfl), (Nat.le_of_ble_eq_true rfl)⟩ dX3_readSeason_21 rfl (Nat.le_of_ble_eq_true rfl) (Nat.le_of_ble_eq_true rfl)
  · obtain ⟨rfl, rfl⟩ := Prod.mk.inj hf
    exact x_erV C (c_X3_takeNumber hl h7) F rfl w_394 w_395 w_1302 w_3 w_396 hd_X3_takeNumber rfl (by decide) g1 rfl rfl rfl ⟨(Nat.le_of_ble_eq_true rfl), (Nat.le_of_ble_eq_true rfl)⟩ (Nat.le_of_ble_eq_true rfl) ⟨(Nat.le_of_ble_eq_true rfl), (Nat.le_of_ble_eq_true rfl)⟩ dX3_readSeason_12 rfl (Nat.le_of_ble_eq_true rfl) (Nat.le_of_ble_eq_true rfl)
def f_X3_refuse (Z : m_Z) (S : m_S) (a0 : Nat) (p1 : Nat) : Option ((Except String Unit) × m_S) := m_gd (m_ok Z a0 3) (m_b1 (f_X3_at Z S a0 p1) (fun v3 => (if v3 = 0 then some ((.ok ()), S) else m_bx (f_X3_fail Z S a0 (4 : Int32)) (fun _u S6 => some ((.ok ()), S6)))))
abbrev rm_X3_refuse : Room := { frames := 7, cells := 1, slots := 6, locals := 142 }
theorem hd_X3_refuse : yX3_refuse.cls = RX3 ∧ yX3_refuse.cls ≠ "java/lang/invoke/MethodHandle" ∧ yX3_refuse.cls ≠ "java/lang/invoke/VarHandle" ∧ (parseMethodDescriptor yX3_refuse.desc).map (fun d => d.parameters.length) = some 1 := by decide +kernel
set_option maxHeartbeats 4000000 in
set_option maxRecDepth 100000 in
theorem c_X3_refuse {l : Launch} (hl : l.stackTraces = false) {Z : m_Z} {S : m_S} {a0 : Nat} {p1 : Nat} {rZ9 : Except String Unit} {SZ9 : m_S} (hf : f_X3_refuse Z S a0 p1 = some (rZ9, SZ9)) : m_Cx l yX3_refuse (.code yX3_refuse cX3_refuse 2 none :: m_ws) rm_X3_refuse 1 6 (fun f => [.ref a0, .ref (f p1)]) Z S (m_rv (fun _ => none) rZ9) SZ9 := by
  unfold f_X3_refuse at hf
  refine m_entX hl (by decide) (fun _ => Nat.le_of_ble_eq_true rfl) (fun x C F => ?_)
  have C : m_H x l RX3 cX3_refuse 2 rm_X3_refuse := C
  show m_G x Z S 2 0 0 0 [(0, .ref a0), (1, .ref (m_K x p1))] []
  refine r_aload_n (q := 1) C 0 dX3_refuse_0 rfl rfl ?_
  refine r_aload_n (q := 2) C 1 dX3_refuse_1 rfl rfl ?_
  obtain ⟨g1, hf⟩ := m_gd_of hf
  obtain ⟨v3, h2, hf⟩ := m_b1_of hf
  refine r_callV (mc := 0) (ms := 0) (q := 5) (st1 := [.int v3]) C (c_X3_at hl h2) rfl w_332 w_333 w_1300 w_3 w_334 hd_X3_at rfl (by decide) g1 rfl rfl rfl ⟨(Nat.le_of_ble_eq_true rfl), (Nat.le_of_ble_eq_true rfl)⟩ (Nat.le_of_ble_eq_true rfl) ⟨(Nat.le_of_ble_eq_true rfl), (Nat.le_of_ble_eq_true rfl)⟩ dX3_refuse_2 rfl rfl ?_
  refine r_if_eq (t := 13) (q := 8) C dX3_refuse_5 (by decide) rfl (fun c4 => ?_) (fun c4 => ?_)
  · replace hf := m_if1 hf c4
    obtain ⟨rfl, rfl⟩ := m_so2 hf
    exact x_vret C F (Nat.le_of_ble_eq_true rfl) (Nat.le_of_ble_eq_true rfl) dX3_refuse_13
  · replace hf := m_if0 hf c4
    refine r_aload_n (q := 9) C 0 dX3_refuse_8 rfl rfl ?_
    refine r_iconst (q := 10) (v := (4 : Int32)) C dX3_refuse_9 (by decide) rfl ?_
    rcases m_bx_of hf with ⟨_u, S6, h5, hf⟩ | ⟨x7, S6, h5, hf⟩
    · refine x_okV (q := 13) (mcQ := 1) (msQ := 6) (retQ := none) (st1 := []) C (c_X3_fail hl h5) rfl w_378 w_379 w_1301 w_3 w_380 hd_X3_fail rfl (by decide) g1 rfl rfl rfl ⟨(Nat.le_of_ble_eq_true rfl), (Nat.le_of_ble_eq_true rfl)⟩ (Nat.le_of_ble_eq_true rfl) ⟨(Nat.le_of_ble_eq_true rfl), (Nat.le_of_ble_eq_true rfl)⟩ dX3_refuse_10 rfl (Nat.le_of_ble_eq_true rfl) (Nat.le_of_ble_eq_true rfl) rfl ?_
      obtain ⟨rfl, rfl⟩ := m_so2 hf
      exact x_vret C F (Nat.le_of_ble_eq_true rfl) (Nat.le_of_ble_eq_true rfl) dX3_refuse_13
    · obtain ⟨rfl, rfl⟩ := Prod.mk.inj hf
      exact x_erV C (c_X3_fail hl h5) F rfl w_378 w_379 w_1301 w_3 w_380 hd_X3_fail rfl (by decide) g1 rfl rfl rfl ⟨(Nat.le_of_ble_eq_true rfl), (Nat.le_of_ble_eq_true rfl)⟩ (Nat.le_of_ble_eq_true rfl) ⟨(Nat.le_of_ble_eq_true rfl), (Nat.le_of_ble_eq_true rfl)⟩ dX3_refuse_10 rfl (Nat.le_of_ble_eq_true rfl) (Nat.le_of_ble_eq_true rfl)
def f_X3_readVisitors (Z : m_Z) (S : m_S) (a0 : Nat) (p1 : Nat) : Option ((Except String Unit) × m_S) := m_gd (m_ok Z a0 3) (m_bw (f_X3_readToken Z S a0) (fun _u S3 => m_bx (f_X3_takeNumber Z S3 a0 (0 : Int32) (23 : Int32)) (fun v6 S5 => m_bx (f_X3_takeNumber Z S5 a0 v6 (23 : Int32)) (fun v10 S9 => m_bx (f_X3_takeNumber Z S9 a0 (0 : Int32) (999 : Int32)) (fun v14 S13 => m_bx (f_X3_takeSemicolon Z S13 a0) (fun _u S17 => m_gd (m_ok Z p1 5) (m_bw (f_X5_addVisitors Z S17 p1 v6 v10 v14) (fun _u S21 => some ((.ok ()), S21)))))))))
abbrev rm_X3_readVisitors : Room := { frames := 8, cells := 7, slots := 42, locals := 126 }
theorem hd_X3_readVisitors : yX3_readVisitors.cls = RX3 ∧ yX3_readVisitors.cls ≠ "java/lang/invoke/MethodHandle" ∧ yX3_readVisitors.cls ≠ "java/lang/invoke/VarHandle" ∧ (parseMethodDescriptor yX3_readVisitors.desc).map (fun d => d.parameters.length) = some 1 := by decide +kernel
set_option maxHeartbeats 4000000 in
set_option maxRecDepth 100000 in
theorem c_X3_readVisitors {l : Launch} (hl : l.stackTraces = false) {Z : m_Z} {S : m_S} {a0 : Nat} {p1 : Nat} {rZ9 : Except String Unit} {SZ9 : m_S} (hf : f_X3_readVisitors Z S a0 p1 = some (rZ9, SZ9)) : m_Cx l yX3_readVisitors (.code yX3_readVisitors cX3_readVisitors 5 none :: m_ws) rm_X3_readVisitors 7 42 (fun f => [.ref a0, .ref p1]) Z S (m_rv (fun _ => none) rZ9) SZ9 := by
  unfold f_X3_readVisitors at hf
  refine m_entX hl (by decide) (fun _ => Nat.le_of_ble_eq_true rfl) (fun x C F => ?_)
  have C : m_H x l RX3 cX3_readVisitors 5 rm_X3_readVisitors := C
  show m_G x Z S 5 0 0 0 [(0, .ref a0), (1, .ref p1)] []
  refine r_aload_n (q := 1) C 0 dX3_readVisitors_0 rfl rfl ?_
  obtain ⟨g1, hf⟩ := m_gd_of hf
  obtain ⟨_u, S3, h2, hf⟩ := m_bw_of hf
  refine r_callV (mc := 0) (ms := 0) (q := 4) (st1 := []) C (c_X3_readToken hl h2) rfl w_314 w_315 w_1296 w_3 w_316 hd_X3_readToken rfl (by decide) g1 rfl rfl rfl ⟨(Nat.le_of_ble_eq_true rfl), (Nat.le_of_ble_eq_true rfl)⟩ (Nat.le_of_ble_eq_true rfl) ⟨(Nat.le_of_ble_eq_true rfl), (Nat.le_of_ble_eq_true rfl)⟩ dX3_readVisitors_1 rfl rfl ?_
  refine r_aload_n (q := 5) C 0 dX3_readVisitors_4 rfl rfl ?_
  refine r_iconst (q := 6) (v := (0 : Int32)) C dX3_readVisitors_5 (by decide) rfl ?_
  refine r_bipush (q := 8) (v := (23 : Int32)) C dX3_readVisitors_6 (by decide) rfl ?_
  rcases m_bx_of hf with ⟨v6, S5, h4, hf⟩ | ⟨x7, S5, h4, hf⟩
  · refine x_okV (q := 11) (mcQ := 7) (msQ := 42) (retQ := none) (st1 := [.int v6]) C (c_X3_takeNumber hl h4) rfl w_394 w_395 w_1302 w_3 w_396 hd_X3_takeNumber rfl (by decide) g1 rfl rfl rfl ⟨(Nat.le_of_ble_eq_true rfl), (Nat.le_of_ble_eq_true rfl)⟩ (Nat.le_of_ble_eq_true rfl) ⟨(Nat.le_of_ble_eq_true rfl), (Nat.le_of_ble_eq_true rfl)⟩ dX3_readVisitors_8 rfl (Nat.le_of_ble_eq_true rfl) (Nat.le_of_ble_eq_true rfl) rfl ?_
    refine r_istore_n (q := 12) (L' := [(2, .int v6), (0, .ref a0), (1, .ref p1)]) C dX3_readVisitors_11 rfl rfl (by decide) rfl ?_
    refine r_aload_n (q := 13) C 1 dX3_readVisitors_12 rfl rfl ?_
    refine r_iload_n (q := 14) C 0 dX3_readVisitors_13 rfl rfl ?_
    refine r_bipush (q := 16) (v := (23 : Int32)) C dX3_readVisitors_14 (by decide) rfl ?_
    rcases m_bx_of hf with ⟨v10, S9, h8, hf⟩ | ⟨x11, S9, h8, hf⟩
    · refine x_okV (q := 19) (mcQ := 7) (msQ := 42) (retQ := none) (st1 := [.int v10]) C (c_X3_takeNumber hl h8) rfl w_394 w_395 w_1302 w_3 w_396 hd_X3_takeNumber rfl (by decide) g1 rfl rfl rfl ⟨(Nat.le_of_ble_eq_true rfl), (Nat.le_of_ble_eq_true rfl)⟩ (Nat.le_of_ble_eq_true rfl) ⟨(Nat.le_of_ble_eq_true rfl), (Nat.le_of_ble_eq_true rfl)⟩ dX3_readVisitors_16 rfl (Nat.le_of_ble_eq_true rfl) (Nat.le_of_ble_eq_true rfl) rfl ?_
      refine r_istore_n (q := 20) (L' := [(3, .int v10), (2, .int v6), (0, .ref a0), (1, .ref p1)]) C dX3_readVisitors_19 rfl rfl (by decide) rfl ?_
      refine r_aload_n (q := 21) C 2 dX3_readVisitors_20 rfl rfl ?_
      refine r_iconst (q := 22) (v := (0 : Int32)) C dX3_readVisitors_21 (by decide) rfl ?_
      refine r_sipush (q := 25) (v := (999 : Int32)) C dX3_readVisitors_22 (by decide) rfl ?_
      rcases m_bx_of hf with ⟨v14, S13, h12, hf⟩ | ⟨x15, S13, h12, hf⟩
      · refine x_okV (q := 28) (mcQ := 7) (msQ := 42) (retQ := none) (st1 := [.int v14]) C (c_X3_takeNumber hl h12) rfl w_394 w_395 w_1302 w_3 w_396 hd_X3_takeNumber rfl (by decide) g1 rfl rfl rfl ⟨(Nat.le_of_ble_eq_true rfl), (Nat.le_of_ble_eq_true rfl)⟩ (Nat.le_of_ble_eq_true rfl) ⟨(Nat.le_of_ble_eq_true rfl), (Nat.le_of_ble_eq_true rfl)⟩ dX3_readVisitors_25 rfl (Nat.le_of_ble_eq_true rfl) (Nat.le_of_ble_eq_true rfl) rfl ?_
        refine r_istore (q := 30) (L' := [(4, .int v14), (3, .int v10), (2, .int v6), (0, .ref a0), (1, .ref p1)]) C dX3_readVisitors_28 rfl (by decide) rfl ?_
        refine r_aload_n (q := 31) C 3 dX3_readVisitors_30 rfl rfl ?_
        rcases m_bx_of hf with ⟨_u, S17, h16, hf⟩ | ⟨x18, S17, h16, hf⟩
        · refine x_okV (q := 34) (mcQ := 7) (msQ := 42) (retQ := none) (st1 := []) C (c_X3_takeSemicolon hl h16) rfl w_397 w_398 w_1303 w_3 w_399 hd_X3_takeSemicolon rfl (by decide) g1 rfl rfl rfl ⟨(Nat.le_of_ble_eq_true rfl), (Nat.le_of_ble_eq_true rfl)⟩ (Nat.le_of_ble_eq_true rfl) ⟨(Nat.le_of_ble_eq_true rfl), (Nat.le_of_ble_eq_true rfl)⟩ dX3_readVisitors_31 rfl (Nat.le_of_ble_eq_true rfl) (Nat.le_of_ble_eq_true rfl) rfl ?_
          refine r_aload_n (q := 35) C 4 dX3_readVisitors_34 rfl rfl ?_
          refine r_iload_n (q := 36) C 2 dX3_readVisitors_35 rfl rfl ?_
          refine r_iload_n (q := 37) C 1 dX3_readVisitors_36 rfl rfl ?_
          refine r_iload (q := 39) C 0 dX3_readVisitors_37 rfl rfl ?_
          obtain ⟨g19, hf⟩ := m_gd_of hf
          obtain ⟨_u, S21, h20, hf⟩ := m_bw_of hf
          refine r_callV (mc := 0) (ms := 0) (q := 42) (st1 := []) C (c_X5_addVisitors hl h20) rfl w_417 w_418 w_419 w_4 w_420 hd_X5_addVisitors rfl (by decide) g19 rfl rfl rfl ⟨(Nat.le_of_ble_eq_true rfl), (Nat.le_of_ble_eq_true rfl)⟩ (Nat.le_of_ble_eq_true rfl) ⟨(Nat.le_of_ble_eq_true rfl), (Nat.le_of_ble_eq_true rfl)⟩ dX3_readVisitors_39 rfl rfl ?_
          obtain ⟨rfl, rfl⟩ := m_so2 hf
          exact x_vret C F (Nat.le_of_ble_eq_true rfl) (Nat.le_of_ble_eq_true rfl) dX3_readVisitors_42
        · obtain ⟨rfl, rfl⟩ := Prod.mk.inj hf
          exact x_erV C (c_X3_takeSemicolon hl h16) F rfl w_397 w_398 w_1303 w_3 w_399 hd_X3_takeSemicolon rfl (by decide) g1 rfl rfl rfl ⟨(Nat.le_of_ble_eq_true rfl), (Nat.le_of_ble_eq_true rfl)⟩ (Nat.le_of_ble_eq_true rfl) ⟨(Nat.le_of_ble_eq_true rfl), (Nat.le_of_ble_eq_true rfl)⟩ dX3_readVisitors_31 rfl (Nat.le_of_ble_eq_true rfl) (Nat.le_of_ble_eq_true rfl)
      · obtain ⟨rfl, rfl⟩ := Prod.mk.inj hf
        exact x_erV C (c_X3_takeNumber hl h12) F rfl w_394 w_395 w_1302 w_3 w_396 hd_X3_takeNumber rfl (by decide) g1 rfl rfl rfl ⟨(Nat.le_of_ble_eq_true rfl), (Nat.le_of_ble_eq_true rfl)⟩ (Nat.le_of_ble_eq_true rfl) ⟨(Nat.le_of_ble_eq_true rfl), (Nat.le_of_ble_eq_true rfl)⟩ dX3_readVisitors_25 rfl (Nat.le_of_ble_eq_true rfl) (Nat.le_of_ble_eq_true rfl)
    · obtain ⟨rfl, rfl⟩ := Prod.mk.inj hf
      exact x_erV C (c_X3_takeNumber hl h8) F rfl w_394 w_395 w_1302 w_3 w_396 hd_X3_takeNumber rfl (by decide) g1 rfl rfl rfl ⟨(Nat.le_of_ble_eq_true rfl), (Nat.le_of_ble_eq_true rfl)⟩ (Nat.le_of_ble_eq_true rfl) ⟨(Nat.le_of_ble_eq_true rfl), (Nat.le_of_ble_eq_true rfl)⟩ dX3_readVisitors_16 rfl (Nat.le_of_ble_eq_true rfl) (Nat.le_of_ble_eq_true rfl)
  · obtain ⟨rfl, rfl⟩ := Prod.mk.inj hf
    exact x_erV C (c_X3_takeNumber hl h4) F rfl w_394 w_395 w_1302 w_3 w_396 hd_X3_takeNumber rfl (by decide) g1 rfl rfl rfl ⟨(Nat.le_of_ble_eq_true rfl), (Nat.le_of_ble_eq_true rfl)⟩ (Nat.le_of_ble_eq_true rfl) ⟨(Nat.le_of_ble_eq_true rfl), (Nat.le_of_ble_eq_true rfl)⟩ dX3_readVisitors_8 rfl (Nat.le_of_ble_eq_true rfl) (Nat.le_of_ble_eq_true rfl)
def f_X3_readPoint (Z : m_Z) (S : m_S) (a0 : Nat) (p1 : Nat) : Option ((Except String Unit) × m_S) := m_gd (m_ok Z a0 3) (m_bx (f_X3_takeWord Z S a0 6) (fun _u S3 => m_gd (m_ok Z p1 1) (m_b1 (f_X1_nextHumidity Z S3 p1) (fun v7 => m_bx (f_X3_takeNumber Z S3 a0 v7 (1000 : Int32)) (fun v10 S9 => m_b1 (f_X1_lastContent Z S9 p1) (fun v13 => m_bx (f_X3_takeNumber Z S9 a0 v13 (9999 : Int32)) (fun v16 S15 => m_bw (f_X1_addPoint Z S15 p1 v10 v16) (fun _u S19 => some ((.ok ()), S19)))))))))
abbrev rm_X3_readPoint : Room := { frames := 8, cells := 5, slots := 30, locals := 163 }
theorem hd_X3_readPoint : yX3_readPoint.cls = RX3 ∧ yX3_readPoint.cls ≠ "java/lang/invoke/MethodHandle" ∧ yX3_readPoint.cls ≠ "java/lang/invoke/VarHandle" ∧ (parseMethodDescriptor yX3_readPoint.desc).map (fun d => d.parameters.length) = some 1 := by decide +kernel
set_option maxHeartbeats 4000000 in
set_option maxRecDepth 100000 in
theorem c_X3_readPoint {l : Launch} (hl : l.stackTraces = false) {Z : m_Z} {S : m_S} {a0 : Nat} {p1 : Nat} {rZ9 : Except String Unit} {SZ9 : m_S} (hf : f_X3_readPoint Z S a0 p1 = some (rZ9, SZ9)) : m_Cx l yX3_readPoint (.code yX3_readPoint cX3_readPoint 4 none :: m_ws) rm_X3_readPoint 5 30 (fun f => [.ref a0, .ref p1]) Z S (m_rv (fun _ => none) rZ9) SZ9 := by
  unfold f_X3_readPoint at hf
  refine m_entX hl (by decide) (fun _ => Nat.le_of_ble_eq_true rfl) (fun x C F => ?_)
  have C : m_H x l RX3 cX3_readPoint 4 rm_X3_readPoint := C
  show m_G x Z S 4 0 0 0 [(0, .ref a0), (1, .ref p1)] []
  refine r_aload_n (q := 1) C 0 dX3_readPoint_0 rfl rfl ?_
  refine r_ldcS (q := 3) (tx := "point") (t := 6) C (by decide +kernel) dX3_readPoint_1 rfl ?_
  obtain ⟨g1, hf⟩ := m_gd_of hf
  rcases m_bx_of hf with ⟨_u, S3, h2, hf⟩ | ⟨x4, S3, h2, hf⟩
  · refine x_okV (q := 6) (mcQ := 5) (msQ := 30) (retQ := none) (st1 := []) C (c_X3_takeWord hl h2) rfl w_329 w_330 w_1299 w_3 w_331 hd_X3_takeWord rfl (by decide) g1 rfl rfl rfl ⟨(Nat.le_of_ble_eq_true rfl), (Nat.le_of_ble_eq_true rfl)⟩ (Nat.le_of_ble_eq_true rfl) ⟨(Nat.le_of_ble_eq_true rfl), (Nat.le_of_ble_eq_true rfl)⟩ dX3_readPoint_3 rfl (Nat.le_of_ble_eq_true rfl) (Nat.le_of_ble_eq_true rfl) rfl ?_
    refine r_aload_n (q := 7) C 0 dX3_readPoint_6 rfl rfl ?_
    refine r_aload_n (q := 8) C 1 dX3_readPoint_7 rfl rfl ?_
    obtain ⟨g5, hf⟩ := m_gd_of hf
    obtain ⟨v7, h6, hf⟩ := m_b1_of hf
    refine r_callV (mc := 0) (ms := 0) (q := 11) (st1 := [.int v7, .ref a0]) C (c_X1_nextHumidity hl h6) rfl w_441 w_442 w_443 w_5 w_444 hd_X1_nextHumidity rfl (by decide) g5 rfl rfl rfl ⟨(Nat.le_of_ble_eq_true rfl), (Nat.le_of_ble_eq_true rfl)⟩ (Nat.le_of_ble_eq_true rfl) ⟨(Nat.le_of_ble_eq_true rfl), (Nat.le_of_ble_eq_true rfl)⟩ dX3_readPoint_8 rfl rfl ?_
    refine r_sipush (q := 14) (v := (1000 : Int32)) C dX3_readPoint_11 (by decide) rfl ?_
    rcases m_bx_of hf with ⟨v10, S9, h8, hf⟩ | ⟨x11, S9, h8, hf⟩
    · refine x_okV (q := 17) (mcQ := 5) (msQ := 30) (retQ := none) (st1 := [.int v10]) C (c_X3_takeNumber hl h8) rfl w_394 w_395 w_1302 w_3 w_396 hd_X3_takeNumber rfl (by decide) g1 rfl rfl rfl ⟨(Nat.le_of_ble_eq_true rfl), (Nat.le_of_ble_eq_true rfl)⟩ (Nat.le_of_ble_eq_true rfl) ⟨(Nat.le_of_ble_eq_true rfl), (Nat.le_of_ble_eq_true rfl)⟩ dX3_readPoint_14 rfl (Nat.le_of_ble_eq_true rfl) (Nat.le_of_ble_eq_true rfl) rfl ?_
      refine r_istore_n (q := 18) (L' := [(2, .int v10), (0, .ref a0), (1, .ref p1)]) C dX3_readPoint_17 rfl rfl (by decide) rfl ?_
      refine r_aload_n (q := 19) C 1 dX3_readPoint_18 rfl rfl ?_
      refine r_aload_n (q := 20) C 2 dX3_readPoint_19 rfl rfl ?_
      obtain ⟨v13, h12, hf⟩ := m_b1_of hf
      refine r_callV (mc := 0) (ms := 0) (q := 23) (st1 := [.int v13, .ref a0]) C (c_X1_lastContent hl h12) rfl w_445 w_446 w_447 w_5 w_448 hd_X1_lastContent rfl (by decide) g5 rfl rfl rfl ⟨(Nat.le_of_ble_eq_true rfl), (Nat.le_of_ble_eq_true rfl)⟩ (Nat.le_of_ble_eq_true rfl) ⟨(Nat.le_of_ble_eq_true rfl), (Nat.le_of_ble_eq_true rfl)⟩ dX3_readPoint_20 rfl rfl ?_
      refine r_sipush (q := 26) (v := (9999 : Int32)) C dX3_readPoint_23 (by decide) rfl ?_
      rcases m_bx_of hf with ⟨v16, S15, h14, hf⟩ | ⟨x17, S15, h14, hf⟩
      · refine x_okV (q := 29) (mcQ := 5) (msQ := 30) (retQ := none) (st1 := [.int v16]) C (c_X3_takeNumber hl h14) rfl w_394 w_395 w_1302 w_3 w_396 hd_X3_takeNumber rfl (by decide) g1 rfl rfl rfl ⟨(Nat.le_of_ble_eq_true rfl), (Nat.le_of_ble_eq_true rfl)⟩ (Nat.le_of_ble_eq_true rfl) ⟨(Nat.le_of_ble_eq_true rfl), (Nat.le_of_ble_eq_true rfl)⟩ dX3_readPoint_26 rfl (Nat.le_of_ble_eq_true rfl) (Nat.le_of_ble_eq_true rfl) rfl ?_
        refine r_istore_n (q := 30) (L' := [(3, .int v16), (2, .int v10), (0, .ref a0), (1, .ref p1)]) C dX3_readPoint_29 rfl rfl (by decide) rfl ?_
        refine r_aload_n (q := 31) C 3 dX3_readPoint_30 rfl rfl ?_
        refine r_iload_n (q := 32) C 1 dX3_readPoint_31 rfl rfl ?_
        refine r_iload_n (q := 33) C 0 dX3_readPoint_32 rfl rfl ?_
        obtain ⟨_u, S19, h18, hf⟩ := m_bw_of hf
        refine r_callV (mc := 0) (ms := 0) (q := 36) (st1 := []) C (c_X1_addPoint hl h18) rfl w_449 w_450 w_451 w_5 w_452 hd_X1_addPoint rfl (by decide) g5 rfl rfl rfl ⟨(Nat.le_of_ble_eq_true rfl), (Nat.le_of_ble_eq_true rfl)⟩ (Nat.le_of_ble_eq_true rfl) ⟨(Nat.le_of_ble_eq_true rfl), (Nat.le_of_ble_eq_true rfl)⟩ dX3_readPoint_33 rfl rfl ?_
        obtain ⟨rfl, rfl⟩ := m_so2 hf
        exact x_vret C F (Nat.le_of_ble_eq_true rfl) (Nat.le_of_ble_eq_true rfl) dX3_readPoint_36
      · obtain ⟨rfl, rfl⟩ := Prod.mk.inj hf
        exact x_erV C (c_X3_takeNumber hl h14) F rfl w_394 w_395 w_1302 w_3 w_396 hd_X3_takeNumber rfl (by decide) g1 rfl rfl rfl ⟨(Nat.le_of_ble_eq_true rfl), (Nat.le_of_ble_eq_true rfl)⟩ (Nat.le_of_ble_eq_true rfl) ⟨(Nat.le_of_ble_eq_true rfl), (Nat.le_of_ble_eq_true rfl)⟩ dX3_readPoint_26 rfl (Nat.le_of_ble_eq_true rfl) (Nat.le_of_ble_eq_true rfl)
    · obtain ⟨rfl, rfl⟩ := Prod.mk.inj hf
      exact x_erV C (c_X3_takeNumber hl h8) F rfl w_394 w_395 w_1302 w_3 w_396 hd_X3_takeNumber rfl (by decide) g1 rfl rfl rfl ⟨(Nat.le_of_ble_eq_true rfl), (Nat.le_of_ble_eq_true rfl)⟩ (Nat.le_of_ble_eq_true rfl) ⟨(Nat.le_of_ble_eq_true rfl), (Nat.le_of_ble_eq_true rfl)⟩ dX3_readPoint_14 rfl (Nat.le_of_ble_eq_true rfl) (Nat.le_of_ble_eq_true rfl)
  · obtain ⟨rfl, rfl⟩ := Prod.mk.inj hf
    exact x_erV C (c_X3_takeWord hl h2) F rfl w_329 w_330 w_1299 w_3 w_331 hd_X3_takeWord rfl (by decide) g1 rfl rfl rfl ⟨(Nat.le_of_ble_eq_true rfl), (Nat.le_of_ble_eq_true rfl)⟩ (Nat.le_of_ble_eq_true rfl) ⟨(Nat.le_of_ble_eq_true rfl), (Nat.le_of_ble_eq_true rfl)⟩ dX3_readPoint_3 rfl (Nat.le_of_ble_eq_true rfl) (Nat.le_of_ble_eq_true rfl)
def F_X3_readKind_42 (Z : m_Z) (a0 : Nat) (b19 : Nat) (j37 : (m_S → Option ((Except String Unit) × m_S))) (lp42 : (Int32 × m_S) → Option ((Except String Unit) × m_S)) (p61 : (Int32 × m_S)) : Option ((Except String Unit) × m_S) := match p61 with
  | (v38, S39) => (if (6 : Int32) ≤ v38 then j37 S39 else (if v38 < (2 : Int32) then m_bx (f_X3_readPoint Z S39 a0 b19) (fun _u S49 => m_lt (v38 + (1 : Int32)) (fun v51 => lp42 (v51, S49))) else m_b1 (f_X3_at Z S39 a0 6) (fun v54 => (if v54 = 0 then j37 S39 else m_bx (f_X3_readPoint Z S39 a0 b19) (fun _u S57 => m_lt (v38 + (1 : Int32)) (fun v59 => lp42 (v59, S57)))))))
def f_X3_readKind (Z : m_Z) (S : m_S) (a0 : Nat) (p1 : Nat) (p2 : Int32) : Option ((Except String Unit) × m_S) := m_gd (m_ok Z a0 3) (m_bw (f_X3_readToken Z S a0) (fun _u S3 => m_b1 (S3.2.2 a0 8) (fun b4 => m_bx (f_X3_takeNewName Z S3 a0 b4 p2) (fun w8 S7 => m_gd (m_ok Z b4 12) (m_gd (m_in p2 (Z.2.2 b4)) (m_lt (m_pJ S7 b4 p2.toNatClampNeg w8) (fun S12 => m_gd (m_ok Z p1 5) (m_b1 (S12.2.2 p1 7) (fun b15 => m_gd (m_ok Z b15 15) (m_gd (m_in p2 (Z.2.2 b15)) (m_b1 (S12.2.2 b15 p2.toNatClampNeg) (fun b19 => m_bx (f_X3_takeNumber Z S12 a0 (0 : Int32) (1000 : Int32)) (fun v23 S22 => m_gd (m_ok Z b19 1) (m_bw (f_X1_begin Z S22 b19 p2 v23) (fun _u S27 => m_jp (fun (S28 : m_S) => m_bx (f_X3_refuse Z S28 a0 6) (fun _u S30 => m_bx (f_X3_takeSemicolon Z S30 a0) (fun _u S33 => m_lt (m_pI S33 p1 6 (p2 + (1 : Int32))) (fun S35 => some ((.ok ()), S35))))) (fun j37 => m_fx (F_X3_readKind_42 Z a0 b19 j37) 7 ((0 : Int32), S27)))))))))))))))))
abbrev rm_X3_readKind : Room := { frames := 9, cells := 41, slots := 246, locals := 186 }
theorem hd_X3_readKind : yX3_readKind.cls = RX3 ∧ yX3_readKind.cls ≠ "java/lang/invoke/MethodHandle" ∧ yX3_readKind.cls ≠ "java/lang/invoke/VarHandle" ∧ (parseMethodDescriptor yX3_readKind.desc).map (fun d => d.parameters.length) = some 2 := by decide +kernel
set_option maxHeartbeats 4000000 in
set_option maxRecDepth 100000 in
theorem c_X3_readKind {l : Launch} (hl : l.stackTraces = false) {Z : m_Z} {S : m_S} {a0 : Nat} {p1 : Nat} {p2 : Int32} {rZ9 : Except String Unit} {SZ9 : m_S} (hf : f_X3_readKind Z S a0 p1 p2 = some (rZ9, SZ9)) : m_Cx l yX3_readKind (.code yX3_readKind cX3_readKind 5 none :: m_ws) rm_X3_readKind 41 246 (fun f => [.ref a0, .ref p1, .int p2]) Z S (m_rv (fun _ => none) rZ9) SZ9 := by
  unfold f_X3_readKind at hf
  refine m_entX hl (by decide) (fun _ => Nat.le_of_ble_eq_true rfl) (fun x C F => ?_)
  have C : m_H x l RX3 cX3_readKind 5 rm_X3_readKind := C
  show m_G x Z S 5 0 0 0 [(0, .ref a0), (1, .ref p1), (2, .int p2)] []
  refine r_aload_n (q := 1) C 0 dX3_readKind_0 rfl rfl ?_
  obtain ⟨g1, hf⟩ := m_gd_of hf
  obtain ⟨_u, S3, h2, hf⟩ := m_bw_of hf
  refine r_callV (mc := 0) (ms := 0) (q := 4) (st1 := []) C (c_X3_readToken hl h2) rfl w_314 w_315 w_1296 w_3 w_316 hd_X3_readToken rfl (by decide) g1 rfl rfl rfl ⟨(Nat.le_of_ble_eq_true rfl), (Nat.le_of_ble_eq_true rfl)⟩ (Nat.le_of_ble_eq_true rfl) ⟨(Nat.le_of_ble_eq_true rfl), (Nat.le_of_ble_eq_true rfl)⟩ dX3_readKind_1 rfl rfl ?_
  refine r_aload_n (q := 5) C 0 dX3_readKind_4 rfl rfl ?_
  obtain ⟨b4, e5, hf⟩ := m_b1_of hf
  refine gf_X3_37 (q := 8) C dX3_readKind_5 g1 e5 rfl ?_
  refine r_iload_n (q := 9) C 2 dX3_readKind_8 rfl rfl ?_
  refine r_aload_n (q := 10) C 0 dX3_readKind_9 rfl rfl ?_
  refine r_aload_n (q := 11) C 0 dX3_readKind_10 rfl rfl ?_
  refine gf_X3_37 (q := 14) C dX3_readKind_11 g1 e5 rfl ?_
  refine r_iload_n (q := 15) C 2 dX3_readKind_14 rfl rfl ?_
  rcases m_bx_of hf with ⟨w8, S7, h6, hf⟩ | ⟨x9, S7, h6, hf⟩
  · refine x_okV (q := 18) (mcQ := 41) (msQ := 246) (retQ := none) (st1 := [.long w8, .int p2, .ref b4]) C (c_X3_takeNewName hl h6) rfl w_424 w_425 w_1308 w_3 w_426 hd_X3_takeNewName rfl (by decide) g1 rfl rfl rfl ⟨(Nat.le_of_ble_eq_true rfl), (Nat.le_of_ble_eq_true rfl)⟩ (Nat.le_of_ble_eq_true rfl) ⟨(Nat.le_of_ble_eq_true rfl), (Nat.le_of_ble_eq_true rfl)⟩ dX3_readKind_15 rfl (Nat.le_of_ble_eq_true rfl) (Nat.le_of_ble_eq_true rfl) rfl ?_
    obtain ⟨g10, hf⟩ := m_gd_of hf
    obtain ⟨g11, hf⟩ := m_gd_of hf
    obtain ⟨S12, e13, hf⟩ := m_lt_of hf
    refine r_last (q := 19) C dX3_readKind_18 ⟨g10, g11⟩ rfl ?_
    rw [← e13]
    refine r_aload_n (q := 20) C 1 dX3_readKind_19 rfl rfl ?_
    obtain ⟨g14, hf⟩ := m_gd_of hf
    obtain ⟨b15, e16, hf⟩ := m_b1_of hf
    refine gf_X3_128 (q := 23) C dX3_readKind_20 g14 e16 rfl ?_
    refine r_iload_n (q := 24) C 2 dX3_readKind_23 rfl rfl ?_
    obtain ⟨g17, hf⟩ := m_gd_of hf
    obtain ⟨g18, hf⟩ := m_gd_of hf
    obtain ⟨b19, e20, hf⟩ := m_b1_of hf
    refine r_aald15 (q := 25) C dX3_readKind_24 ⟨g17, g18⟩ e20 rfl ?_
    refine r_astore_n (q := 26) (L' := [(3, .ref b19), (0, .ref a0), (1, .ref p1), (2, .int p2)]) C dX3_readKind_25 rfl rfl (by decide) rfl ?_
    refine r_aload_n (q := 27) C 0 dX3_readKind_26 rfl rfl ?_
    refine r_iload_n (q := 28) C 3 dX3_readKind_27 rfl rfl ?_
    refine r_aload_n (q := 29) C 1 dX3_readKind_28 rfl rfl ?_
    refine r_iconst (q := 30) (v := (0 : Int32)) C dX3_readKind_29 (by decide) rfl ?_
    refine r_sipush (q := 33) (v := (1000 : Int32)) C dX3_readKind_30 (by decide) rfl ?_
    rcases m_bx_of hf with ⟨v23, S22, h21, hf⟩ | ⟨x24, S22, h21, hf⟩
    · refine x_okV (q := 36) (mcQ := 41) (msQ := 246) (retQ := none) (st1 := [.int v23, .int p2, .ref b19]) C (c_X3_takeNumber hl h21) rfl w_394 w_395 w_1302 w_3 w_396 hd_X3_takeNumber rfl (by decide) g1 rfl rfl rfl ⟨(Nat.le_of_ble_eq_true rfl), (Nat.le_of_ble_eq_true rfl)⟩ (Nat.le_of_ble_eq_true rfl) ⟨(Nat.le_of_ble_eq_true rfl), (Nat.le_of_ble_eq_true rfl)⟩ dX3_readKind_33 rfl (Nat.le_of_ble_eq_true rfl) (Nat.le_of_ble_eq_true rfl) rfl ?_
      obtain ⟨g25, hf⟩ := m_gd_of hf
      obtain ⟨_u, S27, h26, hf⟩ := m_bw_of hf
      refine r_callV (mc := 0) (ms := 0) (q := 39) (st1 := []) C (c_X1_begin hl h26) rfl w_434 w_435 w_436 w_5 w_437 hd_X1_begin rfl (by decide) g25 rfl rfl rfl ⟨(Nat.le_of_ble_eq_true rfl), (Nat.le_of_ble_eq_true rfl)⟩ (Nat.le_of_ble_eq_true rfl) ⟨(Nat.le_of_ble_eq_true rfl), (Nat.le_of_ble_eq_true rfl)⟩ dX3_readKind_36 rfl rfl ?_
      refine r_iconst (q := 40) (v := (0 : Int32)) C dX3_readKind_39 (by decide) rfl ?_
      refine r_istore (q := 42) (L' := [(4, .int (0 : Int32)), (3, .ref b19), (0, .ref a0), (1, .ref p1), (2, .int p2)]) C dX3_readKind_40 rfl (by decide) rfl ?_
      obtain ⟨j37, ej37, hf⟩ := m_jp_of hf
      have J37 : ∀ (S28 : m_S), j37 S28 = some (rZ9, SZ9) → m_G x Z S28 5 39 234 75 [(0, .ref a0), (1, .ref p1), (2, .int p2)] [] := by
        intro S28 hf
        rw [ej37] at hf
        refine r_aload_n (q := 76) C 0 dX3_readKind_75 rfl rfl ?_
        refine r_ldcS (q := 78) (tx := "point") (t := 6) C (by decide +kernel) dX3_readKind_76 rfl ?_
        rcases m_bx_of hf with ⟨_u, S30, h29, hf⟩ | ⟨x31, S30, h29, hf⟩
        · refine x_okV (q := 81) (mcQ := 41) (msQ := 246) (retQ := none) (st1 := []) C (c_X3_refuse hl h29) rfl w_411 w_412 w_1305 w_3 w_413 hd_X3_refuse rfl (by decide) g1 rfl rfl rfl ⟨(Nat.le_of_ble_eq_true rfl), (Nat.le_of_ble_eq_true rfl)⟩ (Nat.le_of_ble_eq_true rfl) ⟨(Nat.le_of_ble_eq_true rfl), (Nat.le_of_ble_eq_true rfl)⟩ dX3_readKind_78 rfl (Nat.le_of_ble_eq_true rfl) (Nat.le_of_ble_eq_true rfl) rfl ?_
          refine r_aload_n (q := 82) C 0 dX3_readKind_81 rfl rfl ?_
          rcases m_bx_of hf with ⟨_u, S33, h32, hf⟩ | ⟨x34, S33, h32, hf⟩
          · refine x_okV (q := 85) (mcQ := 41) (msQ := 246) (retQ := none) (st1 := []) C (c_X3_takeSemicolon hl h32) rfl w_397 w_398 w_1303 w_3 w_399 hd_X3_takeSemicolon rfl (by decide) g1 rfl rfl rfl ⟨(Nat.le_of_ble_eq_true rfl), (Nat.le_of_ble_eq_true rfl)⟩ (Nat.le_of_ble_eq_true rfl) ⟨(Nat.le_of_ble_eq_true rfl), (Nat.le_of_ble_eq_true rfl)⟩ dX3_readKind_82 rfl (Nat.le_of_ble_eq_true rfl) (Nat.le_of_ble_eq_true rfl) rfl ?_
            refine r_aload_n (q := 86) C 1 dX3_readKind_85 rfl rfl ?_
            refine r_iload_n (q := 87) C 2 dX3_readKind_86 rfl rfl ?_
            refine r_iconst (q := 88) (v := (1 : Int32)) C dX3_readKind_87 (by decide) rfl ?_
            refine r_iadd (q := 89) C dX3_readKind_88 rfl ?_
            obtain ⟨S35, e36, hf⟩ := m_lt_of hf
            refine pf_X3_143 (q := 92) C dX3_readKind_89 g14 e36 rfl ?_
            obtain ⟨rfl, rfl⟩ := m_so2 hf
            exact x_vret C F (Nat.le_of_ble_eq_true rfl) (Nat.le_of_ble_eq_true rfl) dX3_readKind_92
          · obtain ⟨rfl, rfl⟩ := Prod.mk.inj hf
            exact x_erV C (c_X3_takeSemicolon hl h32) F rfl w_397 w_398 w_1303 w_3 w_399 hd_X3_takeSemicolon rfl (by decide) g1 rfl rfl rfl ⟨(Nat.le_of_ble_eq_true rfl), (Nat.le_of_ble_eq_true rfl)⟩ (Nat.le_of_ble_eq_true rfl) ⟨(Nat.le_of_ble_eq_true rfl), (Nat.le_of_ble_eq_true rfl)⟩ dX3_readKind_82 rfl (Nat.le_of_ble_eq_true rfl) (Nat.le_of_ble_eq_true rfl)
        · obtain ⟨rfl, rfl⟩ := Prod.mk.inj hf
          exact x_erV C (c_X3_refuse hl h29) F rfl w_411 w_412 w_1305 w_3 w_413 hd_X3_refuse rfl (by decide) g1 rfl rfl rfl ⟨(Nat.le_of_ble_eq_true rfl), (Nat.le_of_ble_eq_true rfl)⟩ (Nat.le_of_ble_eq_true rfl) ⟨(Nat.le_of_ble_eq_true rfl), (Nat.le_of_ble_eq_true rfl)⟩ dX3_readKind_78 rfl (Nat.le_of_ble_eq_true rfl) (Nat.le_of_ble_eq_true rfl)
      have LL45 : ∀ (fu44 : Nat) (v38 : Int32) (S39 : m_S) (kk40 nn41 : Nat), kk40 + 5 * fu44 ≤ 39 → nn41 + 30 * fu44 ≤ 234 → m_fx (F_X3_readKind_42 Z a0 b19 j37) fu44 (v38, S39) = some (rZ9, SZ9) → m_G x Z S39 5 kk40 nn41 42 [(0, .ref a0), (1, .ref p1), (2, .int p2), (3, .ref b19), (4, .int v38)] [] := by
        intro fu44
        induction fu44 with
        | zero => intros; rename_i hf; cases hf
        | succ fu44 ih43 =>
          intro v38 S39 kk40 nn41 hk9 hn9 hf
          replace hf : F_X3_readKind_42 Z a0 b19 j37 (m_fx (F_X3_readKind_42 Z a0 b19 j37) fu44) (v38, S39) = some (rZ9, SZ9) := hf
          unfold F_X3_readKind_42 at hf
          dsimp only at hf
          refine r_iload (q := 44) C 4 dX3_readKind_42 rfl rfl ?_
          refine r_bipush (q := 46) (v := (6 : Int32)) C dX3_readKind_44 (by decide) rfl ?_
          refine r_icmp_ge (t := 75) (q := 49) C dX3_readKind_46 (by decide) rfl (fun c46 => ?_) (fun c46 => ?_)
          · replace hf := m_if1 hf c46
            refine r_sub [0, 1, 2] rfl ?_
            refine r_wid (k' := 39) (n' := 234) (by omega) (by omega) ?_
            exact J37 S39 hf
          · replace hf := m_if0 hf c46
            refine r_iload (q := 51) C 4 dX3_readKind_49 rfl rfl ?_
            refine r_iconst (q := 52) (v := (2 : Int32)) C dX3_readKind_51 (by decide) rfl ?_
            refine r_icmp_lt (t := 64) (q := 55) C dX3_readKind_52 (by decide) rfl (fun c47 => ?_) (fun c47 => ?_)
            · replace hf := m_if1 hf c47
              refine r_aload_n (q := 65) C 0 dX3_readKind_64 rfl rfl ?_
              refine r_aload_n (q := 66) C 3 dX3_readKind_65 rfl rfl ?_
              rcases m_bx_of hf with ⟨_u, S49, h48, hf⟩ | ⟨x50, S49, h48, hf⟩
              · refine x_okV (q := 69) (mcQ := 41) (msQ := 246) (retQ := none) (st1 := []) C (c_X3_readPoint hl h48) rfl w_438 w_439 w_1310 w_3 w_440 hd_X3_readPoint rfl (by decide) g1 rfl rfl rfl ⟨(Nat.le_of_ble_eq_true rfl), (Nat.le_of_ble_eq_true rfl)⟩ (Nat.le_of_ble_eq_true rfl) ⟨(show kk40 + 5 ≤ 41 by omega), (show nn41 + 30 ≤ 246 by omega)⟩ dX3_readKind_66 rfl (show kk40 + 5 ≤ 41 by omega) (show nn41 + 30 ≤ 246 by omega) rfl ?_
                obtain ⟨v51, e52, hf⟩ := m_lt_of hf
                refine r_iinc (q := 72) (v := v51) (L' := [(4, .int v51), (0, .ref a0), (1, .ref p1), (2, .int p2), (3, .ref b19)]) C 4 dX3_readKind_69 rfl (by rw [e52]; rfl) rfl (by decide) rfl ?_
                refine r_goto (t := 42) C dX3_readKind_72 (by decide) ?_
                refine r_sub [1, 2, 3, 4, 0] rfl ?_
                exact ih43 v51 S49 (kk40 + 5) (nn41 + 30) (by omega) (by omega) hf
              · obtain ⟨rfl, rfl⟩ := Prod.mk.inj hf
                exact x_erV C (c_X3_readPoint hl h48) F rfl w_438 w_439 w_1310 w_3 w_440 hd_X3_readPoint rfl (by decide) g1 rfl rfl rfl ⟨(Nat.le_of_ble_eq_true rfl), (Nat.le_of_ble_eq_true rfl)⟩ (Nat.le_of_ble_eq_true rfl) ⟨(show kk40 + 5 ≤ 41 by omega), (show nn41 + 30 ≤ 246 by omega)⟩ dX3_readKind_66 rfl (show kk40 + 5 ≤ 41 by omega) (show nn41 + 30 ≤ 246 by omega)
            · replace hf := m_if0 hf c47
              refine r_aload_n (q := 56) C 0 dX3_readKind_55 rfl rfl ?_
              refine r_ldcS (q := 58) (tx := "point") (t := 6) C (by decide +kernel) dX3_readKind_56 rfl ?_
              obtain ⟨v54, h53, hf⟩ := m_b1_of hf
              refine r_callV (mc := 0) (ms := 0) (q := 61) (st1 := [.int v54]) C (c_X3_at hl h53) rfl w_332 w_333 w_1300 w_3 w_334 hd_X3_at rfl (by decide) g1 rfl rfl rfl ⟨(Nat.le_of_ble_eq_true rfl), (Nat.le_of_ble_eq_true rfl)⟩ (Nat.le_of_ble_eq_true rfl) ⟨(show kk40 ≤ 41 by omega), (show nn41 ≤ 246 by omega)⟩ dX3_readKind_58 rfl rfl ?_
              refine r_if_eq (t := 75) (q := 64) C dX3_readKind_61 (by decide) rfl (fun c55 => ?_) (fun c55 => ?_)
              · replace hf := m_if1 hf c55
                refine r_sub [0, 1, 2] rfl ?_
                refine r_wid (k' := 39) (n' := 234) (by omega) (by omega) ?_
                exact J37 S39 hf
              · replace hf := m_if0 hf c55
                refine r_aload_n (q := 65) C 0 dX3_readKind_64 rfl rfl ?_
                refine r_aload_n (q := 66) C 3 dX3_readKind_65 rfl rfl ?_
                rcases m_bx_of hf with ⟨_u, S57, h56, hf⟩ | ⟨x58, S57, h56, hf⟩
                · refine x_okV (q := 69) (mcQ := 41) (msQ := 246) (retQ := none) (st1 := []) C (c_X3_readPoint hl h56) rfl w_438 w_439 w_1310 w_3 w_440 hd_X3_readPoint rfl (by decide) g1 rfl rfl rfl ⟨(Nat.le_of_ble_eq_true rfl), (Nat.le_of_ble_eq_true rfl)⟩ (Nat.le_of_ble_eq_true rfl) ⟨(show kk40 + 5 ≤ 41 by omega), (show nn41 + 30 ≤ 246 by omega)⟩ dX3_readKind_66 rfl (show kk40 + 5 ≤ 41 by omega) (show nn41 + 30 ≤ 246 by omega) rfl ?_
                  obtain ⟨v59, e60, hf⟩ := m_lt_of hf
                  refine r_iinc (q := 72) (v := v59) (L' := [(4, .int v59), (0, .ref a0), (1, .ref p1), (2, .int p2), (3, .ref b19)]) C 4 dX3_readKind_69 rfl (by rw [e60]; rfl) rfl (by decide) rfl ?_
                  refine r_goto (t := 42) C dX3_readKind_72 (by decide) ?_
                  refine r_sub [1, 2, 3, 4, 0] rfl ?_
                  exact ih43 v59 S57 (kk40 + 5) (nn41 + 30) (by omega) (by omega) hf
                · obtain ⟨rfl, rfl⟩ := Prod.mk.inj hf
                  exact x_erV C (c_X3_readPoint hl h56) F rfl w_438 w_439 w_1310 w_3 w_440 hd_X3_readPoint rfl (by decide) g1 rfl rfl rfl ⟨(Nat.le_of_ble_eq_true rfl), (Nat.le_of_ble_eq_true rfl)⟩ (Nat.le_of_ble_eq_true rfl) ⟨(show kk40 + 5 ≤ 41 by omega), (show nn41 + 30 ≤ 246 by omega)⟩ dX3_readKind_66 rfl (show kk40 + 5 ≤ 41 by omega) (show nn41 + 30 ≤ 246 by omega)
      refine r_sub [2, 3, 4, 1, 0] rfl ?_
      exact LL45 7 (0 : Int32) S27 4 24 (by omega) (by omega) hf
    · obtain ⟨rfl, rfl⟩ := Prod.mk.inj hf
      exact x_erV C (c_X3_takeNumber hl h21) F rfl w_394 w_395 w_1302 w_3 w_396 hd_X3_takeNumber rfl (by decide) g1 rfl rfl rfl ⟨(Nat.le_of_ble_eq_true rfl), (Nat.le_of_ble_eq_true rfl)⟩ (Nat.le_of_ble_eq_true rfl) ⟨(Nat.le_of_ble_eq_true rfl), (Nat.le_of_ble_eq_true rfl)⟩ dX3_readKind_33 rfl (Nat.le_of_ble_eq_true rfl) (Nat.le_of_ble_eq_true rfl)
  · obtain ⟨rfl, rfl⟩ := Prod.mk.inj hf
    exact x_erV C (c_X3_takeNewName hl h6) F rfl w_424 w_425 w_1308 w_3 w_426 hd_X3_takeNewName rfl (by decide) g1 rfl rfl rfl ⟨(Nat.le_of_ble_eq_true rfl), (Nat.le_of_ble_eq_true rfl)⟩ (Nat.le_of_ble_eq_true rfl) ⟨(Nat.le_of_ble_eq_true rfl), (Nat.le_of_ble_eq_true rfl)⟩ dX3_readKind_15 rfl (Nat.le_of_ble_eq_true rfl) (Nat.le_of_ble_eq_true rfl)
def F_X3_readInto_167 (Z : m_Z) (a0 : Nat) (p1 : Nat) (j41 : (m_S → Option ((Except String Unit) × m_S))) (lp46 : (Int32 × m_S) → Option ((Except String Unit) × m_S)) (p59 : (Int32 × m_S)) : Option ((Except String Unit) × m_S) := match p59 with
  | (v42, S43) => (if (30 : Int32) < v42 then j41 S43 else m_b1 (f_X3_at Z S43 a0 5) (fun v52 => (if v52 = 0 then j41 S43 else m_bx (f_X3_readCassette Z S43 a0 p1) (fun _u S55 => m_lt (v42 + (1 : Int32)) (fun v57 => lp46 (v57, S55))))))
def F_X3_readInto_132 (Z : m_Z) (a0 : Nat) (p1 : Nat) (j60 : (m_S → Option ((Except String Unit) × m_S))) (lp65 : (Int32 × m_S) → Option ((Except String Unit) × m_S)) (p78 : (Int32 × m_S)) : Option ((Except String Unit) × m_S) := match p78 with
  | (v61, S62) => (if (6 : Int32) ≤ v61 then j60 S62 else m_b1 (f_X3_at Z S62 a0 4) (fun v71 => (if v71 = 0 then j60 S62 else m_bx (f_X3_readCase Z S62 a0 p1 v61) (fun _u S74 => m_lt (v61 + (1 : Int32)) (fun v76 => lp65 (v76, S74))))))
def F_X3_readInto_98 (Z : m_Z) (a0 : Nat) (p1 : Nat) (j79 : (m_S → Option ((Except String Unit) × m_S))) (lp84 : (Int32 × m_S) → Option ((Except String Unit) × m_S)) (p97 : (Int32 × m_S)) : Option ((Except String Unit) × m_S) := match p97 with
  | (v80, S81) => (if (4 : Int32) ≤ v80 then j79 S81 else m_b1 (f_X3_at Z S81 a0 3) (fun v90 => (if v90 = 0 then j79 S81 else m_bx (f_X3_readKind Z S81 a0 p1 v80) (fun _u S93 => m_lt (v80 + (1 : Int32)) (fun v95 => lp84 (v95, S93))))))
def F_X3_readInto_64 (Z : m_Z) (a0 : Nat) (p1 : Nat) (j98 : (m_S → Option ((Except String Unit) × m_S))) (lp103 : (Int32 × m_S) → Option ((Except String Unit) × m_S)) (p116 : (Int32 × m_S)) : Option ((Except String Unit) × m_S) := match p116 with
  | (v99, S100) => (if (6 : Int32) ≤ v99 then j98 S100 else m_b1 (f_X3_at Z S100 a0 2) (fun v109 => (if v109 = 0 then j98 S100 else m_bx (f_X3_readVisitors Z S100 a0 p1) (fun _u S112 => m_lt (v99 + (1 : Int32)) (fun v114 => lp103 (v114, S112))))))
def F_X3_readInto_30 (Z : m_Z) (a0 : Nat) (p1 : Nat) (j117 : (m_S → Option ((Except String Unit) × m_S))) (lp122 : (Int32 × m_S) → Option ((Except String Unit) × m_S)) (p135 : (Int32 × m_S)) : Option ((Except String Unit) × m_S) := match p135 with
  | (v118, S119) => (if (12 : Int32) ≤ v118 then j117 S119 else m_b1 (f_X3_at Z S119 a0 1) (fun v128 => (if v128 = 0 then j117 S119 else m_bx (f_X3_readSeason Z S119 a0 p1) (fun _u S131 => m_lt (v118 + (1 : Int32)) (fun v133 => lp122 (v133, S131))))))
def f_X3_readInto (Z : m_Z) (S : m_S) (a0 : Nat) (p1 : Nat) : Option ((Except String Unit) × m_S) := m_gd (m_ok Z a0 3) (m_lt (m_pI S a0 2 (0 : Int32)) (fun S2 => m_lt (m_pI S2 a0 3 (-1 : Int32)) (fun S4 => m_lt (m_pI S4 a0 6 (0 : Int32)) (fun S6 => m_gd (m_ok Z p1 5) (m_bw (f_X5_clear Z S6 p1) (fun _u S10 => m_bw (f_X3_readToken Z S10 a0) (fun _u S12 => m_bx (f_X3_readMuseum Z S12 a0 p1) (fun _u S14 => m_jp (fun (S16 : m_S) => m_bx (f_X3_refuse Z S16 a0 1) (fun _u S18 => m_jp (fun (S20 : m_S) => m_bx (f_X3_refuse Z S20 a0 2) (fun _u S22 => m_jp (fun (S24 : m_S) => m_bx (f_X3_refuse Z S24 a0 3) (fun _u S26 => m_jp (fun (S28 : m_S) => m_bx (f_X3_refuse Z S28 a0 4) (fun _u S30 => m_jp (fun (S32 : m_S) => (if (S32.1 a0 4) = 0 then m_lt (m_pI S32 a0 1 (0 : Int32)) (fun S34 => some ((.ok ()), S34)) else m_bx (f_X3_fail Z S32 a0 (1 : Int32)) (fun _u S37 => m_lt (m_pI S37 a0 1 (0 : Int32)) (fun S39 => some ((.ok ()), S39))))) (fun j41 => m_fx (F_X3_readInto_167 Z a0 p1 j41) 32 ((0 : Int32), S30)))) (fun j60 => m_fx (F_X3_readInto_132 Z a0 p1 j60) 7 ((0 : Int32), S26)))) (fun j79 => m_fx (F_X3_readInto_98 Z a0 p1 j79) 5 ((0 : Int32), S22)))) (fun j98 => m_fx (F_X3_readInto_64 Z a0 p1 j98) 7 ((0 : Int32), S18)))) (fun j117 => m_fx (F_X3_readInto_30 Z a0 p1 j117) 13 ((0 : Int32), S14))))))))))
abbrev rm_X3_readInto : Room := { frames := 10, cells := 741, slots := 4446, locals := 210 }
theorem hd_X3_readInto : yX3_readInto.cls = RX3 ∧ yX3_readInto.cls ≠ "java/lang/invoke/MethodHandle" ∧ yX3_readInto.cls ≠ "java/lang/invoke/VarHandle" ∧ (parseMethodDescriptor yX3_readInto.desc).map (fun d => d.parameters.length) = some 1 := by decide +kernel
set_option maxHeartbeats 4000000 in
set_option maxRecDepth 100000 in
theorem c_X3_readInto {l : Launch} (hl : l.stackTraces = false) {Z : m_Z} {S : m_S} {a0 : Nat} {p1 : Nat} {rZ9 : Except String Unit} {SZ9 : m_S} (hf : f_X3_readInto Z S a0 p1 = some (rZ9, SZ9)) : m_Cx l yX3_readInto (.code yX3_readInto cX3_readInto 3 none :: m_ws) rm_X3_readInto 741 4446 (fun f => [.ref a0, .ref p1]) Z S (m_rv (fun _ => none) rZ9) SZ9 := by
  unfold f_X3_readInto at hf
  refine m_entX hl (by decide) (fun _ => Nat.le_of_ble_eq_true rfl) (fun x C F => ?_)
  have C : m_H x l RX3 cX3_readInto 3 rm_X3_readInto := C
  show m_G x Z S 3 0 0 0 [(0, .ref a0), (1, .ref p1)] []
  refine r_aload_n (q := 1) C 0 dX3_readInto_0 rfl rfl ?_
  refine r_iconst (q := 2) (v := (0 : Int32)) C dX3_readInto_1 (by decide) rfl ?_
  obtain ⟨g1, hf⟩ := m_gd_of hf
  obtain ⟨S2, e3, hf⟩ := m_lt_of hf
  refine pf_X3_19 (q := 5) C dX3_readInto_2 g1 e3 rfl ?_
  refine r_aload_n (q := 6) C 0 dX3_readInto_5 rfl rfl ?_
  refine r_iconst (q := 7) (v := (-1 : Int32)) C dX3_readInto_6 (by decide) rfl ?_
  obtain ⟨S4, e5, hf⟩ := m_lt_of hf
  refine pf_X3_22 (q := 10) C dX3_readInto_7 g1 e5 rfl ?_
  refine r_aload_n (q := 11) C 0 dX3_readInto_10 rfl rfl ?_
  refine r_iconst (q := 12) (v := (0 : Int32)) C dX3_readInto_11 (by decide) rfl ?_
  obtain ⟨S6, e7, hf⟩ := m_lt_of hf
  refine pf_X3_31 (q := 15) C dX3_readInto_12 g1 e7 rfl ?_
  refine r_aload_n (q := 16) C 1 dX3_readInto_15 rfl rfl ?_
  obtain ⟨g8, hf⟩ := m_gd_of hf
  obtain ⟨_u, S10, h9, hf⟩ := m_bw_of hf
  refine r_callV (mc := 0) (ms := 0) (q := 19) (st1 := []) C (c_X5_clear hl h9) rfl w_310 w_311 w_312 w_4 w_313 hd_X5_clear rfl (by decide) g8 rfl rfl rfl ⟨(Nat.le_of_ble_eq_true rfl), (Nat.le_of_ble_eq_true rfl)⟩ (Nat.le_of_ble_eq_true rfl) ⟨(Nat.le_of_ble_eq_true rfl), (Nat.le_of_ble_eq_true rfl)⟩ dX3_readInto_16 rfl rfl ?_
  refine r_aload_n (q := 20) C 0 dX3_readInto_19 rfl rfl ?_
  obtain ⟨_u, S12, h11, hf⟩ := m_bw_of hf
  refine r_callV (mc := 0) (ms := 0) (q := 23) (st1 := []) C (c_X3_readToken hl h11) rfl w_314 w_315 w_1296 w_3 w_316 hd_X3_readToken rfl (by decide) g1 rfl rfl rfl ⟨(Nat.le_of_ble_eq_true rfl), (Nat.le_of_ble_eq_true rfl)⟩ (Nat.le_of_ble_eq_true rfl) ⟨(Nat.le_of_ble_eq_true rfl), (Nat.le_of_ble_eq_true rfl)⟩ dX3_readInto_20 rfl rfl ?_
  refine r_aload_n (q := 24) C 0 dX3_readInto_23 rfl rfl ?_
  refine r_aload_n (q := 25) C 1 dX3_readInto_24 rfl rfl ?_
  rcases m_bx_of hf with ⟨_u, S14, h13, hf⟩ | ⟨x15, S14, h13, hf⟩
  · refine x_okV (q := 28) (mcQ := 741) (msQ := 4446) (retQ := none) (st1 := []) C (c_X3_readMuseum hl h13) rfl w_326 w_327 w_1298 w_3 w_328 hd_X3_readMuseum rfl (by decide) g1 rfl rfl rfl ⟨(Nat.le_of_ble_eq_true rfl), (Nat.le_of_ble_eq_true rfl)⟩ (Nat.le_of_ble_eq_true rfl) ⟨(Nat.le_of_ble_eq_true rfl), (Nat.le_of_ble_eq_true rfl)⟩ dX3_readInto_25 rfl (Nat.le_of_ble_eq_true rfl) (Nat.le_of_ble_eq_true rfl) rfl ?_
    refine r_iconst (q := 29) (v := (0 : Int32)) C dX3_readInto_28 (by decide) rfl ?_
    refine r_istore_n (q := 30) (L' := [(2, .int (0 : Int32)), (0, .ref a0), (1, .ref p1)]) C dX3_readInto_29 rfl rfl (by decide) rfl ?_
    obtain ⟨j117, ej117, hf⟩ := m_jp_of hf
    have J117 : ∀ (S16 : m_S), j117 S16 = some (rZ9, SZ9) → m_G x Z S16 3 71 426 56 [(0, .ref a0), (1, .ref p1)] [] := by
      intro S16 hf
      rw [ej117] at hf
      refine r_aload_n (q := 57) C 0 dX3_readInto_56 rfl rfl ?_
      refine r_ldcS (q := 59) (tx := "season") (t := 1) C (by decide +kernel) dX3_readInto_57 rfl ?_
      rcases m_bx_of hf with ⟨_u, S18, h17, hf⟩ | ⟨x19, S18, h17, hf⟩
      · refine x_okV (q := 62) (mcQ := 741) (msQ := 4446) (retQ := none) (st1 := []) C (c_X3_refuse hl h17) rfl w_411 w_412 w_1305 w_3 w_413 hd_X3_refuse rfl (by decide) g1 rfl rfl rfl ⟨(Nat.le_of_ble_eq_true rfl), (Nat.le_of_ble_eq_true rfl)⟩ (Nat.le_of_ble_eq_true rfl) ⟨(Nat.le_of_ble_eq_true rfl), (Nat.le_of_ble_eq_true rfl)⟩ dX3_readInto_59 rfl (Nat.le_of_ble_eq_true rfl) (Nat.le_of_ble_eq_true rfl) rfl ?_
        refine r_iconst (q := 63) (v := (0 : Int32)) C dX3_readInto_62 (by decide) rfl ?_
        refine r_istore_n (q := 64) (L' := [(2, .int (0 : Int32)), (0, .ref a0), (1, .ref p1)]) C dX3_readInto_63 rfl rfl (by decide) rfl ?_
        obtain ⟨j98, ej98, hf⟩ := m_jp_of hf
        have J98 : ∀ (S20 : m_S), j98 S20 = some (rZ9, SZ9) → m_G x Z S20 3 121 726 90 [(0, .ref a0), (1, .ref p1)] [] := by
          intro S20 hf
          rw [ej98] at hf
          refine r_aload_n (q := 91) C 0 dX3_readInto_90 rfl rfl ?_
          refine r_ldcS (q := 93) (tx := "visitors") (t := 2) C (by decide +kernel) dX3_readInto_91 rfl ?_
          rcases m_bx_of hf with ⟨_u, S22, h21, hf⟩ | ⟨x23, S22, h21, hf⟩
          · refine x_okV (q := 96) (mcQ := 741) (msQ := 4446) (retQ := none) (st1 := []) C (c_X3_refuse hl h21) rfl w_411 w_412 w_1305 w_3 w_413 hd_X3_refuse rfl (by decide) g1 rfl rfl rfl ⟨(Nat.le_of_ble_eq_true rfl), (Nat.le_of_ble_eq_true rfl)⟩ (Nat.le_of_ble_eq_true rfl) ⟨(Nat.le_of_ble_eq_true rfl), (Nat.le_of_ble_eq_true rfl)⟩ dX3_readInto_93 rfl (Nat.le_of_ble_eq_true rfl) (Nat.le_of_ble_eq_true rfl) rfl ?_
            refine r_iconst (q := 97) (v := (0 : Int32)) C dX3_readInto_96 (by decide) rfl ?_
            refine r_istore_n (q := 98) (L' := [(2, .int (0 : Int32)), (0, .ref a0), (1, .ref p1)]) C dX3_readInto_97 rfl rfl (by decide) rfl ?_
            obtain ⟨j79, ej79, hf⟩ := m_jp_of hf
            have J79 : ∀ (S24 : m_S), j79 S24 = some (rZ9, SZ9) → m_G x Z S24 3 327 1962 124 [(0, .ref a0), (1, .ref p1)] [] := by
              intro S24 hf
              rw [ej79] at hf
              refine r_aload_n (q := 125) C 0 dX3_readInto_124 rfl rfl ?_
              refine r_ldcS (q := 127) (tx := "kind") (t := 3) C (by decide +kernel) dX3_readInto_125 rfl ?_
              rcases m_bx_of hf with ⟨_u, S26, h25, hf⟩ | ⟨x27, S26, h25, hf⟩
              · refine x_okV (q := 130) (mcQ := 741) (msQ := 4446) (retQ := none) (st1 := []) C (c_X3_refuse hl h25) rfl w_411 w_412 w_1305 w_3 w_413 hd_X3_refuse rfl (by decide) g1 rfl rfl rfl ⟨(Nat.le_of_ble_eq_true rfl), (Nat.le_of_ble_eq_true rfl)⟩ (Nat.le_of_ble_eq_true rfl) ⟨(Nat.le_of_ble_eq_true rfl), (Nat.le_of_ble_eq_true rfl)⟩ dX3_readInto_127 rfl (Nat.le_of_ble_eq_true rfl) (Nat.le_of_ble_eq_true rfl) rfl ?_
                refine r_iconst (q := 131) (v := (0 : Int32)) C dX3_readInto_130 (by decide) rfl ?_
                refine r_istore_n (q := 132) (L' := [(2, .int (0 : Int32)), (0, .ref a0), (1, .ref p1)]) C dX3_readInto_131 rfl rfl (by decide) rfl ?_
                obtain ⟨j60, ej60, hf⟩ := m_jp_of hf
                have J60 : ∀ (S28 : m_S), j60 S28 = some (rZ9, SZ9) → m_G x Z S28 3 419 2514 159 [(0, .ref a0), (1, .ref p1)] [] := by
                  intro S28 hf
                  rw [ej60] at hf
                  refine r_aload_n (q := 160) C 0 dX3_readInto_159 rfl rfl ?_
                  refine r_ldcS (q := 162) (tx := "case") (t := 4) C (by decide +kernel) dX3_readInto_160 rfl ?_
                  rcases m_bx_of hf with ⟨_u, S30, h29, hf⟩ | ⟨x31, S30, h29, hf⟩
                  · refine x_okV (q := 165) (mcQ := 741) (msQ := 4446) (retQ := none) (st1 := []) C (c_X3_refuse hl h29) rfl w_411 w_412 w_1305 w_3 w_413 hd_X3_refuse rfl (by decide) g1 rfl rfl rfl ⟨(Nat.le_of_ble_eq_true rfl), (Nat.le_of_ble_eq_true rfl)⟩ (Nat.le_of_ble_eq_true rfl) ⟨(Nat.le_of_ble_eq_true rfl), (Nat.le_of_ble_eq_true rfl)⟩ dX3_readInto_162 rfl (Nat.le_of_ble_eq_true rfl) (Nat.le_of_ble_eq_true rfl) rfl ?_
                    refine r_iconst (q := 166) (v := (0 : Int32)) C dX3_readInto_165 (by decide) rfl ?_
                    refine r_istore_n (q := 167) (L' := [(2, .int (0 : Int32)), (0, .ref a0), (1, .ref p1)]) C dX3_readInto_166 rfl rfl (by decide) rfl ?_
                    obtain ⟨j41, ej41, hf⟩ := m_jp_of hf
                    have J41 : ∀ (S32 : m_S), j41 S32 = some (rZ9, SZ9) → m_G x Z S32 3 740 4440 193 [(0, .ref a0)] [] := by
                      intro S32 hf
                      rw [ej41] at hf
                      refine r_aload_n (q := 194) C 0 dX3_readInto_193 rfl rfl ?_
                      refine gf_X3_25 (q := 197) C dX3_readInto_194 g1 rfl ?_
                      refine r_if_eq (t := 205) (q := 200) C dX3_readInto_197 (by decide) rfl (fun c33 => ?_) (fun c33 => ?_)
                      · replace hf := m_if1 hf c33
                        refine r_aload_n (q := 206) C 0 dX3_readInto_205 rfl rfl ?_
                        refine r_iconst (q := 207) (v := (0 : Int32)) C dX3_readInto_206 (by decide) rfl ?_
                        obtain ⟨S34, e35, hf⟩ := m_lt_of hf
                        refine pf_X3_15 (q := 210) C dX3_readInto_207 g1 e35 rfl ?_
                        obtain ⟨rfl, rfl⟩ := m_so2 hf
                        exact x_vret C F (Nat.le_of_ble_eq_true rfl) (Nat.le_of_ble_eq_true rfl) dX3_readInto_210
                      · replace hf := m_if0 hf c33
                        refine r_aload_n (q := 201) C 0 dX3_readInto_200 rfl rfl ?_
                        refine r_iconst (q := 202) (v := (1 : Int32)) C dX3_readInto_201 (by decide) rfl ?_
                        rcases m_bx_of hf with ⟨_u, S37, h36, hf⟩ | ⟨x38, S37, h36, hf⟩
                        · refine x_okV (q := 205) (mcQ := 741) (msQ := 4446) (retQ := none) (st1 := []) C (c_X3_fail hl h36) rfl w_378 w_379 w_1301 w_3 w_380 hd_X3_fail rfl (by decide) g1 rfl rfl rfl ⟨(Nat.le_of_ble_eq_true rfl), (Nat.le_of_ble_eq_true rfl)⟩ (Nat.le_of_ble_eq_true rfl) ⟨(Nat.le_of_ble_eq_true rfl), (Nat.le_of_ble_eq_true rfl)⟩ dX3_readInto_202 rfl (Nat.le_of_ble_eq_true rfl) (Nat.le_of_ble_eq_true rfl) rfl ?_
                          refine r_aload_n (q := 206) C 0 dX3_readInto_205 rfl rfl ?_
                          refine r_iconst (q := 207) (v := (0 : Int32)) C dX3_readInto_206 (by decide) rfl ?_
                          obtain ⟨S39, e40, hf⟩ := m_lt_of hf
                          refine pf_X3_15 (q := 210) C dX3_readInto_207 g1 e40 rfl ?_
                          obtain ⟨rfl, rfl⟩ := m_so2 hf
                          exact x_vret C F (Nat.le_of_ble_eq_true rfl) (Nat.le_of_ble_eq_true rfl) dX3_readInto_210
                        · obtain ⟨rfl, rfl⟩ := Prod.mk.inj hf
                          exact x_erV C (c_X3_fail hl h36) F rfl w_378 w_379 w_1301 w_3 w_380 hd_X3_fail rfl (by decide) g1 rfl rfl rfl ⟨(Nat.le_of_ble_eq_true rfl), (Nat.le_of_ble_eq_true rfl)⟩ (Nat.le_of_ble_eq_true rfl) ⟨(Nat.le_of_ble_eq_true rfl), (Nat.le_of_ble_eq_true rfl)⟩ dX3_readInto_202 rfl (Nat.le_of_ble_eq_true rfl) (Nat.le_of_ble_eq_true rfl)
                    have LL49 : ∀ (fu48 : Nat) (v42 : Int32) (S43 : m_S) (kk44 nn45 : Nat), kk44 + 10 * fu48 ≤ 740 → nn45 + 60 * fu48 ≤ 4440 → m_fx (F_X3_readInto_167 Z a0 p1 j41) fu48 (v42, S43) = some (rZ9, SZ9) → m_G x Z S43 3 kk44 nn45 167 [(0, .ref a0), (1, .ref p1), (2, .int v42)] [] := by
                      intro fu48
                      induction fu48 with
                      | zero => intros; rename_i hf; cases hf
                      | succ fu48 ih47 =>
                        intro v42 S43 kk44 nn45 hk9 hn9 hf
                        replace hf : F_X3_readInto_167 Z a0 p1 j41 (m_fx (F_X3_readInto_167 Z a0 p1 j41) fu48) (v42, S43) = some (rZ9, SZ9) := hf
                        unfold F_X3_readInto_167 at hf
                        dsimp only at hf
                        refine r_iload_n (q := 168) C 2 dX3_readInto_167 rfl rfl ?_
                        refine r_bipush (q := 170) (v := (30 : Int32)) C dX3_readInto_168 (by decide) rfl ?_
                        refine r_icmp_gt (t := 193) (q := 173) C dX3_readInto_170 (by decide) rfl (fun c50 => ?_) (fun c50 => ?_)
                        · replace hf := m_if1 hf c50
                          refine r_sub [0] rfl ?_
                          refine r_wid (k' := 740) (n' := 4440) (by omega) (by omega) ?_
                          exact J41 S43 hf
                        · replace hf := m_if0 hf c50
                          refine r_aload_n (q := 174) C 0 dX3_readInto_173 rfl rfl ?_
                          refine r_ldcS (q := 176) (tx := "cassette") (t := 5) C (by decide +kernel) dX3_readInto_174 rfl ?_
                          obtain ⟨v52, h51, hf⟩ := m_b1_of hf
                          refine r_callV (mc := 0) (ms := 0) (q := 179) (st1 := [.int v52]) C (c_X3_at hl h51) rfl w_332 w_333 w_1300 w_3 w_334 hd_X3_at rfl (by decide) g1 rfl rfl rfl ⟨(Nat.le_of_ble_eq_true rfl), (Nat.le_of_ble_eq_true rfl)⟩ (Nat.le_of_ble_eq_true rfl) ⟨(show kk44 ≤ 741 by omega), (show nn45 ≤ 4446 by omega)⟩ dX3_readInto_176 rfl rfl ?_
                          refine r_if_eq (t := 193) (q := 182) C dX3_readInto_179 (by decide) rfl (fun c53 => ?_) (fun c53 => ?_)
                          · replace hf := m_if1 hf c53
                            refine r_sub [0] rfl ?_
                            refine r_wid (k' := 740) (n' := 4440) (by omega) (by omega) ?_
                            exact J41 S43 hf
                          · replace hf := m_if0 hf c53
                            refine r_aload_n (q := 183) C 0 dX3_readInto_182 rfl rfl ?_
                            refine r_aload_n (q := 184) C 1 dX3_readInto_183 rfl rfl ?_
                            rcases m_bx_of hf with ⟨_u, S55, h54, hf⟩ | ⟨x56, S55, h54, hf⟩
                            · refine x_okV (q := 187) (mcQ := 741) (msQ := 4446) (retQ := none) (st1 := []) C (c_X3_readCassette hl h54) rfl w_468 w_469 w_1312 w_3 w_470 hd_X3_readCassette rfl (by decide) g1 rfl rfl rfl ⟨(Nat.le_of_ble_eq_true rfl), (Nat.le_of_ble_eq_true rfl)⟩ (Nat.le_of_ble_eq_true rfl) ⟨(show kk44 + 10 ≤ 741 by omega), (show nn45 + 60 ≤ 4446 by omega)⟩ dX3_readInto_184 rfl (show kk44 + 10 ≤ 741 by omega) (show nn45 + 60 ≤ 4446 by omega) rfl ?_
                              obtain ⟨v57, e58, hf⟩ := m_lt_of hf
                              refine r_iinc (q := 190) (v := v57) (L' := [(2, .int v57), (0, .ref a0), (1, .ref p1)]) C 2 dX3_readInto_187 rfl (by rw [e58]; rfl) rfl (by decide) rfl ?_
                              refine r_goto (t := 167) C dX3_readInto_190 (by decide) ?_
                              refine r_sub [1, 2, 0] rfl ?_
                              exact ih47 v57 S55 (kk44 + 10) (nn45 + 60) (by omega) (by omega) hf
                            · obtain ⟨rfl, rfl⟩ := Prod.mk.inj hf
                              exact x_erV C (c_X3_readCassette hl h54) F rfl w_468 w_469 w_1312 w_3 w_470 hd_X3_readCassette rfl (by decide) g1 rfl rfl rfl ⟨(Nat.le_of_ble_eq_true rfl), (Nat.le_of_ble_eq_true rfl)⟩ (Nat.le_of_ble_eq_true rfl) ⟨(show kk44 + 10 ≤ 741 by omega), (show nn45 + 60 ≤ 4446 by omega)⟩ dX3_readInto_184 rfl (show kk44 + 10 ≤ 741 by omega) (show nn45 + 60 ≤ 4446 by omega)
                    refine r_sub [1, 2, 0] rfl ?_
                    exact LL49 32 (0 : Int32) S30 420 2520 (by omega) (by omega) hf
                  · obtain ⟨rfl, rfl⟩ := Prod.mk.inj hf
                    exact x_erV C (c_X3_refuse hl h29) F rfl w_411 w_412 w_1305 w_3 w_413 hd_X3_refuse rfl (by decide) g1 rfl rfl rfl ⟨(Nat.le_of_ble_eq_true rfl), (Nat.le_of_ble_eq_true rfl)⟩ (Nat.le_of_ble_eq_true rfl) ⟨(Nat.le_of_ble_eq_true rfl), (Nat.le_of_ble_eq_true rfl)⟩ dX3_readInto_162 rfl (Nat.le_of_ble_eq_true rfl) (Nat.le_of_ble_eq_true rfl)
                have LL68 : ∀ (fu67 : Nat) (v61 : Int32) (S62 : m_S) (kk63 nn64 : Nat), kk63 + 13 * fu67 ≤ 419 → nn64 + 78 * fu67 ≤ 2514 → m_fx (F_X3_readInto_132 Z a0 p1 j60) fu67 (v61, S62) = some (rZ9, SZ9) → m_G x Z S62 3 kk63 nn64 132 [(0, .ref a0), (1, .ref p1), (2, .int v61)] [] := by
                  intro fu67
                  induction fu67 with
                  | zero => intros; rename_i hf; cases hf
                  | succ fu67 ih66 =>
                    intro v61 S62 kk63 nn64 hk9 hn9 hf
                    replace hf : F_X3_readInto_132 Z a0 p1 j60 (m_fx (F_X3_readInto_132 Z a0 p1 j60) fu67) (v61, S62) = some (rZ9, SZ9) := hf
                    unfold F_X3_readInto_132 at hf
                    dsimp only at hf
                    refine r_iload_n (q := 133) C 2 dX3_readInto_132 rfl rfl ?_
                    refine r_bipush (q := 135) (v := (6 : Int32)) C dX3_readInto_133 (by decide) rfl ?_
                    refine r_icmp_ge (t := 159) (q := 138) C dX3_readInto_135 (by decide) rfl (fun c69 => ?_) (fun c69 => ?_)
                    · replace hf := m_if1 hf c69
                      refine r_sub [0, 1] rfl ?_
                      refine r_wid (k' := 419) (n' := 2514) (by omega) (by omega) ?_
                      exact J60 S62 hf
                    · replace hf := m_if0 hf c69
                      refine r_aload_n (q := 139) C 0 dX3_readInto_138 rfl rfl ?_
                      refine r_ldcS (q := 141) (tx := "case") (t := 4) C (by decide +kernel) dX3_readInto_139 rfl ?_
                      obtain ⟨v71, h70, hf⟩ := m_b1_of hf
                      refine r_callV (mc := 0) (ms := 0) (q := 144) (st1 := [.int v71]) C (c_X3_at hl h70) rfl w_332 w_333 w_1300 w_3 w_334 hd_X3_at rfl (by decide) g1 rfl rfl rfl ⟨(Nat.le_of_ble_eq_true rfl), (Nat.le_of_ble_eq_true rfl)⟩ (Nat.le_of_ble_eq_true rfl) ⟨(show kk63 ≤ 741 by omega), (show nn64 ≤ 4446 by omega)⟩ dX3_readInto_141 rfl rfl ?_
                      refine r_if_eq (t := 159) (q := 147) C dX3_readInto_144 (by decide) rfl (fun c72 => ?_) (fun c72 => ?_)
                      · replace hf := m_if1 hf c72
                        refine r_sub [0, 1] rfl ?_
                        refine r_wid (k' := 419) (n' := 2514) (by omega) (by omega) ?_
                        exact J60 S62 hf
                      · replace hf := m_if0 hf c72
                        refine r_aload_n (q := 148) C 0 dX3_readInto_147 rfl rfl ?_
                        refine r_aload_n (q := 149) C 1 dX3_readInto_148 rfl rfl ?_
                        refine r_iload_n (q := 150) C 2 dX3_readInto_149 rfl rfl ?_
                        rcases m_bx_of hf with ⟨_u, S74, h73, hf⟩ | ⟨x75, S74, h73, hf⟩
                        · refine x_okV (q := 153) (mcQ := 741) (msQ := 4446) (retQ := none) (st1 := []) C (c_X3_readCase hl h73) rfl w_453 w_454 w_1311 w_3 w_455 hd_X3_readCase rfl (by decide) g1 rfl rfl rfl ⟨(Nat.le_of_ble_eq_true rfl), (Nat.le_of_ble_eq_true rfl)⟩ (Nat.le_of_ble_eq_true rfl) ⟨(show kk63 + 13 ≤ 741 by omega), (show nn64 + 78 ≤ 4446 by omega)⟩ dX3_readInto_150 rfl (show kk63 + 13 ≤ 741 by omega) (show nn64 + 78 ≤ 4446 by omega) rfl ?_
                          obtain ⟨v76, e77, hf⟩ := m_lt_of hf
                          refine r_iinc (q := 156) (v := v76) (L' := [(2, .int v76), (0, .ref a0), (1, .ref p1)]) C 2 dX3_readInto_153 rfl (by rw [e77]; rfl) rfl (by decide) rfl ?_
                          refine r_goto (t := 132) C dX3_readInto_156 (by decide) ?_
                          refine r_sub [1, 2, 0] rfl ?_
                          exact ih66 v76 S74 (kk63 + 13) (nn64 + 78) (by omega) (by omega) hf
                        · obtain ⟨rfl, rfl⟩ := Prod.mk.inj hf
                          exact x_erV C (c_X3_readCase hl h73) F rfl w_453 w_454 w_1311 w_3 w_455 hd_X3_readCase rfl (by decide) g1 rfl rfl rfl ⟨(Nat.le_of_ble_eq_true rfl), (Nat.le_of_ble_eq_true rfl)⟩ (Nat.le_of_ble_eq_true rfl) ⟨(show kk63 + 13 ≤ 741 by omega), (show nn64 + 78 ≤ 4446 by omega)⟩ dX3_readInto_150 rfl (show kk63 + 13 ≤ 741 by omega) (show nn64 + 78 ≤ 4446 by omega)
                refine r_sub [1, 2, 0] rfl ?_
                exact LL68 7 (0 : Int32) S26 328 1968 (by omega) (by omega) hf
              · obtain ⟨rfl, rfl⟩ := Prod.mk.inj hf
                exact x_erV C (c_X3_refuse hl h25) F rfl w_411 w_412 w_1305 w_3 w_413 hd_X3_refuse rfl (by decide) g1 rfl rfl rfl ⟨(Nat.le_of_ble_eq_true rfl), (Nat.le_of_ble_eq_true rfl)⟩ (Nat.le_of_ble_eq_true rfl) ⟨(Nat.le_of_ble_eq_true rfl), (Nat.le_of_ble_eq_true rfl)⟩ dX3_readInto_127 rfl (Nat.le_of_ble_eq_true rfl) (Nat.le_of_ble_eq_true rfl)
            have LL87 : ∀ (fu86 : Nat) (v80 : Int32) (S81 : m_S) (kk82 nn83 : Nat), kk82 + 41 * fu86 ≤ 327 → nn83 + 246 * fu86 ≤ 1962 → m_fx (F_X3_readInto_98 Z a0 p1 j79) fu86 (v80, S81) = some (rZ9, SZ9) → m_G x Z S81 3 kk82 nn83 98 [(0, .ref a0), (1, .ref p1), (2, .int v80)] [] := by
              intro fu86
              induction fu86 with
              | zero => intros; rename_i hf; cases hf
              | succ fu86 ih85 =>
                intro v80 S81 kk82 nn83 hk9 hn9 hf
                replace hf : F_X3_readInto_98 Z a0 p1 j79 (m_fx (F_X3_readInto_98 Z a0 p1 j79) fu86) (v80, S81) = some (rZ9, SZ9) := hf
                unfold F_X3_readInto_98 at hf
                dsimp only at hf
                refine r_iload_n (q := 99) C 2 dX3_readInto_98 rfl rfl ?_
                refine r_iconst (q := 100) (v := (4 : Int32)) C dX3_readInto_99 (by decide) rfl ?_
                refine r_icmp_ge (t := 124) (q := 103) C dX3_readInto_100 (by decide) rfl (fun c88 => ?_) (fun c88 => ?_)
                · replace hf := m_if1 hf c88
                  refine r_sub [0, 1] rfl ?_
                  refine r_wid (k' := 327) (n' := 1962) (by omega) (by omega) ?_
                  exact J79 S81 hf
                · replace hf := m_if0 hf c88
                  refine r_aload_n (q := 104) C 0 dX3_readInto_103 rfl rfl ?_
                  refine r_ldcS (q := 106) (tx := "kind") (t := 3) C (by decide +kernel) dX3_readInto_104 rfl ?_
                  obtain ⟨v90, h89, hf⟩ := m_b1_of hf
                  refine r_callV (mc := 0) (ms := 0) (q := 109) (st1 := [.int v90]) C (c_X3_at hl h89) rfl w_332 w_333 w_1300 w_3 w_334 hd_X3_at rfl (by decide) g1 rfl rfl rfl ⟨(Nat.le_of_ble_eq_true rfl), (Nat.le_of_ble_eq_true rfl)⟩ (Nat.le_of_ble_eq_true rfl) ⟨(show kk82 ≤ 741 by omega), (show nn83 ≤ 4446 by omega)⟩ dX3_readInto_106 rfl rfl ?_
                  refine r_if_eq (t := 124) (q := 112) C dX3_readInto_109 (by decide) rfl (fun c91 => ?_) (fun c91 => ?_)
                  · replace hf := m_if1 hf c91
                    refine r_sub [0, 1] rfl ?_
                    refine r_wid (k' := 327) (n' := 1962) (by omega) (by omega) ?_
                    exact J79 S81 hf
                  · replace hf := m_if0 hf c91
                    refine r_aload_n (q := 113) C 0 dX3_readInto_112 rfl rfl ?_
                    refine r_aload_n (q := 114) C 1 dX3_readInto_113 rfl rfl ?_
                    refine r_iload_n (q := 115) C 2 dX3_readInto_114 rfl rfl ?_
                    rcases m_bx_of hf with ⟨_u, S93, h92, hf⟩ | ⟨x94, S93, h92, hf⟩
                    · refine x_okV (q := 118) (mcQ := 741) (msQ := 4446) (retQ := none) (st1 := []) C (c_X3_readKind hl h92) rfl w_421 w_422 w_1307 w_3 w_423 hd_X3_readKind rfl (by decide) g1 rfl rfl rfl ⟨(Nat.le_of_ble_eq_true rfl), (Nat.le_of_ble_eq_true rfl)⟩ (Nat.le_of_ble_eq_true rfl) ⟨(show kk82 + 41 ≤ 741 by omega), (show nn83 + 246 ≤ 4446 by omega)⟩ dX3_readInto_115 rfl (show kk82 + 41 ≤ 741 by omega) (show nn83 + 246 ≤ 4446 by omega) rfl ?_
                      obtain ⟨v95, e96, hf⟩ := m_lt_of hf
                      refine r_iinc (q := 121) (v := v95) (L' := [(2, .int v95), (0, .ref a0), (1, .ref p1)]) C 2 dX3_readInto_118 rfl (by rw [e96]; rfl) rfl (by decide) rfl ?_
                      refine r_goto (t := 98) C dX3_readInto_121 (by decide) ?_
                      refine r_sub [1, 2, 0] rfl ?_
                      exact ih85 v95 S93 (kk82 + 41) (nn83 + 246) (by omega) (by omega) hf
                    · obtain ⟨rfl, rfl⟩ := Prod.mk.inj hf
                      exact x_erV C (c_X3_readKind hl h92) F rfl w_421 w_422 w_1307 w_3 w_423 hd_X3_readKind rfl (by decide) g1 rfl rfl rfl ⟨(Nat.le_of_ble_eq_true rfl), (Nat.le_of_ble_eq_true rfl)⟩ (Nat.le_of_ble_eq_true rfl) ⟨(show kk82 + 41 ≤ 741 by omega), (show nn83 + 246 ≤ 4446 by omega)⟩ dX3_readInto_115 rfl (show kk82 + 41 ≤ 741 by omega) (show nn83 + 246 ≤ 4446 by omega)
            refine r_sub [1, 2, 0] rfl ?_
            exact LL87 5 (0 : Int32) S22 122 732 (by omega) (by omega) hf
          · obtain ⟨rfl, rfl⟩ := Prod.mk.inj hf
            exact x_erV C (c_X3_refuse hl h21) F rfl w_411 w_412 w_1305 w_3 w_413 hd_X3_refuse rfl (by decide) g1 rfl rfl rfl ⟨(Nat.le_of_ble_eq_true rfl), (Nat.le_of_ble_eq_true rfl)⟩ (Nat.le_of_ble_eq_true rfl) ⟨(Nat.le_of_ble_eq_true rfl), (Nat.le_of_ble_eq_true rfl)⟩ dX3_readInto_93 rfl (Nat.le_of_ble_eq_true rfl) (Nat.le_of_ble_eq_true rfl)
        have LL106 : ∀ (fu105 : Nat) (v99 : Int32) (S100 : m_S) (kk101 nn102 : Nat), kk101 + 7 * fu105 ≤ 121 → nn102 + 42 * fu105 ≤ 726 → m_fx (F_X3_readInto_64 Z a0 p1 j98) fu105 (v99, S100) = some (rZ9, SZ9) → m_G x Z S100 3 kk101 nn102 64 [(0, .ref a0), (1, .ref p1), (2, .int v99)] [] := by
          intro fu105
          induction fu105 with
          | zero => intros; rename_i hf; cases hf
          | succ fu105 ih104 =>
            intro v99 S100 kk101 nn102 hk9 hn9 hf
            replace hf : F_X3_readInto_64 Z a0 p1 j98 (m_fx (F_X3_readInto_64 Z a0 p1 j98) fu105) (v99, S100) = some (rZ9, SZ9) := hf
            unfold F_X3_readInto_64 at hf
            dsimp only at hf
            refine r_iload_n (q := 65) C 2 dX3_readInto_64 rfl rfl ?_
            refine r_bipush (q := 67) (v := (6 : Int32)) C dX3_readInto_65 (by decide) rfl ?_
            refine r_icmp_ge (t := 90) (q := 70) C dX3_readInto_67 (by decide) rfl (fun c107 => ?_) (fun c107 => ?_)
            · replace hf := m_if1 hf c107
              refine r_sub [0, 1] rfl ?_
              refine r_wid (k' := 121) (n' := 726) (by omega) (by omega) ?_
              exact J98 S100 hf
            · replace hf := m_if0 hf c107
              refine r_aload_n (q := 71) C 0 dX3_readInto_70 rfl rfl ?_
              refine r_ldcS (q := 73) (tx := "visitors") (t := 2) C (by decide +kernel) dX3_readInto_71 rfl ?_
              obtain ⟨v109, h108, hf⟩ := m_b1_of hf
              refine r_callV (mc := 0) (ms := 0) (q := 76) (st1 := [.int v109]) C (c_X3_at hl h108) rfl w_332 w_333 w_1300 w_3 w_334 hd_X3_at rfl (by decide) g1 rfl rfl rfl ⟨(Nat.le_of_ble_eq_true rfl), (Nat.le_of_ble_eq_true rfl)⟩ (Nat.le_of_ble_eq_true rfl) ⟨(show kk101 ≤ 741 by omega), (show nn102 ≤ 4446 by omega)⟩ dX3_readInto_73 rfl rfl ?_
              refine r_if_eq (t := 90) (q := 79) C dX3_readInto_76 (by decide) rfl (fun c110 => ?_) (fun c110 => ?_)
              · replace hf := m_if1 hf c110
                refine r_sub [0, 1] rfl ?_
                refine r_wid (k' := 121) (n' := 726) (by omega) (by omega) ?_
                exact J98 S100 hf
              · replace hf := m_if0 hf c110
                refine r_aload_n (q := 80) C 0 dX3_readInto_79 rfl rfl ?_
                refine r_aload_n (q := 81) C 1 dX3_readInto_80 rfl rfl ?_
                rcases m_bx_of hf with ⟨_u, S112, h111, hf⟩ | ⟨x113, S112, h111, hf⟩
                · refine x_okV (q := 84) (mcQ := 741) (msQ := 4446) (retQ := none) (st1 := []) C (c_X3_readVisitors hl h111) rfl w_414 w_415 w_1306 w_3 w_416 hd_X3_readVisitors rfl (by decide) g1 rfl rfl rfl ⟨(Nat.le_of_ble_eq_true rfl), (Nat.le_of_ble_eq_true rfl)⟩ (Nat.le_of_ble_eq_true rfl) ⟨(show kk101 + 7 ≤ 741 by omega), (show nn102 + 42 ≤ 4446 by omega)⟩ dX3_readInto_81 rfl (show kk101 + 7 ≤ 741 by omega) (show nn102 + 42 ≤ 4446 by omega) rfl ?_
                  obtain ⟨v114, e115, hf⟩ := m_lt_of hf
                  refine r_iinc (q := 87) (v := v114) (L' := [(2, .int v114), (0, .ref a0), (1, .ref p1)]) C 2 dX3_readInto_84 rfl (by rw [e115]; rfl) rfl (by decide) rfl ?_
                  refine r_goto (t := 64) C dX3_readInto_87 (by decide) ?_
                  refine r_sub [1, 2, 0] rfl ?_
                  exact ih104 v114 S112 (kk101 + 7) (nn102 + 42) (by omega) (by omega) hf
                · obtain ⟨rfl, rfl⟩ := Prod.mk.inj hf
                  exact x_erV C (c_X3_readVisitors hl h111) F rfl w_414 w_415 w_1306 w_3 w_416 hd_X3_readVisitors rfl (by decide) g1 rfl rfl rfl ⟨(Nat.le_of_ble_eq_true rfl), (Nat.le_of_ble_eq_true rfl)⟩ (Nat.le_of_ble_eq_true rfl) ⟨(show kk101 + 7 ≤ 741 by omega), (show nn102 + 42 ≤ 4446 by omega)⟩ dX3_readInto_81 rfl (show kk101 + 7 ≤ 741 by omega) (show nn102 + 42 ≤ 4446 by omega)
        refine r_sub [1, 2, 0] rfl ?_
        exact LL106 7 (0 : Int32) S18 72 432 (by omega) (by omega) hf
      · obtain ⟨rfl, rfl⟩ := Prod.mk.inj hf
        exact x_erV C (c_X3_refuse hl h17) F rfl w_411 w_412 w_1305 w_3 w_413 hd_X3_refuse rfl (by decide) g1 rfl rfl rfl ⟨(Nat.le_of_ble_eq_true rfl), (Nat.le_of_ble_eq_true rfl)⟩ (Nat.le_of_ble_eq_true rfl) ⟨(Nat.le_of_ble_eq_true rfl), (Nat.le_of_ble_eq_true rfl)⟩ dX3_readInto_59 rfl (Nat.le_of_ble_eq_true rfl) (Nat.le_of_ble_eq_true rfl)
    have LL125 : ∀ (fu124 : Nat) (v118 : Int32) (S119 : m_S) (kk120 nn121 : Nat), kk120 + 5 * fu124 ≤ 71 → nn121 + 30 * fu124 ≤ 426 → m_fx (F_X3_readInto_30 Z a0 p1 j117) fu124 (v118, S119) = some (rZ9, SZ9) → m_G x Z S119 3 kk120 nn121 30 [(0, .ref a0), (1, .ref p1), (2, .int v118)] [] := by
      intro fu124
      induction fu124 with
      | zero => intros; rename_i hf; cases hf
      | succ fu124 ih123 =>
        intro v118 S119 kk120 nn121 hk9 hn9 hf
        replace hf : F_X3_readInto_30 Z a0 p1 j117 (m_fx (F_X3_readInto_30 Z a0 p1 j117) fu124) (v118, S119) = some (rZ9, SZ9) := hf
        unfold F_X3_readInto_30 at hf
        dsimp only at hf
        refine r_iload_n (q := 31) C 2 dX3_readInto_30 rfl rfl ?_
        refine r_bipush (q := 33) (v := (12 : Int32)) C dX3_readInto_31 (by decide) rfl ?_
        refine r_icmp_ge (t := 56) (q := 36) C dX3_readInto_33 (by decide) rfl (fun c126 => ?_) (fun c126 => ?_)
        · replace hf := m_if1 hf c126
          refine r_sub [0, 1] rfl ?_
          refine r_wid (k' := 71) (n' := 426) (by omega) (by omega) ?_
          exact J117 S119 hf
        · replace hf := m_if0 hf c126
          refine r_aload_n (q := 37) C 0 dX3_readInto_36 rfl rfl ?_
          refine r_ldcS (q := 39) (tx := "season") (t := 1) C (by decide +kernel) dX3_readInto_37 rfl ?_
          obtain ⟨v128, h127, hf⟩ := m_b1_of hf
          refine r_callV (mc := 0) (ms := 0) (q := 42) (st1 := [.int v128]) C (c_X3_at hl h127) rfl w_332 w_333 w_1300 w_3 w_334 hd_X3_at rfl (by decide) g1 rfl rfl rfl ⟨(Nat.le_of_ble_eq_true rfl), (Nat.le_of_ble_eq_true rfl)⟩ (Nat.le_of_ble_eq_true rfl) ⟨(show kk120 ≤ 741 by omega), (show nn121 ≤ 4446 by omega)⟩ dX3_readInto_39 rfl rfl ?_
          refine r_if_eq (t := 56) (q := 45) C dX3_readInto_42 (by decide) rfl (fun c129 => ?_) (fun c129 => ?_)
          · replace hf := m_if1 hf c129
            refine r_sub [0, 1] rfl ?_
            refine r_wid (k' := 71) (n' := 426) (by omega) (by omega) ?_
            exact J117 S119 hf
          · replace hf := m_if0 hf c129
            refine r_aload_n (q := 46) C 0 dX3_readInto_45 rfl rfl ?_
            refine r_aload_n (q := 47) C 1 dX3_readInto_46 rfl rfl ?_
            rcases m_bx_of hf with ⟨_u, S131, h130, hf⟩ | ⟨x132, S131, h130, hf⟩
            · refine x_okV (q := 50) (mcQ := 741) (msQ := 4446) (retQ := none) (st1 := []) C (c_X3_readSeason hl h130) rfl w_400 w_401 w_1304 w_3 w_402 hd_X3_readSeason rfl (by decide) g1 rfl rfl rfl ⟨(Nat.le_of_ble_eq_true rfl), (Nat.le_of_ble_eq_true rfl)⟩ (Nat.le_of_ble_eq_true rfl) ⟨(show kk120 + 5 ≤ 741 by omega), (show nn121 + 30 ≤ 4446 by omega)⟩ dX3_readInto_47 rfl (show kk120 + 5 ≤ 741 by omega) (show nn121 + 30 ≤ 4446 by omega) rfl ?_
              obtain ⟨v133, e134, hf⟩ := m_lt_of hf
              refine r_iinc (q := 53) (v := v133) (L' := [(2, .int v133), (0, .ref a0), (1, .ref p1)]) C 2 dX3_readInto_50 rfl (by rw [e134]; rfl) rfl (by decide) rfl ?_
              refine r_goto (t := 30) C dX3_readInto_53 (by decide) ?_
              refine r_sub [1, 2, 0] rfl ?_
              exact ih123 v133 S131 (kk120 + 5) (nn121 + 30) (by omega) (by omega) hf
            · obtain ⟨rfl, rfl⟩ := Prod.mk.inj hf
              exact x_erV C (c_X3_readSeason hl h130) F rfl w_400 w_401 w_1304 w_3 w_402 hd_X3_readSeason rfl (by decide) g1 rfl rfl rfl ⟨(Nat.le_of_ble_eq_true rfl), (Nat.le_of_ble_eq_true rfl)⟩ (Nat.le_of_ble_eq_true rfl) ⟨(show kk120 + 5 ≤ 741 by omega), (show nn121 + 30 ≤ 4446 by omega)⟩ dX3_readInto_47 rfl (show kk120 + 5 ≤ 741 by omega) (show nn121 + 30 ≤ 4446 by omega)
    refine r_sub [1, 2, 0] rfl ?_
    exact LL125 13 (0 : Int32) S14 6 36 (by omega) (by omega) hf
  · obtain ⟨rfl, rfl⟩ := Prod.mk.inj hf
    exact x_erV C (c_X3_readMuseum hl h13) F rfl w_326 w_327 w_1298 w_3 w_328 hd_X3_readMuseum rfl (by decide) g1 rfl rfl rfl ⟨(Nat.le_of_ble_eq_true rfl), (Nat.le_of_ble_eq_true rfl)⟩ (Nat.le_of_ble_eq_true rfl) ⟨(Nat.le_of_ble_eq_true rfl), (Nat.le_of_ble_eq_true rfl)⟩ dX3_readInto_25 rfl (Nat.le_of_ble_eq_true rfl) (Nat.le_of_ble_eq_true rfl)
