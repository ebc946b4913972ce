/-! .. -/
def ops_X5 (a0 h : Nat) : List m_O := [o_I a0 0 0, o_I a0 1 0, o_I a0 2 0, o_n 11 12, o_R a0 3 (some h), o_n 11 12, o_R a0 4 (some (h + 1)), o_n 11 24, o_R a0 5 (some (h + 2)), o_I a0 6 0, o_n 15 4, o_R a0 7 (some (h + 3)), o_I a0 8 0, o_n 18 6, o_R a0 9 (some (h + 4)), o_I a0 10 0, o_n 1 0] ++ (ops_X1 (h + 5) (h + 6) ++ ([o_R (h + 3) 0 (some (h + 5)), o_n 1 0] ++ (ops_X1 (h + 8) (h + 9) ++ ([o_R (h + 3) 1 (some (h + 8)), o_n 1 0] ++ (ops_X1 (h + 11) (h + 12) ++ ([o_R (h + 3) 2 (some (h + 11)), o_n 1 0] ++ (ops_X1 (h + 14) (h + 15) ++ ([o_R (h + 3) 3 (some (h + 14)), o_n 7 0] ++ (ops_X7 (h + 17) (h + 18) ++ ([o_R (h + 4) 0 (some (h + 17)), o_n 7 0] ++ (ops_X7 (h + 25) (h + 26) ++ ([o_R (h + 4) 1 (some (h + 25)), o_n 7 0] ++ (ops_X7 (h + 33) (h + 34) ++ ([o_R (h + 4) 2 (some (h + 33)), o_n 7 0] ++ (ops_X7 (h + 41) (h + 42) ++ ([o_R (h + 4) 3 (some (h + 41)), o_n 7 0] ++ (ops_X7 (h + 49) (h + 50) ++ ([o_R (h + 4) 4 (some (h + 49)), o_n 7 0] ++ (ops_X7 (h + 57) (h + 58) ++ ([o_R (h + 4) 5 (some (h + 57))]))))))))))))))))))))
theorem ct_X5 {a0 h : Nat} : m_ct (ops_X5 a0 h) = 65 := by simp only [ops_X5, m_ct_app, m_ct, ct_X1, ct_X7]
theorem tg_X5 {a0 h a : Nat} {o : m_O} (ho : o ∈ ops_X5 a0 h) (h1 : a ≠ a0) (h2 : a < h) : m_tg o ≠ some a := by
  simp only [ops_X5, List.mem_append] at ho
  rcases ho with ho | ho | ho | ho | ho | ho | ho | ho | ho | ho | ho | ho | ho | ho | ho | ho | ho | ho | ho | ho | ho
  · simp only [List.mem_cons, List.not_mem_nil, or_false] at ho
    rcases ho with rfl | rfl | rfl | rfl | rfl | rfl | rfl | rfl | rfl | rfl | rfl | rfl | rfl | rfl | rfl | rfl | rfl <;> simp [m_tg] <;> omega
  · exact tg_X1 ho (by omega) (by omega)
  · simp only [List.mem_cons, List.not_mem_nil, or_false] at ho
    rcases ho with rfl | rfl <;> simp [m_tg] <;> omega
  · exact tg_X1 ho (by omega) (by omega)
  · simp only [List.mem_cons, List.not_mem_nil, or_false] at ho
    rcases ho with rfl | rfl <;> simp [m_tg] <;> omega
  · exact tg_X1 ho (by omega) (by omega)
  · simp only [List.mem_cons, List.not_mem_nil, or_false] at ho
    rcases ho with rfl | rfl <;> simp [m_tg] <;> omega
  · exact tg_X1 ho (by omega) (by omega)
  · simp only [List.mem_cons, List.not_mem_nil, or_false] at ho
    rcases ho with rfl | rfl <;> simp [m_tg] <;> omega
  · exact tg_X7 ho (by omega) (by omega)
  · simp only [List.mem_cons, List.not_mem_nil, or_false] at ho
    rcases ho with rfl | rfl <;> simp [m_tg] <;> omega
  · exact tg_X7 ho (by omega) (by omega)
  · simp only [List.mem_cons, List.not_mem_nil, or_false] at ho
    rcases ho with rfl | rfl <;> simp [m_tg] <;> omega
  · exact tg_X7 ho (by omega) (by omega)
  · simp only [List.mem_cons, List.not_mem_nil, or_false] at ho
    rcases ho with rfl | rfl <;> simp [m_tg] <;> omega
  · exact tg_X7 ho (by omega) (by omega)
  · simp only [List.mem_cons, List.not_mem_nil, or_false] at ho
    rcases ho with rfl | rfl <;> simp [m_tg] <;> omega
  · exact tg_X7 ho (by omega) (by omega)
  · simp only [List.mem_cons, List.not_mem_nil, or_false] at ho
    rcases ho with rfl | rfl <;> simp [m_tg] <;> omega
  · exact tg_X7 ho (by omega) (by omega)
  · simp only [List.mem_cons, List.not_mem_nil, or_false] at ho
    subst ho; simp [m_tg] <;> omega
abbrev rm_X5_init : Room := { frames := 3, cells := 65, slots := 348, locals := 61 }
theorem hd_X5_init : yX5_init.cls ≠ "java/lang/invoke/MethodHandle" ∧ yX5_init.cls ≠ "java/lang/invoke/VarHandle" ∧ (parseMethodDescriptor yX5_init.desc).map (fun d => d.parameters.length) = some 0 := by decide +kernel
theorem f_n5 (S : m_S) (a : Nat) : ∀ j, j < 11 → defaultValue (tyX5 j) = vp_V (m_fs 5 (m_zr S a) a) j := by
  intro j hj
  iterate 11 (rcases j with _ | j; · simp [tyX5, m_fs, m_zr, vp_V, va_rf, defaultValue])
  omega
set_option maxHeartbeats 4000000 in
set_option maxRecDepth 100000 in
theorem c_X5_init {l : Launch} (hl : l.stackTraces = false) {y0 : m_Y} {a0 h : Nat} (g0 : m_okn y0.1 a0 5 0) (h0 : a0 < h) (s0 : y0.2.2 = h) : m_CI l yX5_init (.code yX5_init cX5_init 2 none :: m_ws) rm_X5_init 65 348 [.ref a0] y0 (m_rn y0 (ops_X5 a0 h)).1 (m_rn y0 (ops_X5 a0 h)).2.1 (some (h + 65)) := by
  refine m_entI hl (by decide) (Nat.le_of_ble_eq_true rfl) (fun x C F hini => ?_)
  have C : m_H x l RX5 cX5_init 2 rm_X5_init := C
  show m_N x y0 2 0 0 0 [(0, .ref a0)] []
  refine n_aload_n (q := 1) C 0 dX5_init_0 rfl rfl ?_
  refine n_obj (q := 4) C w_64 (by decide) (by decide) dX5_init_1 rfl ?_
  refine n_aload_n (q := 5) C 0 dX5_init_4 rfl rfl ?_
  refine n_iconst (q := 6) (v := 0) C dX5_init_5 (by decide) rfl ?_
  obtain ⟨y1, ey1⟩ : ∃ q, q = m_do y0 (o_I a0 0 0) := ⟨_, rfl⟩
  refine n_put (q := 9) (y' := y1) C tyX5 (ci := 5) (f := 0) rfl (by decide) uX5 tyX5_ok nmX5 (by decide) w_114 rfl rfl (tyX5_ok 0 (by decide)) rfl rfl (Nat.le_of_ble_eq_true rfl) (by rw [ey1]; simp [m_fs, m_do, m_pI, va_rf]) (fun cy b hb => by rw [ey1]; exact m_cI b hb) dX5_init_6 g0.1 (by rw [ey1]; rfl) (by rw [ey1]; rfl) rfl ?_
  have G0 : m_okn y1.1 a0 5 0 := by rw [ey1]; exact g0
  have sy1 : y1.2.2 = h := by rw [ey1]; exact s0
  refine n_aload_n (q := 10) C 0 dX5_init_9 rfl rfl ?_
  refine n_iconst (q := 11) (v := 0) C dX5_init_10 (by decide) rfl ?_
  obtain ⟨y2, ey2⟩ : ∃ q, q = m_do y1 (o_I a0 1 0) := ⟨_, rfl⟩
  refine n_put (q := 14) (y' := y2) C tyX5 (ci := 5) (f := 1) rfl (by decide) uX5 tyX5_ok nmX5 (by decide) w_115 rfl rfl (tyX5_ok 1 (by decide)) rfl rfl (Nat.le_of_ble_eq_true rfl) (by rw [ey2]; simp [m_fs, m_do, m_pI, va_rf]) (fun cy b hb => by rw [ey2]; exact m_cI b hb) dX5_init_11 G0.1 (by rw [ey2]; rfl) (by rw [ey2]; rfl) rfl ?_
  have G1 : m_okn y2.1 a0 5 0 := by rw [ey2]; exact G0
  have sy2 : y2.2.2 = h := by rw [ey2]; exact sy1
  refine n_aload_n (q := 15) C 0 dX5_init_14 rfl rfl ?_
  refine n_iconst (q := 16) (v := 0) C dX5_init_15 (by decide) rfl ?_
  obtain ⟨y3, ey3⟩ : ∃ q, q = m_do y2 (o_I a0 2 0) := ⟨_, rfl⟩
  refine n_put (q := 19) (y' := y3) C tyX5 (ci := 5) (f := 2) rfl (by decide) uX5 tyX5_ok nmX5 (by decide) w_116 rfl rfl (tyX5_ok 2 (by decide)) rfl rfl (Nat.le_of_ble_eq_true rfl) (by rw [ey3]; simp [m_fs, m_do, m_pI, va_rf]) (fun cy b hb => by rw [ey3]; exact m_cI b hb) dX5_init_16 G1.1 (by rw [ey3]; rfl) (by rw [ey3]; rfl) rfl ?_
  have G2 : m_okn y3.1 a0 5 0 := by rw [ey3]; exact G1
  have sy3 : y3.2.2 = h := by rw [ey3]; exact sy2
  refine n_aload_n (q := 20) C 0 dX5_init_19 rfl rfl ?_
  refine n_bipush (q := 22) (v := 12) C dX5_init_20 (by decide) rfl ?_
  obtain ⟨y4, ey4⟩ : ∃ q, q = m_do y3 (o_n 11 12) := ⟨_, rfl⟩
  refine n_na11 (q := 24) C (by decide) rfl (Nat.le_of_ble_eq_true rfl) ⟨Nat.le_of_ble_eq_true rfl, Nat.le_of_ble_eq_true rfl⟩ ey4 sy3 dX5_init_22 rfl ?_
  have G3 : m_okn y4.1 a0 5 0 := by rw [ey4]; exact (m_do_ok _ G2 (by rw [sy3]; exact h0)).1
  have G4 : m_okn y4.1 (h) 11 12 := by rw [ey4, ← sy3]; exact m_do_new _ _ _
  have sy4 : y4.2.2 = h + 1 := by rw [ey4]; show y3.2.2 + 1 = _; rw [sy3]
  obtain ⟨y5, ey5⟩ : ∃ q, q = m_do y4 (o_R a0 3 (some h)) := ⟨_, rfl⟩
  refine n_putF (q := 27) (y' := y5) C tyX5 (ci := 5) (f := 3) rfl (by decide) uX5 tyX5_ok nmX5 (by decide) w_117 rfl rfl hini rfl (tyX5_ok 3 (by decide)) rfl rfl (Nat.le_of_ble_eq_true rfl) (by rw [ey5]; simp [m_fs, m_do, m_pR, va_rf]) (fun cy b hb => by rw [ey5]; exact m_cR b hb) dX5_init_24 G3.1 (by rw [ey5]; rfl) (by rw [ey5]; rfl) rfl ?_
  have G5 : m_okn y5.1 a0 5 0 := by rw [ey5]; exact G3
  have G6 : m_okn y5.1 h 11 12 := by rw [ey5]; exact G4
  have sy5 : y5.2.2 = h + 1 := by rw [ey5]; exact sy4
  refine n_aload_n (q := 28) C 0 dX5_init_27 rfl rfl ?_
  refine n_bipush (q := 30) (v := 12) C dX5_init_28 (by decide) rfl ?_
  obtain ⟨y6, ey6⟩ : ∃ q, q = m_do y5 (o_n 11 12) := ⟨_, rfl⟩
  refine n_na11 (q := 32) C (by decide) rfl (Nat.le_of_ble_eq_true rfl) ⟨Nat.le_of_ble_eq_true rfl, Nat.le_of_ble_eq_true rfl⟩ ey6 sy5 dX5_init_30 rfl ?_
  have G7 : m_okn y6.1 a0 5 0 := by rw [ey6]; exact (m_do_ok _ G5 (by rw [sy5]; exact (Nat.lt_of_lt_of_le h0 (Nat.le_add_right h 1)))).1
  have G8 : m_okn y6.1 (h + 1) 11 12 := by rw [ey6, ← sy5]; exact m_do_new _ _ _
  have sy6 : y6.2.2 = h + 2 := by rw [ey6]; show y5.2.2 + 1 = _; rw [sy5]
  obtain ⟨y7, ey7⟩ : ∃ q, q = m_do y6 (o_R a0 4 (some (h + 1))) := ⟨_, rfl⟩
  refine n_putF (q := 35) (y' := y7) C tyX5 (ci := 5) (f := 4) rfl (by decide) uX5 tyX5_ok nmX5 (by decide) w_118 rfl rfl hini rfl (tyX5_ok 4 (by decide)) rfl rfl (Nat.le_of_ble_eq_true rfl) (by rw [ey7]; simp [m_fs, m_do, m_pR, va_rf]) (fun cy b hb => by rw [ey7]; exact m_cR b hb) dX5_init_32 G7.1 (by rw [ey7]; rfl) (by rw [ey7]; rfl) rfl ?_
  have G9 : m_okn y7.1 a0 5 0 := by rw [ey7]; exact G7
  have G10 : m_okn y7.1 (h + 1) 11 12 := by rw [ey7]; exact G8
  have sy7 : y7.2.2 = h + 2 := by rw [ey7]; exact sy6
  refine n_aload_n (q := 36) C 0 dX5_init_35 rfl rfl ?_
  refine n_bipush (q := 38) (v := 24) C dX5_init_36 (by decide) rfl ?_
  obtain ⟨y8, ey8⟩ : ∃ q, q = m_do y7 (o_n 11 24) := ⟨_, rfl⟩
  refine n_na11 (q := 40) C (by decide) rfl (Nat.le_of_ble_eq_true rfl) ⟨Nat.le_of_ble_eq_true rfl, Nat.le_of_ble_eq_true rfl⟩ ey8 sy7 dX5_init_38 rfl ?_
  have G11 : m_okn y8.1 a0 5 0 := by rw [ey8]; exact (m_do_ok _ G9 (by rw [sy7]; exact (Nat.lt_of_lt_of_le h0 (Nat.le_add_right h 2)))).1
  have G12 : m_okn y8.1 (h + 2) 11 24 := by rw [ey8, ← sy7]; exact m_do_new _ _ _
  have sy8 : y8.2.2 = h + 3 := by rw [ey8]; show y7.2.2 + 1 = _; rw [sy7]
  obtain ⟨y9, ey9⟩ : ∃ q, q = m_do y8 (o_R a0 5 (some (h + 2))) := ⟨_, rfl⟩
  refine n_putF (q := 43) (y' := y9) C tyX5 (ci := 5) (f := 5) rfl (by decide) uX5 tyX5_ok nmX5 (by decide) w_119 rfl rfl hini rfl (tyX5_ok 5 (by decide)) rfl rfl (Nat.le_of_ble_eq_true rfl) (by rw [ey9]; simp [m_fs, m_do, m_pR, va_rf]) (fun cy b hb => by rw [ey9]; exact m_cR b hb) dX5_init_40 G11.1 (by rw [ey9]; rfl) (by rw [ey9]; rfl) rfl ?_
  have G13 : m_okn y9.1 a0 5 0 := by rw [ey9]; exact G11
  have G14 : m_okn y9.1 (h + 2) 11 24 := by rw [ey9]; exact G12
  have sy9 : y9.2.2 = h + 3 := by rw [ey9]; exact sy8
  refine n_aload_n (q := 44) C 0 dX5_init_43 rfl rfl ?_
  refine n_iconst (q := 45) (v := 0) C dX5_init_44 (by decide) rfl ?_
  obtain ⟨y10, ey10⟩ : ∃ q, q = m_do y9 (o_I a0 6 0) := ⟨_, rfl⟩
  refine n_put (q := 48) (y' := y10) C tyX5 (ci := 5) (f := 6) rfl (by decide) uX5 tyX5_ok nmX5 (by decide) w_120 rfl rfl (tyX5_ok 6 (by decide)) rfl rfl (Nat.le_of_ble_eq_true rfl) (by rw [ey10]; simp [m_fs, m_do, m_pI, va_rf]) (fun cy b hb => by rw [ey10]; exact m_cI b hb) dX5_init_45 G13.1 (by rw [ey10]; rfl) (by rw [ey10]; rfl) rfl ?_
  have G15 : m_okn y10.1 a0 5 0 := by rw [ey10]; exact G13
  have sy10 : y10.2.2 = h + 3 := by rw [ey10]; exact sy9
  refine n_aload_n (q := 49) C 0 dX5_init_48 rfl rfl ?_
  refine n_iconst (q := 50) (v := 4) C dX5_init_49 (by decide) rfl ?_
  obtain ⟨y11, ey11⟩ : ∃ q, q = m_do y10 (o_n 15 4) := ⟨_, rfl⟩
  refine n_nq15 (q := 53) C w_65 (by decide) rfl (Nat.le_of_ble_eq_true rfl) ⟨Nat.le_of_ble_eq_true rfl, Nat.le_of_ble_eq_true rfl⟩ ey11 sy10 dX5_init_50 rfl ?_
  have G16 : m_okn y11.1 a0 5 0 := by rw [ey11]; exact (m_do_ok _ G15 (by rw [sy10]; exact (Nat.lt_of_lt_of_le h0 (Nat.le_add_right h 3)))).1
  have G17 : m_okn y11.1 (h + 3) 15 4 := by rw [ey11, ← sy10]; exact m_do_new _ _ _
  have sy11 : y11.2.2 = h + 4 := by rw [ey11]; show y10.2.2 + 1 = _; rw [sy10]
  obtain ⟨y12, ey12⟩ : ∃ q, q = m_do y11 (o_R a0 7 (some (h + 3))) := ⟨_, rfl⟩
  refine n_putF (q := 56) (y' := y12) C tyX5 (ci := 5) (f := 7) rfl (by decide) uX5 tyX5_ok nmX5 (by decide) w_121 rfl rfl hini rfl (tyX5_ok 7 (by decide)) rfl rfl (Nat.le_of_ble_eq_true rfl) (by rw [ey12]; simp [m_fs, m_do, m_pR, va_rf]) (fun cy b hb => by rw [ey12]; exact m_cR b hb) dX5_init_53 G16.1 (by rw [ey12]; rfl) (by rw [ey12]; rfl) rfl ?_
  have G18 : m_okn y12.1 a0 5 0 := by rw [ey12]; exact G16
  have G19 : m_okn y12.1 (h + 3) 15 4 := by rw [ey12]; exact G17
  have sy12 : y12.2.2 = h + 4 := by rw [ey12]; exact sy11
  have r7 : y12.2.1.2.2 a0 7 = some (h + 3) := by rw [ey12]; simp [m_do, m_pR]
  refine n_aload_n (q := 57) C 0 dX5_init_56 rfl rfl ?_
  refine n_iconst (q := 58) (v := 0) C dX5_init_57 (by decide) rfl ?_
  obtain ⟨y13, ey13⟩ : ∃ q, q = m_do y12 (o_I a0 8 0) := ⟨_, rfl⟩
  refine n_put (q := 61) (y' := y13) C tyX5 (ci := 5) (f := 8) rfl (by decide) uX5 tyX5_ok nmX5 (by decide) w_122 rfl rfl (tyX5_ok 8 (by decide)) rfl rfl (Nat.le_of_ble_eq_true rfl) (by rw [ey13]; simp [m_fs, m_do, m_pI, va_rf]) (fun cy b hb => by rw [ey13]; exact m_cI b hb) dX5_init_58 G18.1 (by rw [ey13]; rfl) (by rw [ey13]; rfl) rfl ?_
  have G20 : m_okn y13.1 a0 5 0 := by rw [ey13]; exact G18
  have G21 : m_okn y13.1 (h + 3) 15 4 := by rw [ey13]; exact G19
  have sy13 : y13.2.2 = h + 4 := by rw [ey13]; exact sy12
  have r7 : y13.2.1.2.2 a0 7 = some (h + 3) := by rw [ey13]; simpa [m_do, m_pI, m_pJ, m_pR] using r7
  refine n_aload_n (q := 62) C 0 dX5_init_61 rfl rfl ?_
  refine n_bipush (q := 64) (v := 6) C dX5_init_62 (by decide) rfl ?_
  obtain ⟨y14, ey14⟩ : ∃ q, q = m_do y13 (o_n 18 6) := ⟨_, rfl⟩
  refine n_nq18 (q := 67) C w_66 (by decide) rfl (Nat.le_of_ble_eq_true rfl) ⟨Nat.le_of_ble_eq_true rfl, Nat.le_of_ble_eq_true rfl⟩ ey14 sy13 dX5_init_64 rfl ?_
  have G22 : m_okn y14.1 a0 5 0 := by rw [ey14]; exact (m_do_ok _ G20 (by rw [sy13]; exact (Nat.lt_of_lt_of_le h0 (Nat.le_add_right h 4)))).1
  have G23 : m_okn y14.1 (h + 3) 15 4 := by rw [ey14]; exact (m_do_ok _ G21 (by rw [sy13]; exact (Nat.add_lt_add_left (Nat.le_of_ble_eq_true rfl : 3 < 4) h))).1
  have G24 : m_okn y14.1 (h + 4) 18 6 := by rw [ey14, ← sy13]; exact m_do_new _ _ _
  have r7 : y14.2.1.2.2 a0 7 = some (h + 3) := by rw [ey14]; exact (m_rn_R [o_n 18 6] (by rw [sy13]; exact (Nat.lt_of_lt_of_le h0 (Nat.le_add_right h 4))) (by simp [m_tg])).trans r7
  have sy14 : y14.2.2 = h + 5 := by rw [ey14]; show y13.2.2 + 1 = _; rw [sy13]
  obtain ⟨y15, ey15⟩ : ∃ q, q = m_do y14 (o_R a0 9 (some (h + 4))) := ⟨_, rfl⟩
  refine n_putF (q := 70) (y' := y15) C tyX5 (ci := 5) (f := 9) rfl (by decide) uX5 tyX5_ok nmX5 (by decide) w_123 rfl rfl hini rfl (tyX5_ok 9 (by decide)) rfl rfl (Nat.le_of_ble_eq_true rfl) (by rw [ey15]; simp [m_fs, m_do, m_pR, va_rf]) (fun cy b hb => by rw [ey15]; exact m_cR b hb) dX5_init_67 G22.1 (by rw [ey15]; rfl) (by rw [ey15]; rfl) rfl ?_
  have G25 : m_okn y15.1 a0 5 0 := by rw [ey15]; exact G22
  have G26 : m_okn y15.1 (h + 3) 15 4 := by rw [ey15]; exact G23
  have G27 : m_okn y15.1 (h + 4) 18 6 := by rw [ey15]; exact G24
  have sy15 : y15.2.2 = h + 5 := by rw [ey15]; exact sy14
  have r7 : y15.2.1.2.2 a0 7 = some (h + 3) := by rw [ey15]; simpa [m_do, m_pI, m_pJ, m_pR] using r7
  have r9 : y15.2.1.2.2 a0 9 = some (h + 4) := by rw [ey15]; simp [m_do, m_pR]
  refine n_aload_n (q := 71) C 0 dX5_init_70 rfl rfl ?_
  refine n_iconst (q := 72) (v := 0) C dX5_init_71 (by decide) rfl ?_
  obtain ⟨y16, ey16⟩ : ∃ q, q = m_do y15 (o_I a0 10 0) := ⟨_, rfl⟩
  refine n_put (q := 75) (y' := y16) C tyX5 (ci := 5) (f := 10) rfl (by decide) uX5 tyX5_ok nmX5 (by decide) w_124 rfl rfl (tyX5_ok 10 (by decide)) rfl rfl (Nat.le_of_ble_eq_true rfl) (by rw [ey16]; simp [m_fs, m_do, m_pI, va_rf]) (fun cy b hb => by rw [ey16]; exact m_cI b hb) dX5_init_72 G25.1 (by rw [ey16]; rfl) (by rw [ey16]; rfl) rfl ?_
  have G28 : m_okn y16.1 a0 5 0 := by rw [ey16]; exact G25
  have G29 : m_okn y16.1 (h + 3) 15 4 := by rw [ey16]; exact G26
  have G30 : m_okn y16.1 (h + 4) 18 6 := by rw [ey16]; exact G27
  have sy16 : y16.2.2 = h + 5 := by rw [ey16]; exact sy15
  have r7 : y16.2.1.2.2 a0 7 = some (h + 3) := by rw [ey16]; simpa [m_do, m_pI, m_pJ, m_pR] using r7
  have r9 : y16.2.1.2.2 a0 9 = some (h + 4) := by rw [ey16]; simpa [m_do, m_pI, m_pJ, m_pR] using r9
  refine n_iconst (q := 76) (v := 0) C dX5_init_75 (by decide) rfl ?_
  refine n_istore_n (q := 77) C dX5_init_76 rfl (L' := [(1, .int 0), (0, .ref a0)]) rfl (by decide) rfl ?_
  refine n_iload_n (q := 78) C 0 dX5_init_77 rfl rfl ?_
  refine n_aload_n (q := 79) C 1 dX5_init_78 rfl rfl ?_
  refine n_get (q := 82) (v := .ref (h + 3)) C (ci := 5) (f := 7) rfl (by decide) uX5 (by decide) w_121 rfl (by simp [m_fs, r7, va_rf]) dX5_init_79 G28.1 rfl ?_
  refine n_alen 15 5 (q := 83) C dX5_init_82 G29.1 (by decide) rfl rfl ?_
  rw [G29.2]
  show m_N x y16 2 5 58 83 _ (.int 4 :: _)
  refine n_icmp_ge (t := 105) (q := 86) C dX5_init_83 (by decide) rfl (fun h9 => absurd h9 (by decide)) (fun _ => ?_)
  refine n_aload_n (q := 87) C 1 dX5_init_86 rfl rfl ?_
  refine n_get (q := 90) (v := .ref (h + 3)) C (ci := 5) (f := 7) rfl (by decide) uX5 (by decide) w_121 rfl (by simp [m_fs, r7, va_rf]) dX5_init_87 G28.1 rfl ?_
  refine n_iload_n (q := 91) C 0 dX5_init_90 rfl rfl ?_
  obtain ⟨y17, ey17⟩ : ∃ q, q = m_do y16 (o_n 1 0) := ⟨_, rfl⟩
  refine n_new (q := 94) C tyX1 (ci := 1) rfl (by decide) uX1 tyX1_ok w_65 w_67 w_5 f_n1 ⟨Nat.le_of_ble_eq_true rfl, Nat.le_of_ble_eq_true rfl⟩ ey17 sy16 dX5_init_91 rfl ?_
  have G31 : m_okn y17.1 a0 5 0 := by rw [ey17]; exact (m_do_ok _ G28 (by rw [sy16]; exact (Nat.lt_of_lt_of_le h0 (Nat.le_add_right h 5)))).1
  have G32 : m_okn y17.1 (h + 3) 15 4 := by rw [ey17]; exact (m_do_ok _ G29 (by rw [sy16]; exact (Nat.add_lt_add_left (Nat.le_of_ble_eq_true rfl : 3 < 5) h))).1
  have G33 : m_okn y17.1 (h + 4) 18 6 := by rw [ey17]; exact (m_do_ok _ G30 (by rw [sy16]; exact (Nat.add_lt_add_left (Nat.le_of_ble_eq_true rfl : 4 < 5) h))).1
  have G34 : m_okn y17.1 (h + 5) 1 0 := by rw [ey17, ← sy16]; exact m_do_new _ _ _
  have r7 : y17.2.1.2.2 a0 7 = some (h + 3) := by rw [ey17]; exact (m_rn_R [o_n 1 0] (by rw [sy16]; exact (Nat.lt_of_lt_of_le h0 (Nat.le_add_right h 5))) (by simp [m_tg])).trans r7
  have r9 : y17.2.1.2.2 a0 9 = some (h + 4) := by rw [ey17]; exact (m_rn_R [o_n 1 0] (by rw [sy16]; exact (Nat.lt_of_lt_of_le h0 (Nat.le_add_right h 5))) (by simp [m_tg])).trans r9
  have sy17 : y17.2.2 = h + 6 := by rw [ey17]; show y16.2.2 + 1 = _; rw [sy16]
  refine n_dup (q := 95) C dX5_init_94 rfl rfl ?_
  obtain ⟨y18, ey18⟩ : ∃ q, q = m_rn y17 (ops_X1 (h + 5) (h + 6)) := ⟨_, rfl⟩
  refine n_callN (q := 98) C (c_X1_init hl G34 (Nat.add_lt_add_left (Nat.le_of_ble_eq_true rfl : 5 < 6) h) sy17) (List.mem_of_getElem? (i := 1) rfl) w_68 w_5 w_69 rfl hd_X1_init rfl rfl (by decide) (Nat.le_of_ble_eq_true rfl) ⟨Nat.le_of_ble_eq_true rfl, Nat.le_of_ble_eq_true rfl⟩ dX5_init_95 rfl (fun h9 => by cases h9) (fun z hz => ?_)
  cases hz
  have sy18 : y18.2.2 = h + 8 := by rw [ey18, m_rn_sz, sy17, ct_X1]
  rw [show ((m_rn y17 (ops_X1 (h + 5) (h + 6))).1, (m_rn y17 (ops_X1 (h + 5) (h + 6))).2.1, (h + 6) + 2) = y18 from by rw [← ey18]; show (y18.1, y18.2.1, _) = (y18.1, y18.2.1, y18.2.2); rw [sy18]]
  have G35 : m_okn y18.1 a0 5 0 := by rw [ey18]; exact m_rn_ok _ G31 (by rw [sy17]; exact (Nat.lt_of_lt_of_le h0 (Nat.le_add_right h 6)))
  have G36 : m_okn y18.1 (h + 3) 15 4 := by rw [ey18]; exact m_rn_ok _ G32 (by rw [sy17]; exact (Nat.add_lt_add_left (Nat.le_of_ble_eq_true rfl : 3 < 6) h))
  have G37 : m_okn y18.1 (h + 4) 18 6 := by rw [ey18]; exact m_rn_ok _ G33 (by rw [sy17]; exact (Nat.add_lt_add_left (Nat.le_of_ble_eq_true rfl : 4 < 6) h))
  have G38 : m_okn y18.1 (h + 5) 1 0 := by rw [ey18]; exact m_rn_ok _ G34 (by rw [sy17]; exact (Nat.add_lt_add_left (Nat.le_of_ble_eq_true rfl : 5 < 6) h))
  have r7 : y18.2.1.2.2 a0 7 = some (h + 3) := by rw [ey18]; exact (m_rn_R _ (by rw [sy17]; exact (Nat.lt_of_lt_of_le h0 (Nat.le_add_right h 6))) (fun o ho => tg_X1 ho (Nat.ne_of_lt (Nat.lt_of_lt_of_le h0 (Nat.le_add_right h 5))) (Nat.lt_of_lt_of_le h0 (Nat.le_add_right h 6)))).trans r7
  have r9 : y18.2.1.2.2 a0 9 = some (h + 4) := by rw [ey18]; exact (m_rn_R _ (by rw [sy17]; exact (Nat.lt_of_lt_of_le h0 (Nat.le_add_right h 6))) (fun o ho => tg_X1 ho (Nat.ne_of_lt (Nat.lt_of_lt_of_le h0 (Nat.le_add_right h 5))) (Nat.lt_of_lt_of_le h0 (Nat.le_add_right h 6)))).trans r9
  show m_N x y18 2 8 75 98 _ _
  obtain ⟨y19, ey19⟩ : ∃ q, q = m_do y18 (o_R (h + 3) 0 (some (h + 5))) := ⟨_, rfl⟩
  refine n_aast15 (q := 99) C ⟨G36.1, by rw [G36.2]; decide⟩ G38.1 rfl ey19 dX5_init_98 rfl ?_
  have G39 : m_okn y19.1 a0 5 0 := by rw [ey19]; exact G35
  have G40 : m_okn y19.1 (h + 3) 15 4 := by rw [ey19]; exact G36
  have G41 : m_okn y19.1 (h + 4) 18 6 := by rw [ey19]; exact G37
  have G42 : m_okn y19.1 (h + 5) 1 0 := by rw [ey19]; exact G38
  have sy19 : y19.2.2 = h + 8 := by rw [ey19]; exact sy18
  have r7 : y19.2.1.2.2 a0 7 = some (h + 3) := by rw [ey19]; exact (m_rn_R [o_R (h + 3) 0 (some (h + 5))] (by rw [sy18]; exact (Nat.lt_of_lt_of_le h0 (Nat.le_add_right h 8))) (fun o ho h9 => by rw [List.mem_singleton.mp ho] at h9; exact (Nat.ne_of_lt (Nat.lt_of_lt_of_le h0 (Nat.le_add_right h 3))) (Option.some.inj h9).symm)).trans r7
  have r9 : y19.2.1.2.2 a0 9 = some (h + 4) := by rw [ey19]; exact (m_rn_R [o_R (h + 3) 0 (some (h + 5))] (by rw [sy18]; exact (Nat.lt_of_lt_of_le h0 (Nat.le_add_right h 8))) (fun o ho h9 => by rw [List.mem_singleton.mp ho] at h9; exact (Nat.ne_of_lt (Nat.lt_of_lt_of_le h0 (Nat.le_add_right h 3))) (Option.some.inj h9).symm)).trans r9
  refine n_iinc (q := 102) C 0 dX5_init_99 rfl (v := 1) (by decide) (L' := [(1, .int 1), (0, .ref a0)]) rfl (by decide) rfl ?_
  refine n_goto (t := 77) C dX5_init_102 (by decide) ?_
  refine n_iload_n (q := 78) C 0 dX5_init_77 rfl rfl ?_
  refine n_aload_n (q := 79) C 1 dX5_init_78 rfl rfl ?_
  refine n_get (q := 82) (v := .ref (h + 3)) C (ci := 5) (f := 7) rfl (by decide) uX5 (by decide) w_121 rfl (by simp [m_fs, r7, va_rf]) dX5_init_79 G39.1 rfl ?_
  refine n_alen 15 5 (q := 83) C dX5_init_82 G40.1 (by decide) rfl rfl ?_
  rw [G40.2]
  show m_N x y19 2 8 75 83 _ (.int 4 :: _)
  refine n_icmp_ge (t := 105) (q := 86) C dX5_init_83 (by decide) rfl (fun h9 => absurd h9 (by decide)) (fun _ => ?_)
  refine n_aload_n (q := 87) C 1 dX5_init_86 rfl rfl ?_
  refine n_get (q := 90) (v := .ref (h + 3)) C (ci := 5) (f := 7) rfl (by decide) uX5 (by decide) w_121 rfl (by simp [m_fs, r7, va_rf]) dX5_init_87 G39.1 rfl ?_
  refine n_iload_n (q := 91) C 0 dX5_init_90 rfl rfl ?_
  obtain ⟨y20, ey20⟩ : ∃ q, q = m_do y19 (o_n 1 0) := ⟨_, rfl⟩
  refine n_new (q := 94) C tyX1 (ci := 1) rfl (by decide) uX1 tyX1_ok w_65 w_67 w_5 f_n1 ⟨Nat.le_of_ble_eq_true rfl, Nat.le_of_ble_eq_true rfl⟩ ey20 sy19 dX5_init_91 rfl ?_
  have G43 : m_okn y20.1 a0 5 0 := by rw [ey20]; exact (m_do_ok _ G39 (by rw [sy19]; exact (Nat.lt_of_lt_of_le h0 (Nat.le_add_right h 8)))).1
  have G44 : m_okn y20.1 (h + 3) 15 4 := by rw [ey20]; exact (m_do_ok _ G40 (by rw [sy19]; exact (Nat.add_lt_add_left (Nat.le_of_ble_eq_true rfl : 3 < 8) h))).1
  have G45 : m_okn y20.1 (h + 4) 18 6 := by rw [ey20]; exact (m_do_ok _ G41 (by rw [sy19]; exact (Nat.add_lt_add_left (Nat.le_of_ble_eq_true rfl : 4 < 8) h))).1
  have G46 : m_okn y20.1 (h + 8) 1 0 := by rw [ey20, ← sy19]; exact m_do_new _ _ _
  have r7 : y20.2.1.2.2 a0 7 = some (h + 3) := by rw [ey20]; exact (m_rn_R [o_n 1 0] (by rw [sy19]; exact (Nat.lt_of_lt_of_le h0 (Nat.le_add_right h 8))) (by simp [m_tg])).trans r7
  have r9 : y20.2.1.2.2 a0 9 = some (h + 4) := by rw [ey20]; exact (m_rn_R [o_n 1 0] (by rw [sy19]; exact (Nat.lt_of_lt_of_le h0 (Nat.le_add_right h 8))) (by simp [m_tg])).trans r9
  have sy20 : y20.2.2 = h + 9 := by rw [ey20]; show y19.2.2 + 1 = _; rw [sy19]
  refine n_dup (q := 95) C dX5_init_94 rfl rfl ?_
  obtain ⟨y21, ey21⟩ : ∃ q, q = m_rn y20 (ops_X1 (h + 8) (h + 9)) := ⟨_, rfl⟩
  refine n_callN (q := 98) C (c_X1_init hl G46 (Nat.add_lt_add_left (Nat.le_of_ble_eq_true rfl : 8 < 9) h) sy20) (List.mem_of_getElem? (i := 1) rfl) w_68 w_5 w_69 rfl hd_X1_init rfl rfl (by decide) (Nat.le_of_ble_eq_true rfl) ⟨Nat.le_of_ble_eq_true rfl, Nat.le_of_ble_eq_true rfl⟩ dX5_init_95 rfl (fun h9 => by cases h9) (fun z hz => ?_)
  cases hz
  have sy21 : y21.2.2 = h + 11 := by rw [ey21, m_rn_sz, sy20, ct_X1]
  rw [show ((m_rn y20 (ops_X1 (h + 8) (h + 9))).1, (m_rn y20 (ops_X1 (h + 8) (h + 9))).2.1, (h + 9) + 2) = y21 from by rw [← ey21]; show (y21.1, y21.2.1, _) = (y21.1, y21.2.1, y21.2.2); rw [sy21]]
  have G47 : m_okn y21.1 a0 5 0 := by rw [ey21]; exact m_rn_ok _ G43 (by rw [sy20]; exact (Nat.lt_of_lt_of_le h0 (Nat.le_add_right h 9)))
  have G48 : m_okn y21.1 (h + 3) 15 4 := by rw [ey21]; exact m_rn_ok _ G44 (by rw [sy20]; exact (Nat.add_lt_add_left (Nat.le_of_ble_eq_true rfl : 3 < 9) h))
  have G49 : m_okn y21.1 (h + 4) 18 6 := by rw [ey21]; exact m_rn_ok _ G45 (by rw [sy20]; exact (Nat.add_lt_add_left (Nat.le_of_ble_eq_true rfl : 4 < 9) h))
  have G50 : m_okn y21.1 (h + 8) 1 0 := by rw [ey21]; exact m_rn_ok _ G46 (by rw [sy20]; exact (Nat.add_lt_add_left (Nat.le_of_ble_eq_true rfl : 8 < 9) h))
  have r7 : y21.2.1.2.2 a0 7 = some (h + 3) := by rw [ey21]; exact (m_rn_R _ (by rw [sy20]; exact (Nat.lt_of_lt_of_le h0 (Nat.le_add_right h 9))) (fun o ho => tg_X1 ho (Nat.ne_of_lt (Nat.lt_of_lt_of_le h0 (Nat.le_add_right h 8))) (Nat.lt_of_lt_of_le h0 (Nat.le_add_right h 9)))).trans r7
  have r9 : y21.2.1.2.2 a0 9 = some (h + 4) := by rw [ey21]; exact (m_rn_R _ (by rw [sy20]; exact (Nat.lt_of_lt_of_le h0 (Nat.le_add_right h 9))) (fun o ho => tg_X1 ho (Nat.ne_of_lt (Nat.lt_of_lt_of_le h0 (Nat.le_add_right h 8))) (Nat.lt_of_lt_of_le h0 (Nat.le_add_right h 9)))).trans r9
  show m_N x y21 2 11 92 98 _ _
  obtain ⟨y22, ey22⟩ : ∃ q, q = m_do y21 (o_R (h + 3) 1 (some (h + 8))) := ⟨_, rfl⟩
  refine n_aast15 (q := 99) C ⟨G48.1, by rw [G48.2]; decide⟩ G50.1 rfl ey22 dX5_init_98 rfl ?_
  have G51 : m_okn y22.1 a0 5 0 := by rw [ey22]; exact G47
  have G52 : m_okn y22.1 (h + 3) 15 4 := by rw [ey22]; exact G48
  have G53 : m_okn y22.1 (h + 4) 18 6 := by rw [ey22]; exact G49
  have G54 : m_okn y22.1 (h + 8) 1 0 := by rw [ey22]; exact G50
  have sy22 : y22.2.2 = h + 11 := by rw [ey22]; exact sy21
  have r7 : y22.2.1.2.2 a0 7 = some (h + 3) := by rw [ey22]; exact (m_rn_R [o_R (h + 3) 1 (some (h + 8))] (by rw [sy21]; exact (Nat.lt_of_lt_of_le h0 (Nat.le_add_right h 11))) (fun o ho h9 => by rw [List.mem_singleton.mp ho] at h9; exact (Nat.ne_of_lt (Nat.lt_of_lt_of_le h0 (Nat.le_add_right h 3))) (Option.some.inj h9).symm)).trans r7
  have r9 : y22.2.1.2.2 a0 9 = some (h + 4) := by rw [ey22]; exact (m_rn_R [o_R (h + 3) 1 (some (h + 8))] (by rw [sy21]; exact (Nat.lt_of_lt_of_le h0 (Nat.le_add_right h 11))) (fun o ho h9 => by rw [List.mem_singleton.mp ho] at h9; exact (Nat.ne_of_lt (Nat.lt_of_lt_of_le h0 (Nat.le_add_right h 3))) (Option.some.inj h9).symm)).trans r9
  refine n_iinc (q := 102) C 0 dX5_init_99 rfl (v := 2) (by decide) (L' := [(1, .int 2), (0, .ref a0)]) rfl (by decide) rfl ?_
  refine n_goto (t := 77) C dX5_init_102 (by decide) ?_
  refine n_iload_n (q := 78) C 0 dX5_init_77 rfl rfl ?_
  refine n_aload_n (q := 79) C 1 dX5_init_78 rfl rfl ?_
  refine n_get (q := 82) (v := .ref (h + 3)) C (ci := 5) (f := 7) rfl (by decide) uX5 (by decide) w_121 rfl (by simp [m_fs, r7, va_rf]) dX5_init_79 G51.1 rfl ?_
  refine n_alen 15 5 (q := 83) C dX5_init_82 G52.1 (by decide) rfl rfl ?_
  rw [G52.2]
  show m_N x y22 2 11 92 83 _ (.int 4 :: _)
  refine n_icmp_ge (t := 105) (q := 86) C dX5_init_83 (by decide) rfl (fun h9 => absurd h9 (by decide)) (fun _ => ?_)
  refine n_aload_n (q := 87) C 1 dX5_init_86 rfl rfl ?_
  refine n_get (q := 90) (v := .ref (h + 3)) C (ci := 5) (f := 7) rfl (by decide) uX5 (by decide) w_121 rfl (by simp [m_fs, r7, va_rf]) dX5_init_87 G51.1 rfl ?_
  refine n_iload_n (q := 91) C 0 dX5_init_90 rfl rfl ?_
  obtain ⟨y23, ey23⟩ : ∃ q, q = m_do y22 (o_n 1 0) := ⟨_, rfl⟩
  refine n_new (q := 94) C tyX1 (ci := 1) rfl (by decide) uX1 tyX1_ok w_65 w_67 w_5 f_n1 ⟨Nat.le_of_ble_eq_true rfl, Nat.le_of_ble_eq_true rfl⟩ ey23 sy22 dX5_init_91 rfl ?_
  have G55 : m_okn y23.1 a0 5 0 := by rw [ey23]; exact (m_do_ok _ G51 (by rw [sy22]; exact (Nat.lt_of_lt_of_le h0 (Nat.le_add_right h 11)))).1
  have G56 : m_okn y23.1 (h + 3) 15 4 := by rw [ey23]; exact (m_do_ok _ G52 (by rw [sy22]; exact (Nat.add_lt_add_left (Nat.le_of_ble_eq_true rfl : 3 < 11) h))).1
  have G57 : m_okn y23.1 (h + 4) 18 6 := by rw [ey23]; exact (m_do_ok _ G53 (by rw [sy22]; exact (Nat.add_lt_add_left (Nat.le_of_ble_eq_true rfl : 4 < 11) h))).1
  have G58 : m_okn y23.1 (h + 11) 1 0 := by rw [ey23, ← sy22]; exact m_do_new _ _ _
  have r7 : y23.2.1.2.2 a0 7 = some (h + 3) := by rw [ey23]; exact (m_rn_R [o_n 1 0] (by rw [sy22]; exact (Nat.lt_of_lt_of_le h0 (Nat.le_add_right h 11))) (by simp [m_tg])).trans r7
  have r9 : y23.2.1.2.2 a0 9 = some (h + 4) := by rw [ey23]; exact (m_rn_R [o_n 1 0] (by rw [sy22]; exact (Nat.lt_of_lt_of_le h0 (Nat.le_add_right h 11))) (by simp [m_tg])).trans r9
  have sy23 : y23.2.2 = h + 12 := by rw [ey23]; show y22.2.2 + 1 = _; rw [sy22]
  refine n_dup (q := 95) C dX5_init_94 rfl rfl ?_
  obtain ⟨y24, ey24⟩ : ∃ q, q = m_rn y23 (ops_X1 (h + 11) (h + 12)) := ⟨_, rfl⟩
  refine n_callN (q := 98) C (c_X1_init hl G58 (Nat.add_lt_add_left (Nat.le_of_ble_eq_true rfl : 11 < 12) h) sy23) (List.mem_of_getElem? (i := 1) rfl) w_68 w_5 w_69 rfl hd_X1_init rfl rfl (by decide) (Nat.le_of_ble_eq_true rfl) ⟨Nat.le_of_ble_eq_true rfl, Nat.le_of_ble_eq_true rfl⟩ dX5_init_95 rfl (fun h9 => by cases h9) (fun z hz => ?_)
  cases hz
  have sy24 : y24.2.2 = h + 14 := by rw [ey24, m_rn_sz, sy23, ct_X1]
  rw [show ((m_rn y23 (ops_X1 (h + 11) (h + 12))).1, (m_rn y23 (ops_X1 (h + 11) (h + 12))).2.1, (h + 12) + 2) = y24 from by rw [← ey24]; show (y24.1, y24.2.1, _) = (y24.1, y24.2.1, y24.2.2); rw [sy24]]
  have G59 : m_okn y24.1 a0 5 0 := by rw [ey24]; exact m_rn_ok _ G55 (by rw [sy23]; exact (Nat.lt_of_lt_of_le h0 (Nat.le_add_right h 12)))
  have G60 : m_okn y24.1 (h + 3) 15 4 := by rw [ey24]; exact m_rn_ok _ G56 (by rw [sy23]; exact (Nat.add_lt_add_left (Nat.le_of_ble_eq_true rfl : 3 < 12) h))
  have G61 : m_okn y24.1 (h + 4) 18 6 := by rw [ey24]; exact m_rn_ok _ G57 (by rw [sy23]; exact (Nat.add_lt_add_left (Nat.le_of_ble_eq_true rfl : 4 < 12) h))
  have G62 : m_okn y24.1 (h + 11) 1 0 := by rw [ey24]; exact m_rn_ok _ G58 (by rw [sy23]; exact (Nat.add_lt_add_left (Nat.le_of_ble_eq_true rfl : 11 < 12) h))
  have r7 : y24.2.1.2.2 a0 7 = some (h + 3) := by rw [ey24]; exact (m_rn_R _ (by rw [sy23]; exact (Nat.lt_of_lt_of_le h0 (Nat.le_add_right h 12))) (fun o ho => tg_X1 ho (Nat.ne_of_lt (Nat.lt_of_lt_of_le h0 (Nat.le_add_right h 11))) (Nat.lt_of_lt_of_le h0 (Nat.le_add_right h 12)))).trans r7
  have r9 : y24.2.1.2.2 a0 9 = some (h + 4) := by rw [ey24]; exact (m_rn_R _ (by rw [sy23]; exact (Nat.lt_of_lt_of_le h0 (Nat.le_add_right h 12))) (fun o ho => tg_X1 ho (Nat.ne_of_lt (Nat.lt_of_lt_of_le h0 (Nat.le_add_right h 11))) (Nat.lt_of_lt_of_le h0 (Nat.le_add_right h 12)))).trans r9
  show m_N x y24 2 14 109 98 _ _
  obtain ⟨y25, ey25⟩ : ∃ q, q = m_do y24 (o_R (h + 3) 2 (some (h + 11))) := ⟨_, rfl⟩
  refine n_aast15 (q := 99) C ⟨G60.1, by rw [G60.2]; decide⟩ G62.1 rfl ey25 dX5_init_98 rfl ?_
  have G63 : m_okn y25.1 a0 5 0 := by rw [ey25]; exact G59
  have G64 : m_okn y25.1 (h + 3) 15 4 := by rw [ey25]; exact G60
  have G65 : m_okn y25.1 (h + 4) 18 6 := by rw [ey25]; exact G61
  have G66 : m_okn y25.1 (h + 11) 1 0 := by rw [ey25]; exact G62
  have sy25 : y25.2.2 = h + 14 := by rw [ey25]; exact sy24
  have r7 : y25.2.1.2.2 a0 7 = some (h + 3) := by rw [ey25]; exact (m_rn_R [o_R (h + 3) 2 (some (h + 11))] (by rw [sy24]; exact (Nat.lt_of_lt_of_le h0 (Nat.le_add_right h 14))) (fun o ho h9 => by rw [List.mem_singleton.mp ho] at h9; exact (Nat.ne_of_lt (Nat.lt_of_lt_of_le h0 (Nat.le_add_right h 3))) (Option.some.inj h9).symm)).trans r7
  have r9 : y25.2.1.2.2 a0 9 = some (h + 4) := by rw [ey25]; exact (m_rn_R [o_R (h + 3) 2 (some (h + 11))] (by rw [sy24]; exact (Nat.lt_of_lt_of_le h0 (Nat.le_add_right h 14))) (fun o ho h9 => by rw [List.mem_singleton.mp ho] at h9; exact (Nat.ne_of_lt (Nat.lt_of_lt_of_le h0 (Nat.le_add_right h 3))) (Option.some.inj h9).symm)).trans r9
  refine n_iinc (q := 102) C 0 dX5_init_99 rfl (v := 3) (by decide) (L' := [(1, .int 3), (0, .ref a0)]) rfl (by decide) rfl ?_
  refine n_goto (t := 77) C dX5_init_102 (by decide) ?_
  refine n_iload_n (q := 78) C 0 dX5_init_77 rfl rfl ?_
  refine n_aload_n (q := 79) C 1 dX5_init_78 rfl rfl ?_
  refine n_get (q := 82) (v := .ref (h + 3)) C (ci := 5) (f := 7) rfl (by decide) uX5 (by decide) w_121 rfl (by simp [m_fs, r7, va_rf]) dX5_init_79 G63.1 rfl ?_
  refine n_alen 15 5 (q := 83) C dX5_init_82 G64.1 (by decide) rfl rfl ?_
  rw [G64.2]
  show m_N x y25 2 14 109 83 _ (.int 4 :: _)
  refine n_icmp_ge (t := 105) (q := 86) C dX5_init_83 (by decide) rfl (fun h9 => absurd h9 (by decide)) (fun _ => ?_)
  refine n_aload_n (q := 87) C 1 dX5_init_86 rfl rfl ?_
  refine n_get (q := 90) (v := .ref (h + 3)) C (ci := 5) (f := 7) rfl (by decide) uX5 (by decide) w_121 rfl (by simp [m_fs, r7, va_rf]) dX5_init_87 G63.1 rfl ?_
  refine n_iload_n (q := 91) C 0 dX5_init_90 rfl rfl ?_
  obtain ⟨y26, ey26⟩ : ∃ q, q = m_do y25 (o_n 1 0) := ⟨_, rfl⟩
  refine n_new (q := 94) C tyX1 (ci := 1) rfl (by decide) uX1 tyX1_ok w_65 w_67 w_5 f_n1 ⟨Nat.le_of_ble_eq_true rfl, Nat.le_of_ble_eq_true rfl⟩ ey26 sy25 dX5_init_91 rfl ?_
  have G67 : m_okn y26.1 a0 5 0 := by rw [ey26]; exact (m_do_ok _ G63 (by rw [sy25]; exact (Nat.lt_of_lt_of_le h0 (Nat.le_add_right h 14)))).1
  have G68 : m_okn y26.1 (h + 3) 15 4 := by rw [ey26]; exact (m_do_ok _ G64 (by rw [sy25]; exact (Nat.add_lt_add_left (Nat.le_of_ble_eq_true rfl : 3 < 14) h))).1
  have G69 : m_okn y26.1 (h + 4) 18 6 := by rw [ey26]; exact (m_do_ok _ G65 (by rw [sy25]; exact (Nat.add_lt_add_left (Nat.le_of_ble_eq_true rfl : 4 < 14) h))).1
  have G70 : m_okn y26.1 (h + 14) 1 0 := by rw [ey26, ← sy25]; exact m_do_new _ _ _
  have r7 : y26.2.1.2.2 a0 7 = some (h + 3) := by rw [ey26]; exact (m_rn_R [o_n 1 0] (by rw [sy25]; exact (Nat.lt_of_lt_of_le h0 (Nat.le_add_right h 14))) (by simp [m_tg])).trans r7
  have r9 : y26.2.1.2.2 a0 9 = some (h + 4) := by rw [ey26]; exact (m_rn_R [o_n 1 0] (by rw [sy25]; exact (Nat.lt_of_lt_of_le h0 (Nat.le_add_right h 14))) (by simp [m_tg])).trans r9
  have sy26 : y26.2.2 = h + 15 := by rw [ey26]; show y25.2.2 + 1 = _; rw [sy25]
  refine n_dup (q := 95) C dX5_init_94 rfl rfl ?_
  obtain ⟨y27, ey27⟩ : ∃ q, q = m_rn y26 (ops_X1 (h + 14) (h + 15)) := ⟨_, rfl⟩
  refine n_callN (q := 98) C (c_X1_init hl G70 (Nat.add_lt_add_left (Nat.le_of_ble_eq_true rfl : 14 < 15) h) sy26) (List.mem_of_getElem? (i := 1) rfl) w_68 w_5 w_69 rfl hd_X1_init rfl rfl (by decide) (Nat.le_of_ble_eq_true rfl) ⟨Nat.le_of_ble_eq_true rfl, Nat.le_of_ble_eq_true rfl⟩ dX5_init_95 rfl (fun h9 => by cases h9) (fun z hz => ?_)
  cases hz
  have sy27 : y27.2.2 = h + 17 := by rw [ey27, m_rn_sz, sy26, ct_X1]
  rw [show ((m_rn y26 (ops_X1 (h + 14) (h + 15))).1, (m_rn y26 (ops_X1 (h + 14) (h + 15))).2.1, (h + 15) + 2) = y27 from by rw [← ey27]; show (y27.1, y27.2.1, _) = (y27.1, y27.2.1, y27.2.2); rw [sy27]]
  have G71 : m_okn y27.1 a0 5 0 := by rw [ey27]; exact m_rn_ok _ G67 (by rw [sy26]; exact (Nat.lt_of_lt_of_le h0 (Nat.le_add_right h 15)))
  have G72 : m_okn y27.1 (h + 3) 15 4 := by rw [ey27]; exact m_rn_ok _ G68 (by rw [sy26]; exact (Nat.add_lt_add_left (Nat.le_of_ble_eq_true rfl : 3 < 15) h))
  have G73 : m_okn y27.1 (h + 4) 18 6 := by rw [ey27]; exact m_rn_ok _ G69 (by rw [sy26]; exact (Nat.add_lt_add_left (Nat.le_of_ble_eq_true rfl : 4 < 15) h))
  have G74 : m_okn y27.1 (h + 14) 1 0 := by rw [ey27]; exact m_rn_ok _ G70 (by rw [sy26]; exact (Nat.add_lt_add_left (Nat.le_of_ble_eq_true rfl : 14 < 15) h))
  have r7 : y27.2.1.2.2 a0 7 = some (h + 3) := by rw [ey27]; exact (m_rn_R _ (by rw [sy26]; exact (Nat.lt_of_lt_of_le h0 (Nat.le_add_right h 15))) (fun o ho => tg_X1 ho (Nat.ne_of_lt (Nat.lt_of_lt_of_le h0 (Nat.le_add_right h 14))) (Nat.lt_of_lt_of_le h0 (Nat.le_add_right h 15)))).trans r7
  have r9 : y27.2.1.2.2 a0 9 = some (h + 4) := by rw [ey27]; exact (m_rn_R _ (by rw [sy26]; exact (Nat.lt_of_lt_of_le h0 (Nat.le_add_right h 15))) (fun o ho => tg_X1 ho (Nat.ne_of_lt (Nat.lt_of_lt_of_le h0 (Nat.le_add_right h 14))) (Nat.lt_of_lt_of_le h0 (Nat.le_add_right h 15)))).trans r9
  show m_N x y27 2 17 126 98 _ _
  obtain ⟨y28, ey28⟩ : ∃ q, q = m_do y27 (o_R (h + 3) 3 (some (h + 14))) := ⟨_, rfl⟩
  refine n_aast15 (q := 99) C ⟨G72.1, by rw [G72.2]; decide⟩ G74.1 rfl ey28 dX5_init_98 rfl ?_
  have G75 : m_okn y28.1 a0 5 0 := by rw [ey28]; exact G71
  have G76 : m_okn y28.1 (h + 3) 15 4 := by rw [ey28]; exact G72
  have G77 : m_okn y28.1 (h + 4) 18 6 := by rw [ey28]; exact G73
  have G78 : m_okn y28.1 (h + 14) 1 0 := by rw [ey28]; exact G74
  have sy28 : y28.2.2 = h + 17 := by rw [ey28]; exact sy27
  have r7 : y28.2.1.2.2 a0 7 = some (h + 3) := by rw [ey28]; exact (m_rn_R [o_R (h + 3) 3 (some (h + 14))] (by rw [sy27]; exact (Nat.lt_of_lt_of_le h0 (Nat.le_add_right h 17))) (fun o ho h9 => by rw [List.mem_singleton.mp ho] at h9; exact (Nat.ne_of_lt (Nat.lt_of_lt_of_le h0 (Nat.le_add_right h 3))) (Option.some.inj h9).symm)).trans r7
  have r9 : y28.2.1.2.2 a0 9 = some (h + 4) := by rw [ey28]; exact (m_rn_R [o_R (h + 3) 3 (some (h + 14))] (by rw [sy27]; exact (Nat.lt_of_lt_of_le h0 (Nat.le_add_right h 17))) (fun o ho h9 => by rw [List.mem_singleton.mp ho] at h9; exact (Nat.ne_of_lt (Nat.lt_of_lt_of_le h0 (Nat.le_add_right h 3))) (Option.some.inj h9).symm)).trans r9
  refine n_iinc (q := 102) C 0 dX5_init_99 rfl (v := 4) (by decide) (L' := [(1, .int 4), (0, .ref a0)]) rfl (by decide) rfl ?_
  refine n_goto (t := 77) C dX5_init_102 (by decide) ?_
  refine n_iload_n (q := 78) C 0 dX5_init_77 rfl rfl ?_
  refine n_aload_n (q := 79) C 1 dX5_init_78 rfl rfl ?_
  refine n_get (q := 82) (v := .ref (h + 3)) C (ci := 5) (f := 7) rfl (by decide) uX5 (by decide) w_121 rfl (by simp [m_fs, r7, va_rf]) dX5_init_79 G75.1 rfl ?_
  refine n_alen 15 5 (q := 83) C dX5_init_82 G76.1 (by decide) rfl rfl ?_
  rw [G76.2]
  show m_N x y28 2 17 126 83 _ (.int 4 :: _)
  refine n_icmp_ge (t := 105) (q := 86) C dX5_init_83 (by decide) rfl (fun _ => ?_) (fun h9 => absurd (show (4 : Int32) ≤ 4 by decide) h9)
  refine n_iconst (q := 106) (v := 0) C dX5_init_105 (by decide) rfl ?_
  refine n_istore_n (q := 107) C dX5_init_106 rfl (L' := [(1, .int 0), (0, .ref a0)]) rfl (by decide) rfl ?_
  refine n_iload_n (q := 108) C 0 dX5_init_107 rfl rfl ?_
  refine n_aload_n (q := 109) C 1 dX5_init_108 rfl rfl ?_
  refine n_get (q := 112) (v := .ref (h + 4)) C (ci := 5) (f := 9) rfl (by decide) uX5 (by decide) w_123 rfl (by simp [m_fs, r9, va_rf]) dX5_init_109 G75.1 rfl ?_
  refine n_alen 18 8 (q := 113) C dX5_init_112 G77.1 (by decide) rfl rfl ?_
  rw [G77.2]
  show m_N x y28 2 17 126 113 _ (.int 6 :: _)
  refine n_icmp_ge (t := 135) (q := 116) C dX5_init_113 (by decide) rfl (fun h9 => absurd h9 (by decide)) (fun _ => ?_)
  refine n_aload_n (q := 117) C 1 dX5_init_116 rfl rfl ?_
  refine n_get (q := 120) (v := .ref (h + 4)) C (ci := 5) (f := 9) rfl (by decide) uX5 (by decide) w_123 rfl (by simp [m_fs, r9, va_rf]) dX5_init_117 G75.1 rfl ?_
  refine n_iload_n (q := 121) C 0 dX5_init_120 rfl rfl ?_
  obtain ⟨y29, ey29⟩ : ∃ q, q = m_do y28 (o_n 7 0) := ⟨_, rfl⟩
  refine n_new (q := 124) C tyX7 (ci := 7) rfl (by decide) uX7 tyX7_ok w_66 w_82 w_6 f_n7 ⟨Nat.le_of_ble_eq_true rfl, Nat.le_of_ble_eq_true rfl⟩ ey29 sy28 dX5_init_121 rfl ?_
  have G79 : m_okn y29.1 a0 5 0 := by rw [ey29]; exact (m_do_ok _ G75 (by rw [sy28]; exact (Nat.lt_of_lt_of_le h0 (Nat.le_add_right h 17)))).1
  have G80 : m_okn y29.1 (h + 3) 15 4 := by rw [ey29]; exact (m_do_ok _ G76 (by rw [sy28]; exact (Nat.add_lt_add_left (Nat.le_of_ble_eq_true rfl : 3 < 17) h))).1
  have G81 : m_okn y29.1 (h + 4) 18 6 := by rw [ey29]; exact (m_do_ok _ G77 (by rw [sy28]; exact (Nat.add_lt_add_left (Nat.le_of_ble_eq_true rfl : 4 < 17) h))).1
  have G82 : m_okn y29.1 (h + 17) 7 0 := by rw [ey29, ← sy28]; exact m_do_new _ _ _
  have r7 : y29.2.1.2.2 a0 7 = some (h + 3) := by rw [ey29]; exact (m_rn_R [o_n 7 0] (by rw [sy28]; exact (Nat.lt_of_lt_of_le h0 (Nat.le_add_right h 17))) (by simp [m_tg])).trans r7
  have r9 : y29.2.1.2.2 a0 9 = some (h + 4) := by rw [ey29]; exact (m_rn_R [o_n 7 0] (by rw [sy28]; exact (Nat.lt_of_lt_of_le h0 (Nat.le_add_right h 17))) (by simp [m_tg])).trans r9
  have sy29 : y29.2.2 = h + 18 := by rw [ey29]; show y28.2.2 + 1 = _; rw [sy28]
  refine n_dup (q := 125) C dX5_init_124 rfl rfl ?_
  obtain ⟨y30, ey30⟩ : ∃ q, q = m_rn y29 (ops_X7 (h + 17) (h + 18)) := ⟨_, rfl⟩
  refine n_callI (q := 128) C (c_X7_init hl G82 (Nat.add_lt_add_left (Nat.le_of_ble_eq_true rfl : 17 < 18) h) sy29) w_83 w_84 w_6 w_85 rfl hd_X7_init rfl rfl (by decide) (Nat.le_of_ble_eq_true rfl) ⟨Nat.le_of_ble_eq_true rfl, Nat.le_of_ble_eq_true rfl⟩ dX5_init_125 rfl (fun h9 => by cases h9) (fun z hz => ?_)
  cases hz
  have sy30 : y30.2.2 = h + 25 := by rw [ey30, m_rn_sz, sy29, ct_X7]
  rw [show ((m_rn y29 (ops_X7 (h + 17) (h + 18))).1, (m_rn y29 (ops_X7 (h + 17) (h + 18))).2.1, (h + 18) + 7) = y30 from by rw [← ey30]; show (y30.1, y30.2.1, _) = (y30.1, y30.2.1, y30.2.2); rw [sy30]]
  have G83 : m_okn y30.1 a0 5 0 := by rw [ey30]; exact m_rn_ok _ G79 (by rw [sy29]; exact (Nat.lt_of_lt_of_le h0 (Nat.le_add_right h 18)))
  have G84 : m_okn y30.1 (h + 3) 15 4 := by rw [ey30]; exact m_rn_ok _ G80 (by rw [sy29]; exact (Nat.add_lt_add_left (Nat.le_of_ble_eq_true rfl : 3 < 18) h))
  have G85 : m_okn y30.1 (h + 4) 18 6 := by rw [ey30]; exact m_rn_ok _ G81 (by rw [sy29]; exact (Nat.add_lt_add_left (Nat.le_of_ble_eq_true rfl : 4 < 18) h))
  have G86 : m_okn y30.1 (h + 17) 7 0 := by rw [ey30]; exact m_rn_ok _ G82 (by rw [sy29]; exact (Nat.add_lt_add_left (Nat.le_of_ble_eq_true rfl : 17 < 18) h))
  have r7 : y30.2.1.2.2 a0 7 = some (h + 3) := by rw [ey30]; exact (m_rn_R _ (by rw [sy29]; exact (Nat.lt_of_lt_of_le h0 (Nat.le_add_right h 18))) (fun o ho => tg_X7 ho (Nat.ne_of_lt (Nat.lt_of_lt_of_le h0 (Nat.le_add_right h 17))) (Nat.lt_of_lt_of_le h0 (Nat.le_add_right h 18)))).trans r7
  have r9 : y30.2.1.2.2 a0 9 = some (h + 4) := by rw [ey30]; exact (m_rn_R _ (by rw [sy29]; exact (Nat.lt_of_lt_of_le h0 (Nat.le_add_right h 18))) (fun o ho => tg_X7 ho (Nat.ne_of_lt (Nat.lt_of_lt_of_le h0 (Nat.le_add_right h 17))) (Nat.lt_of_lt_of_le h0 (Nat.le_add_right h 18)))).trans r9
  show m_N x y30 2 25 163 128 _ _
  obtain ⟨y31, ey31⟩ : ∃ q, q = m_do y30 (o_R (h + 4) 0 (some (h + 17))) := ⟨_, rfl⟩
  refine n_aast18 (q := 129) C ⟨G85.1, by rw [G85.2]; decide⟩ G86.1 rfl ey31 dX5_init_128 rfl ?_
  have G87 : m_okn y31.1 a0 5 0 := by rw [ey31]; exact G83
  have G88 : m_okn y31.1 (h + 3) 15 4 := by rw [ey31]; exact G84
  have G89 : m_okn y31.1 (h + 4) 18 6 := by rw [ey31]; exact G85
  have G90 : m_okn y31.1 (h + 17) 7 0 := by rw [ey31]; exact G86
  have sy31 : y31.2.2 = h + 25 := by rw [ey31]; exact sy30
  have r7 : y31.2.1.2.2 a0 7 = some (h + 3) := by rw [ey31]; exact (m_rn_R [o_R (h + 4) 0 (some (h + 17))] (by rw [sy30]; exact (Nat.lt_of_lt_of_le h0 (Nat.le_add_right h 25))) (fun o ho h9 => by rw [List.mem_singleton.mp ho] at h9; exact (Nat.ne_of_lt (Nat.lt_of_lt_of_le h0 (Nat.le_add_right h 4))) (Option.some.inj h9).symm)).trans r7
  have r9 : y31.2.1.2.2 a0 9 = some (h + 4) := by rw [ey31]; exact (m_rn_R [o_R (h + 4) 0 (some (h + 17))] (by rw [sy30]; exact (Nat.lt_of_lt_of_le h0 (Nat.le_add_right h 25))) (fun o ho h9 => by rw [List.mem_singleton.mp ho] at h9; exact (Nat.ne_of_lt (Nat.lt_of_lt_of_le h0 (Nat.le_add_right h 4))) (Option.some.inj h9).symm)).trans r9
  refine n_iinc (q := 132) C 0 dX5_init_129 rfl (v := 1) (by decide) (L' := [(1, .int 1), (0, .ref a0)]) rfl (by decide) rfl ?_
  refine n_goto (t := 107) C dX5_init_132 (by decide) ?_
  refine n_iload_n (q := 108) C 0 dX5_init_107 rfl rfl ?_
  refine n_aload_n (q := 109) C 1 dX5_init_108 rfl rfl ?_
  refine n_get (q := 112) (v := .ref (h + 4)) C (ci := 5) (f := 9) rfl (by decide) uX5 (by decide) w_123 rfl (by simp [m_fs, r9, va_rf]) dX5_init_109 G87.1 rfl ?_
  refine n_alen 18 8 (q := 113) C dX5_init_112 G89.1 (by decide) rfl rfl ?_
  rw [G89.2]
  show m_N x y31 2 25 163 113 _ (.int 6 :: _)
  refine n_icmp_ge (t := 135) (q := 116) C dX5_init_113 (by decide) rfl (fun h9 => absurd h9 (by decide)) (fun _ => ?_)
  refine n_aload_n (q := 117) C 1 dX5_init_116 rfl rfl ?_
  refine n_get (q := 120) (v := .ref (h + 4)) C (ci := 5) (f := 9) rfl (by decide) uX5 (by decide) w_123 rfl (by simp [m_fs, r9, va_rf]) dX5_init_117 G87.1 rfl ?_
  refine n_iload_n (q := 121) C 0 dX5_init_120 rfl rfl ?_
  obtain ⟨y32, ey32⟩ : ∃ q, q = m_do y31 (o_n 7 0) := ⟨_, rfl⟩
  refine n_new (q := 124) C tyX7 (ci := 7) rfl (by decide) uX7 tyX7_ok w_66 w_82 w_6 f_n7 ⟨Nat.le_of_ble_eq_true rfl, Nat.le_of_ble_eq_true rfl⟩ ey32 sy31 dX5_init_121 rfl ?_
  have G91 : m_okn y32.1 a0 5 0 := by rw [ey32]; exact (m_do_ok _ G87 (by rw [sy31]; exact (Nat.lt_of_lt_of_le h0 (Nat.le_add_right h 25)))).1
  have G92 : m_okn y32.1 (h + 3) 15 4 := by rw [ey32]; exact (m_do_ok _ G88 (by rw [sy31]; exact (Nat.add_lt_add_left (Nat.le_of_ble_eq_true rfl : 3 < 25) h))).1
  have G93 : m_okn y32.1 (h + 4) 18 6 := by rw [ey32]; exact (m_do_ok _ G89 (by rw [sy31]; exact (Nat.add_lt_add_left (Nat.le_of_ble_eq_true rfl : 4 < 25) h))).1
  have G94 : m_okn y32.1 (h + 25) 7 0 := by rw [ey32, ← sy31]; exact m_do_new _ _ _
  have r7 : y32.2.1.2.2 a0 7 = some (h + 3) := by rw [ey32]; exact (m_rn_R [o_n 7 0] (by rw [sy31]; exact (Nat.lt_of_lt_of_le h0 (Nat.le_add_right h 25))) (by simp [m_tg])).trans r7
  have r9 : y32.2.1.2.2 a0 9 = some (h + 4) := by rw [ey32]; exact (m_rn_R [o_n 7 0] (by rw [sy31]; exact (Nat.lt_of_lt_of_le h0 (Nat.le_add_right h 25))) (by simp [m_tg])).trans r9
  have sy32 : y32.2.2 = h + 26 := by rw [ey32]; show y31.2.2 + 1 = _; rw [sy31]
  refine n_dup (q := 125) C dX5_init_124 rfl rfl ?_
  obtain ⟨y33, ey33⟩ : ∃ q, q = m_rn y32 (ops_X7 (h + 25) (h + 26)) := ⟨_, rfl⟩
  refine n_callI (q := 128) C (c_X7_init hl G94 (Nat.add_lt_add_left (Nat.le_of_ble_eq_true rfl : 25 < 26) h) sy32) w_83 w_84 w_6 w_85 rfl hd_X7_init rfl rfl (by decide) (Nat.le_of_ble_eq_true rfl) ⟨Nat.le_of_ble_eq_true rfl, Nat.le_of_ble_eq_true rfl⟩ dX5_init_125 rfl (fun h9 => by cases h9) (fun z hz => ?_)
  cases hz
  have sy33 : y33.2.2 = h + 33 := by rw [ey33, m_rn_sz, sy32, ct_X7]
  rw [show ((m_rn y32 (ops_X7 (h + 25) (h + 26))).1, (m_rn y32 (ops_X7 (h + 25) (h + 26))).2.1, (h + 26) + 7) = y33 from by rw [← ey33]; show (y33.1, y33.2.1, _) = (y33.1, y33.2.1, y33.2.2); rw [sy33]]
  have G95 : m_okn y33.1 a0 5 0 := by rw [ey33]; exact m_rn_ok _ G91 (by rw [sy32]; exact (Nat.lt_of_lt_of_le h0 (Nat.le_add_right h 26)))
  have G96 : m_okn y33.1 (h + 3) 15 4 := by rw [ey33]; exact m_rn_ok _ G92 (by rw [sy32]; exact (Nat.add_lt_add_left (Nat.le_of_ble_eq_true rfl : 3 < 26) h))
  have G97 : m_okn y33.1 (h + 4) 18 6 := by rw [ey33]; exact m_rn_ok _ G93 (by rw [sy32]; exact (Nat.add_lt_add_left (Nat.le_of_ble_eq_true rfl : 4 < 26) h))
  have G98 : m_okn y33.1 (h + 25) 7 0 := by rw [ey33]; exact m_rn_ok _ G94 (by rw [sy32]; exact (Nat.add_lt_add_left (Nat.le_of_ble_eq_true rfl : 25 < 26) h))
  have r7 : y33.2.1.2.2 a0 7 = some (h + 3) := by rw [ey33]; exact (m_rn_R _ (by rw [sy32]; exact (Nat.lt_of_lt_of_le h0 (Nat.le_add_right h 26))) (fun o ho => tg_X7 ho (Nat.ne_of_lt (Nat.lt_of_lt_of_le h0 (Nat.le_add_right h 25))) (Nat.lt_of_lt_of_le h0 (Nat.le_add_right h 26)))).trans r7
  have r9 : y33.2.1.2.2 a0 9 = some (h + 4) := by rw [ey33]; exact (m_rn_R _ (by rw [sy32]; exact (Nat.lt_of_lt_of_le h0 (Nat.le_add_right h 26))) (fun o ho => tg_X7 ho (Nat.ne_of_lt (Nat.lt_of_lt_of_le h0 (Nat.le_add_right h 25))) (Nat.lt_of_lt_of_le h0 (Nat.le_add_right h 26)))).trans r9
  show m_N x y33 2 33 200 128 _ _
  obtain ⟨y34, ey34⟩ : ∃ q, q = m_do y33 (o_R (h + 4) 1 (some (h + 25))) := ⟨_, rfl⟩
  refine n_aast18 (q := 129) C ⟨G97.1, by rw [G97.2]; decide⟩ G98.1 rfl ey34 dX5_init_128 rfl ?_
  have G99 : m_okn y34.1 a0 5 0 := by rw [ey34]; exact G95
  have G100 : m_okn y34.1 (h + 3) 15 4 := by rw [ey34]; exact G96
  have G101 : m_okn y34.1 (h + 4) 18 6 := by rw [ey34]; exact G97
  have G102 : m_okn y34.1 (h + 25) 7 0 := by rw [ey34]; exact G98
  have sy34 : y34.2.2 = h + 33 := by rw [ey34]; exact sy33
  have r7 : y34.2.1.2.2 a0 7 = some (h + 3) := by rw [ey34]; exact (m_rn_R [o_R (h + 4) 1 (some (h + 25))] (by rw [sy33]; exact (Nat.lt_of_lt_of_le h0 (Nat.le_add_right h 33))) (fun o ho h9 => by rw [List.mem_singleton.mp ho] at h9; exact (Nat.ne_of_lt (Nat.lt_of_lt_of_le h0 (Nat.le_add_right h 4))) (Option.some.inj h9).symm)).trans r7
  have r9 : y34.2.1.2.2 a0 9 = some (h + 4) := by rw [ey34]; exact (m_rn_R [o_R (h + 4) 1 (some (h + 25))] (by rw [sy33]; exact (Nat.lt_of_lt_of_le h0 (Nat.le_add_right h 33))) (fun o ho h9 => by rw [List.mem_singleton.mp ho] at h9; exact (Nat.ne_of_lt (Nat.lt_of_lt_of_le h0 (Nat.le_add_right h 4))) (Option.some.inj h9).symm)).trans r9
  refine n_iinc (q := 132) C 0 dX5_init_129 rfl (v := 2) (by decide) (L' := [(1, .int 2), (0, .ref a0)]) rfl (by decide) rfl ?_
  refine n_goto (t := 107) C dX5_init_132 (by decide) ?_
  refine n_iload_n (q := 108) C 0 dX5_init_107 rfl rfl ?_
  refine n_aload_n (q := 109) C 1 dX5_init_108 rfl rfl ?_
  refine n_get (q := 112) (v := .ref (h + 4)) C (ci := 5) (f := 9) rfl (by decide) uX5 (by decide) w_123 rfl (by simp [m_fs, r9, va_rf]) dX5_init_109 G99.1 rfl ?_
  refine n_alen 18 8 (q := 113) C dX5_init_112 G101.1 (by decide) rfl rfl ?_
  rw [G101.2]
  show m_N x y34 2 33 200 113 _ (.int 6 :: _)
  refine n_icmp_ge (t := 135) (q := 116) C dX5_init_113 (by decide) rfl (fun h9 => absurd h9 (by decide)) (fun _ => ?_)
  refine n_aload_n (q := 117) C 1 dX5_init_116 rfl rfl ?_
  refine n_get (q := 120) (v := .ref (h + 4)) C (ci := 5) (f := 9) rfl (by decide) uX5 (by decide) w_123 rfl (by simp [m_fs, r9, va_rf]) dX5_init_117 G99.1 rfl ?_
  refine n_iload_n (q := 121) C 0 dX5_init_120 rfl rfl ?_
  obtain ⟨y35, ey35⟩ : ∃ q, q = m_do y34 (o_n 7 0) := ⟨_, rfl⟩
  refine n_new (q := 124) C tyX7 (ci := 7) rfl (by decide) uX7 tyX7_ok w_66 w_82 w_6 f_n7 ⟨Nat.le_of_ble_eq_true rfl, Nat.le_of_ble_eq_true rfl⟩ ey35 sy34 dX5_init_121 rfl ?_
  have G103 : m_okn y35.1 a0 5 0 := by rw [ey35]; exact (m_do_ok _ G99 (by rw [sy34]; exact (Nat.lt_of_lt_of_le h0 (Nat.le_add_right h 33)))).1
  have G104 : m_okn y35.1 (h + 3) 15 4 := by rw [ey35]; exact (m_do_ok _ G100 (by rw [sy34]; exact (Nat.add_lt_add_left (Nat.le_of_ble_eq_true rfl : 3 < 33) h))).1
  have G105 : m_okn y35.1 (h + 4) 18 6 := by rw [ey35]; exact (m_do_ok _ G101 (by rw [sy34]; exact (Nat.add_lt_add_left (Nat.le_of_ble_eq_true rfl : 4 < 33) h))).1
  have G106 : m_okn y35.1 (h + 33) 7 0 := by rw [ey35, ← sy34]; exact m_do_new _ _ _
  have r7 : y35.2.1.2.2 a0 7 = some (h + 3) := by rw [ey35]; exact (m_rn_R [o_n 7 0] (by rw [sy34]; exact (Nat.lt_of_lt_of_le h0 (Nat.le_add_right h 33))) (by simp [m_tg])).trans r7
  have r9 : y35.2.1.2.2 a0 9 = some (h + 4) := by rw [ey35]; exact (m_rn_R [o_n 7 0] (by rw [sy34]; exact (Nat.lt_of_lt_of_le h0 (Nat.le_add_right h 33))) (by simp [m_tg])).trans r9
  have sy35 : y35.2.2 = h + 34 := by rw [ey35]; show y34.2.2 + 1 = _; rw [sy34]
  refine n_dup (q := 125) C dX5_init_124 rfl rfl ?_
  obtain ⟨y36, ey36⟩ : ∃ q, q = m_rn y35 (ops_X7 (h + 33) (h + 34)) := ⟨_, rfl⟩
  refine n_callI (q := 128) C (c_X7_init hl G106 (Nat.add_lt_add_left (Nat.le_of_ble_eq_true rfl : 33 < 34) h) sy35) w_83 w_84 w_6 w_85 rfl hd_X7_init rfl rfl (by decide) (Nat.le_of_ble_eq_true rfl) ⟨Nat.le_of_ble_eq_true rfl, Nat.le_of_ble_eq_true rfl⟩ dX5_init_125 rfl (fun h9 => by cases h9) (fun z hz => ?_)
  cases hz
  have sy36 : y36.2.2 = h + 41 := by rw [ey36, m_rn_sz, sy35, ct_X7]
  rw [show ((m_rn y35 (ops_X7 (h + 33) (h + 34))).1, (m_rn y35 (ops_X7 (h + 33) (h + 34))).2.1, (h + 34) + 7) = y36 from by rw [← ey36]; show (y36.1, y36.2.1, _) = (y36.1, y36.2.1, y36.2.2); rw [sy36]]
  have G107 : m_okn y36.1 a0 5 0 := by rw [ey36]; exact m_rn_ok _ G103 (by rw [sy35]; exact (Nat.lt_of_lt_of_le h0 (Nat.le_add_right h 34)))
  have G108 : m_okn y36.1 (h + 3) 15 4 := by rw [ey36]; exact m_rn_ok _ G104 (by rw [sy35]; exact (Nat.add_lt_add_left (Nat.le_of_ble_eq_true rfl : 3 < 34) h))
  have G109 : m_okn y36.1 (h + 4) 18 6 := by rw [ey36]; exact m_rn_ok _ G105 (by rw [sy35]; exact (Nat.add_lt_add_left (Nat.le_of_ble_eq_true rfl : 4 < 34) h))
  have G110 : m_okn y36.1 (h + 33) 7 0 := by rw [ey36]; exact m_rn_ok _ G106 (by rw [sy35]; exact (Nat.add_lt_add_left (Nat.le_of_ble_eq_true rfl : 33 < 34) h))
  have r7 : y36.2.1.2.2 a0 7 = some (h + 3) := by rw [ey36]; exact (m_rn_R _ (by rw [sy35]; exact (Nat.lt_of_lt_of_le h0 (Nat.le_add_right h 34))) (fun o ho => tg_X7 ho (Nat.ne_of_lt (Nat.lt_of_lt_of_le h0 (Nat.le_add_right h 33))) (Nat.lt_of_lt_of_le h0 (Nat.le_add_right h 34)))).trans r7
  have r9 : y36.2.1.2.2 a0 9 = some (h + 4) := by rw [ey36]; exact (m_rn_R _ (by rw [sy35]; exact (Nat.lt_of_lt_of_le h0 (Nat.le_add_right h 34))) (fun o ho => tg_X7 ho (Nat.ne_of_lt (Nat.lt_of_lt_of_le h0 (Nat.le_add_right h 33))) (Nat.lt_of_lt_of_le h0 (Nat.le_add_right h 34)))).trans r9
  show m_N x y36 2 41 237 128 _ _
  obtain ⟨y37, ey37⟩ : ∃ q, q = m_do y36 (o_R (h + 4) 2 (some (h + 33))) := ⟨_, rfl⟩
  refine n_aast18 (q := 129) C ⟨G109.1, by rw [G109.2]; decide⟩ G110.1 rfl ey37 dX5_init_128 rfl ?_
  have G111 : m_okn y37.1 a0 5 0 := by rw [ey37]; exact G107
  have G112 : m_okn y37.1 (h + 3) 15 4 := by rw [ey37]; exact G108
  have G113 : m_okn y37.1 (h + 4) 18 6 := by rw [ey37]; exact G109
  have G114 : m_okn y37.1 (h + 33) 7 0 := by rw [ey37]; exact G110
  have sy37 : y37.2.2 = h + 41 := by rw [ey37]; exact sy36
  have r7 : y37.2.1.2.2 a0 7 = some (h + 3) := by rw [ey37]; exact (m_rn_R [o_R (h + 4) 2 (some (h + 33))] (by rw [sy36]; exact (Nat.lt_of_lt_of_le h0 (Nat.le_add_right h 41))) (fun o ho h9 => by rw [List.mem_singleton.mp ho] at h9; exact (Nat.ne_of_lt (Nat.lt_of_lt_of_le h0 (Nat.le_add_right h 4))) (Option.some.inj h9).symm)).trans r7
  have r9 : y37.2.1.2.2 a0 9 = some (h + 4) := by rw [ey37]; exact (m_rn_R [o_R (h + 4) 2 (some (h + 33))] (by rw [sy36]; exact (Nat.lt_of_lt_of_le h0 (Nat.le_add_right h 41))) (fun o ho h9 => by rw [List.mem_singleton.mp ho] at h9; exact (Nat.ne_of_lt (Nat.lt_of_lt_of_le h0 (Nat.le_add_right h 4))) (Option.some.inj h9).symm)).trans r9
  refine n_iinc (q := 132) C 0 dX5_init_129 rfl (v := 3) (by decide) (L' := [(1, .int 3), (0, .ref a0)]) rfl (by decide) rfl ?_
  refine n_goto (t := 107) C dX5_init_132 (by decide) ?_
  refine n_iload_n (q := 108) C 0 dX5_init_107 rfl rfl ?_
  refine n_aload_n (q := 109) C 1 dX5_init_108 rfl rfl ?_
  refine n_get (q := 112) (v := .ref (h + 4)) C (ci := 5) (f := 9) rfl (by decide) uX5 (by decide) w_123 rfl (by simp [m_fs, r9, va_rf]) dX5_init_109 G111.1 rfl ?_
  refine n_alen 18 8 (q := 113) C dX5_init_112 G113.1 (by decide) rfl rfl ?_
  rw [G113.2]
  show m_N x y37 2 41 237 113 _ (.int 6 :: _)
  refine n_icmp_ge (t := 135) (q := 116) C dX5_init_113 (by decide) rfl (fun h9 => absurd h9 (by decide)) (fun _ => ?_)
  refine n_aload_n (q := 117) C 1 dX5_init_116 rfl rfl ?_
  refine n_get (q := 120) (v := .ref (h + 4)) C (ci := 5) (f := 9) rfl (by decide) uX5 (by decide) w_123 rfl (by simp [m_fs, r9, va_rf]) dX5_init_117 G111.1 rfl ?_
  refine n_iload_n (q := 121) C 0 dX5_init_120 rfl rfl ?_
  obtain ⟨y38, ey38⟩ : ∃ q, q = m_do y37 (o_n 7 0) := ⟨_, rfl⟩
  refine n_new (q := 124) C tyX7 (ci := 7) rfl (by decide) uX7 tyX7_ok w_66 w_82 w_6 f_n7 ⟨Nat.le_of_ble_eq_true rfl, Nat.le_of_ble_eq_true rfl⟩ ey38 sy37 dX5_init_121 rfl ?_
  have G115 : m_okn y38.1 a0 5 0 := by rw [ey38]; exact (m_do_ok _ G111 (by rw [sy37]; exact (Nat.lt_of_lt_of_le h0 (Nat.le_add_right h 41)))).1
  have G116 : m_okn y38.1 (h + 3) 15 4 := by rw [ey38]; exact (m_do_ok _ G112 (by rw [sy37]; exact (Nat.add_lt_add_left (Nat.le_of_ble_eq_true rfl : 3 < 41) h))).1
  have G117 : m_okn y38.1 (h + 4) 18 6 := by rw [ey38]; exact (m_do_ok _ G113 (by rw [sy37]; exact (Nat.add_lt_add_left (Nat.le_of_ble_eq_true rfl : 4 < 41) h))).1
  have G118 : m_okn y38.1 (h + 41) 7 0 := by rw [ey38, ← sy37]; exact m_do_new _ _ _
  have r7 : y38.2.1.2.2 a0 7 = some (h + 3) := by rw [ey38]; exact (m_rn_R [o_n 7 0] (by rw [sy37]; exact (Nat.lt_of_lt_of_le h0 (Nat.le_add_right h 41))) (by simp [m_tg])).trans r7
  have r9 : y38.2.1.2.2 a0 9 = some (h + 4) := by rw [ey38]; exact (m_rn_R [o_n 7 0] (by rw [sy37]; exact (Nat.lt_of_lt_of_le h0 (Nat.le_add_right h 41))) (by simp [m_tg])).trans r9
  have sy38 : y38.2.2 = h + 42 := by rw [ey38]; show y37.2.2 + 1 = _; rw [sy37]
  refine n_dup (q := 125) C dX5_init_124 rfl rfl ?_
  obtain ⟨y39, ey39⟩ : ∃ q, q = m_rn y38 (ops_X7 (h + 41) (h + 42)) := ⟨_, rfl⟩
  refine n_callI (q := 128) C (c_X7_init hl G118 (Nat.add_lt_add_left (Nat.le_of_ble_eq_true rfl : 41 < 42) h) sy38) w_83 w_84 w_6 w_85 rfl hd_X7_init rfl rfl (by decide) (Nat.le_of_ble_eq_true rfl) ⟨Nat.le_of_ble_eq_true rfl, Nat.le_of_ble_eq_true rfl⟩ dX5_init_125 rfl (fun h9 => by cases h9) (fun z hz => ?_)
  cases hz
  have sy39 : y39.2.2 = h + 49 := by rw [ey39, m_rn_sz, sy38, ct_X7]
  rw [show ((m_rn y38 (ops_X7 (h + 41) (h + 42))).1, (m_rn y38 (ops_X7 (h + 41) (h + 42))).2.1, (h + 42) + 7) = y39 from by rw [← ey39]; show (y39.1, y39.2.1, _) = (y39.1, y39.2.1, y39.2.2); rw [sy39]]
  have G119 : m_okn y39.1 a0 5 0 := by rw [ey39]; exact m_rn_ok _ G115 (by rw [sy38]; exact (Nat.lt_of_lt_of_le h0 (Nat.le_add_right h 42)))
  have G120 : m_okn y39.1 (h + 3) 15 4 := by rw [ey39]; exact m_rn_ok _ G116 (by rw [sy38]; exact (Nat.add_lt_add_left (Nat.le_of_ble_eq_true rfl : 3 < 42) h))
  have G121 : m_okn y39.1 (h + 4) 18 6 := by rw [ey39]; exact m_rn_ok _ G117 (by rw [sy38]; exact (Nat.add_lt_add_left (Nat.le_of_ble_eq_true rfl : 4 < 42) h))
  have G122 : m_okn y39.1 (h + 41) 7 0 := by rw [ey39]; exact m_rn_ok _ G118 (by rw [sy38]; exact (Nat.add_lt_add_left (Nat.le_of_ble_eq_true rfl : 41 < 42) h))
  have r7 : y39.2.1.2.2 a0 7 = some (h + 3) := by rw [ey39]; exact (m_rn_R _ (by rw [sy38]; exact (Nat.lt_of_lt_of_le h0 (Nat.le_add_right h 42))) (fun o ho => tg_X7 ho (Nat.ne_of_lt (Nat.lt_of_lt_of_le h0 (Nat.le_add_right h 41))) (Nat.lt_of_lt_of_le h0 (Nat.le_add_right h 42)))).trans r7
  have r9 : y39.2.1.2.2 a0 9 = some (h + 4) := by rw [ey39]; exact (m_rn_R _ (by rw [sy38]; exact (Nat.lt_of_lt_of_le h0 (Nat.le_add_right h 42))) (fun o ho => tg_X7 ho (Nat.ne_of_lt (Nat.lt_of_lt_of_le h0 (Nat.le_add_right h 41))) (Nat.lt_of_lt_of_le h0 (Nat.le_add_right h 42)))).trans r9
  show m_N x y39 2 49 274 128 _ _
  obtain ⟨y40, ey40⟩ : ∃ q, q = m_do y39 (o_R (h + 4) 3 (some (h + 41))) := ⟨_, rfl⟩
  refine n_aast18 (q := 129) C ⟨G121.1, by rw [G121.2]; decide⟩ G122.1 rfl ey40 dX5_init_128 rfl ?_
  have G123 : m_okn y40.1 a0 5 0 := by rw [ey40]; exact G119
  have G124 : m_okn y40.1 (h + 3) 15 4 := by rw [ey40]; exact G120
  have G125 : m_okn y40.1 (h + 4) 18 6 := by rw [ey40]; exact G121
  have G126 : m_okn y40.1 (h + 41) 7 0 := by rw [ey40]; exact G122
  have sy40 : y40.2.2 = h + 49 := by rw [ey40]; exact sy39
  have r7 : y40.2.1.2.2 a0 7 = some (h + 3) := by rw [ey40]; exact (m_rn_R [o_R (h + 4) 3 (some (h + 41))] (by rw [sy39]; exact (Nat.lt_of_lt_of_le h0 (Nat.le_add_right h 49))) (fun o ho h9 => by rw [List.mem_singleton.mp ho] at h9; exact (Nat.ne_of_lt (Nat.lt_of_lt_of_le h0 (Nat.le_add_right h 4))) (Option.some.inj h9).symm)).trans r7
  have r9 : y40.2.1.2.2 a0 9 = some (h + 4) := by rw [ey40]; exact (m_rn_R [o_R (h + 4) 3 (some (h + 41))] (by rw [sy39]; exact (Nat.lt_of_lt_of_le h0 (Nat.le_add_right h 49))) (fun o ho h9 => by rw [List.mem_singleton.mp ho] at h9; exact (Nat.ne_of_lt (Nat.lt_of_lt_of_le h0 (Nat.le_add_right h 4))) (Option.some.inj h9).symm)).trans r9
  refine n_iinc (q := 132) C 0 dX5_init_129 rfl (v := 4) (by decide) (L' := [(1, .int 4), (0, .ref a0)]) rfl (by decide) rfl ?_
  refine n_goto (t := 107) C dX5_init_132 (by decide) ?_
  refine n_iload_n (q := 108) C 0 dX5_init_107 rfl rfl ?_
  refine n_aload_n (q := 109) C 1 dX5_init_108 rfl rfl ?_
  refine n_get (q := 112) (v := .ref (h + 4)) C (ci := 5) (f := 9) rfl (by decide) uX5 (by decide) w_123 rfl (by simp [m_fs, r9, va_rf]) dX5_init_109 G123.1 rfl ?_
  refine n_alen 18 8 (q := 113) C dX5_init_112 G125.1 (by decide) rfl rfl ?_
  rw [G125.2]
  show m_N x y40 2 49 274 113 _ (.int 6 :: _)
  refine n_icmp_ge (t := 135) (q := 116) C dX5_init_113 (by decide) rfl (fun h9 => absurd h9 (by decide)) (fun _ => ?_)
  refine n_aload_n (q := 117) C 1 dX5_init_116 rfl rfl ?_
  refine n_get (q := 120) (v := .ref (h + 4)) C (ci := 5) (f := 9) rfl (by decide) uX5 (by decide) w_123 rfl (by simp [m_fs, r9, va_rf]) dX5_init_117 G123.1 rfl ?_
  refine n_iload_n (q := 121) C 0 dX5_init_120 rfl rfl ?_
  obtain ⟨y41, ey41⟩ : ∃ q, q = m_do y40 (o_n 7 0) := ⟨_, rfl⟩
  refine n_new (q := 124) C tyX7 (ci := 7) rfl (by decide) uX7 tyX7_ok w_66 w_82 w_6 f_n7 ⟨Nat.le_of_ble_eq_true rfl, Nat.le_of_ble_eq_true rfl⟩ ey41 sy40 dX5_init_121 rfl ?_
  have G127 : m_okn y41.1 a0 5 0 := by rw [ey41]; exact (m_do_ok _ G123 (by rw [sy40]; exact (Nat.lt_of_lt_of_le h0 (Nat.le_add_right h 49)))).1
  have G128 : m_okn y41.1 (h + 3) 15 4 := by rw [ey41]; exact (m_do_ok _ G124 (by rw [sy40]; exact (Nat.add_lt_add_left (Nat.le_of_ble_eq_true rfl : 3 < 49) h))).1
  have G129 : m_okn y41.1 (h + 4) 18 6 := by rw [ey41]; exact (m_do_ok _ G125 (by rw [sy40]; exact (Nat.add_lt_add_left (Nat.le_of_ble_eq_true rfl : 4 < 49) h))).1
  have G130 : m_okn y41.1 (h + 49) 7 0 := by rw [ey41, ← sy40]; exact m_do_new _ _ _
  have r7 : y41.2.1.2.2 a0 7 = some (h + 3) := by rw [ey41]; exact (m_rn_R [o_n 7 0] (by rw [sy40]; exact (Nat.lt_of_lt_of_le h0 (Nat.le_add_right h 49))) (by simp [m_tg])).trans r7
  have r9 : y41.2.1.2.2 a0 9 = some (h + 4) := by rw [ey41]; exact (m_rn_R [o_n 7 0] (by rw [sy40]; exact (Nat.lt_of_lt_of_le h0 (Nat.le_add_right h 49))) (by simp [m_tg])).trans r9
  have sy41 : y41.2.2 = h + 50 := by rw [ey41]; show y40.2.2 + 1 = _; rw [sy40]
  refine n_dup (q := 125) C dX5_init_124 rfl rfl ?_
  obtain ⟨y42, ey42⟩ : ∃ q, q = m_rn y41 (ops_X7 (h + 49) (h + 50)) := ⟨_, rfl⟩
  refine n_callI (q := 128) C (c_X7_init hl G130 (Nat.add_lt_add_left (Nat.le_of_ble_eq_true rfl : 49 < 50) h) sy41) w_83 w_84 w_6 w_85 rfl hd_X7_init rfl rfl (by decide) (Nat.le_of_ble_eq_true rfl) ⟨Nat.le_of_ble_eq_true rfl, Nat.le_of_ble_eq_true rfl⟩ dX5_init_125 rfl (fun h9 => by cases h9) (fun z hz => ?_)
  cases hz
  have sy42 : y42.2.2 = h + 57 := by rw [ey42, m_rn_sz, sy41, ct_X7]
  rw [show ((m_rn y41 (ops_X7 (h + 49) (h + 50))).1, (m_rn y41 (ops_X7 (h + 49) (h + 50))).2.1, (h + 50) + 7) = y42 from by rw [← ey42]; show (y42.1, y42.2.1, _) = (y42.1, y42.2.1, y42.2.2); rw [sy42]]
  have G131 : m_okn y42.1 a0 5 0 := by rw [ey42]; exact m_rn_ok _ G127 (by rw [sy41]; exact (Nat.lt_of_lt_of_le h0 (Nat.le_add_right h 50)))
  have G132 : m_okn y42.1 (h + 3) 15 4 := by rw [ey42]; exact m_rn_ok _ G128 (by rw [sy41]; exact (Nat.add_lt_add_left (Nat.le_of_ble_eq_true rfl : 3 < 50) h))
  have G133 : m_okn y42.1 (h + 4) 18 6 := by rw [ey42]; exact m_rn_ok _ G129 (by rw [sy41]; exact (Nat.add_lt_add_left (Nat.le_of_ble_eq_true rfl : 4 < 50) h))
  have G134 : m_okn y42.1 (h + 49) 7 0 := by rw [ey42]; exact m_rn_ok _ G130 (by rw [sy41]; exact (Nat.add_lt_add_left (Nat.le_of_ble_eq_true rfl : 49 < 50) h))
  have r7 : y42.2.1.2.2 a0 7 = some (h + 3) := by rw [ey42]; exact (m_rn_R _ (by rw [sy41]; exact (Nat.lt_of_lt_of_le h0 (Nat.le_add_right h 50))) (fun o ho => tg_X7 ho (Nat.ne_of_lt (Nat.lt_of_lt_of_le h0 (Nat.le_add_right h 49))) (Nat.lt_of_lt_of_le h0 (Nat.le_add_right h 50)))).trans r7
  have r9 : y42.2.1.2.2 a0 9 = some (h + 4) := by rw [ey42]; exact (m_rn_R _ (by rw [sy41]; exact (Nat.lt_of_lt_of_le h0 (Nat.le_add_right h 50))) (fun o ho => tg_X7 ho (Nat.ne_of_lt (Nat.lt_of_lt_of_le h0 (Nat.le_add_right h 49))) (Nat.lt_of_lt_of_le h0 (Nat.le_add_right h 50)))).trans r9
  show m_N x y42 2 57 311 128 _ _
  obtain ⟨y43, ey43⟩ : ∃ q, q = m_do y42 (o_R (h + 4) 4 (some (h + 49))) := ⟨_, rfl⟩
  refine n_aast18 (q := 129) C ⟨G133.1, by rw [G133.2]; decide⟩ G134.1 rfl ey43 dX5_init_128 rfl ?_
  have G135 : m_okn y43.1 a0 5 0 := by rw [ey43]; exact G131
  have G136 : m_okn y43.1 (h + 3) 15 4 := by rw [ey43]; exact G132
  have G137 : m_okn y43.1 (h + 4) 18 6 := by rw [ey43]; exact G133
  have G138 : m_okn y43.1 (h + 49) 7 0 := by rw [ey43]; exact G134
  have sy43 : y43.2.2 = h + 57 := by rw [ey43]; exact sy42
  have r7 : y43.2.1.2.2 a0 7 = some (h + 3) := by rw [ey43]; exact (m_rn_R [o_R (h + 4) 4 (some (h + 49))] (by rw [sy42]; exact (Nat.lt_of_lt_of_le h0 (Nat.le_add_right h 57))) (fun o ho h9 => by rw [List.mem_singleton.mp ho] at h9; exact (Nat.ne_of_lt (Nat.lt_of_lt_of_le h0 (Nat.le_add_right h 4))) (Option.some.inj h9).symm)).trans r7
  have r9 : y43.2.1.2.2 a0 9 = some (h + 4) := by rw [ey43]; exact (m_rn_R [o_R (h + 4) 4 (some (h + 49))] (by rw [sy42]; exact (Nat.lt_of_lt_of_le h0 (Nat.le_add_right h 57))) (fun o ho h9 => by rw [List.mem_singleton.mp ho] at h9; exact (Nat.ne_of_lt (Nat.lt_of_lt_of_le h0 (Nat.le_add_right h 4))) (Option.some.inj h9).symm)).trans r9
  refine n_iinc (q := 132) C 0 dX5_init_129 rfl (v := 5) (by decide) (L' := [(1, .int 5), (0, .ref a0)]) rfl (by decide) rfl ?_
  refine n_goto (t := 107) C dX5_init_132 (by decide) ?_
  refine n_iload_n (q := 108) C 0 dX5_init_107 rfl rfl ?_
  refine n_aload_n (q := 109) C 1 dX5_init_108 rfl rfl ?_
  refine n_get (q := 112) (v := .ref (h + 4)) C (ci := 5) (f := 9) rfl (by decide) uX5 (by decide) w_123 rfl (by simp [m_fs, r9, va_rf]) dX5_init_109 G135.1 rfl ?_
  refine n_alen 18 8 (q := 113) C dX5_init_112 G137.1 (by decide) rfl rfl ?_
  rw [G137.2]
  show m_N x y43 2 57 311 113 _ (.int 6 :: _)
  refine n_icmp_ge (t := 135) (q := 116) C dX5_init_113 (by decide) rfl (fun h9 => absurd h9 (by decide)) (fun _ => ?_)
  refine n_aload_n (q := 117) C 1 dX5_init_116 rfl rfl ?_
  refine n_get (q := 120) (v := .ref (h + 4)) C (ci := 5) (f := 9) rfl (by decide) uX5 (by decide) w_123 rfl (by simp [m_fs, r9, va_rf]) dX5_init_117 G135.1 rfl ?_
  refine n_iload_n (q := 121) C 0 dX5_init_120 rfl rfl ?_
  obtain ⟨y44, ey44⟩ : ∃ q, q = m_do y43 (o_n 7 0) := ⟨_, rfl⟩
  refine n_new (q := 124) C tyX7 (ci := 7) rfl (by decide) uX7 tyX7_ok w_66 w_82 w_6 f_n7 ⟨Nat.le_of_ble_eq_true rfl, Nat.le_of_ble_eq_true rfl⟩ ey44 sy43 dX5_init_121 rfl ?_
  have G139 : m_okn y44.1 a0 5 0 := by rw [ey44]; exact (m_do_ok _ G135 (by rw [sy43]; exact (Nat.lt_of_lt_of_le h0 (Nat.le_add_right h 57)))).1
  have G140 : m_okn y44.1 (h + 3) 15 4 := by rw [ey44]; exact (m_do_ok _ G136 (by rw [sy43]; exact (Nat.add_lt_add_left (Nat.le_of_ble_eq_true rfl : 3 < 57) h))).1
  have G141 : m_okn y44.1 (h + 4) 18 6 := by rw [ey44]; exact (m_do_ok _ G137 (by rw [sy43]; exact (Nat.add_lt_add_left (Nat.le_of_ble_eq_true rfl : 4 < 57) h))).1
  have G142 : m_okn y44.1 (h + 57) 7 0 := by rw [ey44, ← sy43]; exact m_do_new _ _ _
  have r7 : y44.2.1.2.2 a0 7 = some (h + 3) := by rw [ey44]; exact (m_rn_R [o_n 7 0] (by rw [sy43]; exact (Nat.lt_of_lt_of_le h0 (Nat.le_add_right h 57))) (by simp [m_tg])).trans r7
  have r9 : y44.2.1.2.2 a0 9 = some (h + 4) := by rw [ey44]; exact (m_rn_R [o_n 7 0] (by rw [sy43]; exact (Nat.lt_of_lt_of_le h0 (Nat.le_add_right h 57))) (by simp [m_tg])).trans r9
  have sy44 : y44.2.2 = h + 58 := by rw [ey44]; show y43.2.2 + 1 = _; rw [sy43]
  refine n_dup (q := 125) C dX5_init_124 rfl rfl ?_
  obtain ⟨y45, ey45⟩ : ∃ q, q = m_rn y44 (ops_X7 (h + 57) (h + 58)) := ⟨_, rfl⟩
  refine n_callI (q := 128) C (c_X7_init hl G142 (Nat.add_lt_add_left (Nat.le_of_ble_eq_true rfl : 57 < 58) h) sy44) w_83 w_84 w_6 w_85 rfl hd_X7_init rfl rfl (by decide) (Nat.le_of_ble_eq_true rfl) ⟨Nat.le_of_ble_eq_true rfl, Nat.le_of_ble_eq_true rfl⟩ dX5_init_125 rfl (fun h9 => by cases h9) (fun z hz => ?_)
  cases hz
  have sy45 : y45.2.2 = h + 65 := by rw [ey45, m_rn_sz, sy44, ct_X7]
  rw [show ((m_rn y44 (ops_X7 (h + 57) (h + 58))).1, (m_rn y44 (ops_X7 (h + 57) (h + 58))).2.1, (h + 58) + 7) = y45 from by rw [← ey45]; show (y45.1, y45.2.1, _) = (y45.1, y45.2.1, y45.2.2); rw [sy45]]
  have G143 : m_okn y45.1 a0 5 0 := by rw [ey45]; exact m_rn_ok _ G139 (by rw [sy44]; exact (Nat.lt_of_lt_of_le h0 (Nat.le_add_right h 58)))
  have G144 : m_okn y45.1 (h + 3) 15 4 := by rw [ey45]; exact m_rn_ok _ G140 (by rw [sy44]; exact (Nat.add_lt_add_left (Nat.le_of_ble_eq_true rfl : 3 < 58) h))
  have G145 : m_okn y45.1 (h + 4) 18 6 := by rw [ey45]; exact m_rn_ok _ G141 (by rw [sy44]; exact (Nat.add_lt_add_left (Nat.le_of_ble_eq_true rfl : 4 < 58) h))
  have G146 : m_okn y45.1 (h + 57) 7 0 := by rw [ey45]; exact m_rn_ok _ G142 (by rw [sy44]; exact (Nat.add_lt_add_left (Nat.le_of_ble_eq_true rfl : 57 < 58) h))
  have r7 : y45.2.1.2.2 a0 7 = some (h + 3) := by rw [ey45]; exact (m_rn_R _ (by rw [sy44]; exact (Nat.lt_of_lt_of_le h0 (Nat.le_add_right h 58))) (fun o ho => tg_X7 ho (Nat.ne_of_lt (Nat.lt_of_lt_of_le h0 (Nat.le_add_right h 57))) (Nat.lt_of_lt_of_le h0 (Nat.le_add_right h 58)))).trans r7
  have r9 : y45.2.1.2.2 a0 9 = some (h + 4) := by rw [ey45]; exact (m_rn_R _ (by rw [sy44]; exact (Nat.lt_of_lt_of_le h0 (Nat.le_add_right h 58))) (fun o ho => tg_X7 ho (Nat.ne_of_lt (Nat.lt_of_lt_of_le h0 (Nat.le_add_right h 57))) (Nat.lt_of_lt_of_le h0 (Nat.le_add_right h 58)))).trans r9
  show m_N x y45 2 65 348 128 _ _
  obtain ⟨y46, ey46⟩ : ∃ q, q = m_do y45 (o_R (h + 4) 5 (some (h + 57))) := ⟨_, rfl⟩
  refine n_aast18 (q := 129) C ⟨G145.1, by rw [G145.2]; decide⟩ G146.1 rfl ey46 dX5_init_128 rfl ?_
  have G147 : m_okn y46.1 a0 5 0 := by rw [ey46]; exact G143
  have G148 : m_okn y46.1 (h + 3) 15 4 := by rw [ey46]; exact G144
  have G149 : m_okn y46.1 (h + 4) 18 6 := by rw [ey46]; exact G145
  have G150 : m_okn y46.1 (h + 57) 7 0 := by rw [ey46]; exact G146
  have sy46 : y46.2.2 = h + 65 := by rw [ey46]; exact sy45
  have r7 : y46.2.1.2.2 a0 7 = some (h + 3) := by rw [ey46]; exact (m_rn_R [o_R (h + 4) 5 (some (h + 57))] (by rw [sy45]; exact (Nat.lt_of_lt_of_le h0 (Nat.le_add_right h 65))) (fun o ho h9 => by rw [List.mem_singleton.mp ho] at h9; exact (Nat.ne_of_lt (Nat.lt_of_lt_of_le h0 (Nat.le_add_right h 4))) (Option.some.inj h9).symm)).trans r7
  have r9 : y46.2.1.2.2 a0 9 = some (h + 4) := by rw [ey46]; exact (m_rn_R [o_R (h + 4) 5 (some (h + 57))] (by rw [sy45]; exact (Nat.lt_of_lt_of_le h0 (Nat.le_add_right h 65))) (fun o ho h9 => by rw [List.mem_singleton.mp ho] at h9; exact (Nat.ne_of_lt (Nat.lt_of_lt_of_le h0 (Nat.le_add_right h 4))) (Option.some.inj h9).symm)).trans r9
  refine n_iinc (q := 132) C 0 dX5_init_129 rfl (v := 6) (by decide) (L' := [(1, .int 6), (0, .ref a0)]) rfl (by decide) rfl ?_
  refine n_goto (t := 107) C dX5_init_132 (by decide) ?_
  refine n_iload_n (q := 108) C 0 dX5_init_107 rfl rfl ?_
  refine n_aload_n (q := 109) C 1 dX5_init_108 rfl rfl ?_
  refine n_get (q := 112) (v := .ref (h + 4)) C (ci := 5) (f := 9) rfl (by decide) uX5 (by decide) w_123 rfl (by simp [m_fs, r9, va_rf]) dX5_init_109 G147.1 rfl ?_
  refine n_alen 18 8 (q := 113) C dX5_init_112 G149.1 (by decide) rfl rfl ?_
  rw [G149.2]
  show m_N x y46 2 65 348 113 _ (.int 6 :: _)
  refine n_icmp_ge (t := 135) (q := 116) C dX5_init_113 (by decide) rfl (fun _ => ?_) (fun h9 => absurd (show (6 : Int32) ≤ 6 by decide) h9)
  have ey : y46 = m_rn y0 (ops_X5 a0 h) := by rw [ey46, ey45, ey44, ey43, ey42, ey41, ey40, ey39, ey38, ey37, ey36, ey35, ey34, ey33, ey32, ey31, ey30, ey29, ey28, ey27, ey26, ey25, ey24, ey23, ey22, ey21, ey20, ey19, ey18, ey17, ey16, ey15, ey14, ey13, ey12, ey11, ey10, ey9, ey8, ey7, ey6, ey5, ey4, ey3, ey2, ey1]; simp only [ops_X5, m_rn, List.foldl_append, List.foldl_cons, List.foldl_nil]
  exact n_vret C F (by rw [ey]) (by rw [ey]) (fun n hn => by cases hn; exact sy46) dX5_init_135

def ops_X6 (a0 h : Nat) : List m_O := [o_n 4 0] ++ (ops_X4 h (h + 1) ++ ([o_R a0 0 (some h), o_I a0 1 0, o_I a0 2 0, o_n 18 6, o_R a0 3 (some (h + 1)), o_n 16 6, o_R a0 4 (some (h + 2)), o_n 7 0] ++ (ops_X7 (h + 3) (h + 4) ++ ([o_R (h + 1) 0 (some (h + 3)), o_n 2 0] ++ (ops_X2 (h + 11) (h + 12) ++ ([o_R (h + 2) 0 (some (h + 11)), o_n 7 0] ++ (ops_X7 (h + 13) (h + 14) ++ ([o_R (h + 1) 1 (some (h + 13)), o_n 2 0] ++ (ops_X2 (h + 21) (h + 22) ++ ([o_R (h + 2) 1 (some (h + 21)), o_n 7 0] ++ (ops_X7 (h + 23) (h + 24) ++ ([o_R (h + 1) 2 (some (h + 23)), o_n 2 0] ++ (ops_X2 (h + 31) (h + 32) ++ ([o_R (h + 2) 2 (some (h + 31)), o_n 7 0] ++ (ops_X7 (h + 33) (h + 34) ++ ([o_R (h + 1) 3 (some (h + 33)), o_n 2 0] ++ (ops_X2 (h + 41) (h + 42) ++ ([o_R (h + 2) 3 (some (h + 41)), o_n 7 0] ++ (ops_X7 (h + 43) (h + 44) ++ ([o_R (h + 1) 4 (some (h + 43)), o_n 2 0] ++ (ops_X2 (h + 51) (h + 52) ++ ([o_R (h + 2) 4 (some (h + 51)), o_n 7 0] ++ (ops_X7 (h + 53) (h + 54) ++ ([o_R (h + 1) 5 (some (h + 53)), o_n 2 0] ++ (ops_X2 (h + 61) (h + 62) ++ ([o_R (h + 2) 5 (some (h + 61))]))))))))))))))))))))))))))
theorem ct_X6 {a0 h : Nat} : m_ct (ops_X6 a0 h) = 63 := by simp only [ops_X6, m_ct_app, m_ct, ct_X2, ct_X4, ct_X7]
theorem tg_X6 {a0 h a : Nat} {o : m_O} (ho : o ∈ ops_X6 a0 h) (h1 : a ≠ a0) (h2 : a < h) : m_tg o ≠ some a := by
  simp only [ops_X6, List.mem_append] at ho
  rcases ho with ho | ho | ho | ho | ho | ho | ho | ho | ho | ho | ho | ho | ho | ho | ho | ho | ho | ho | ho | ho | ho | ho | ho | ho | ho | ho | ho
  · simp only [List.mem_cons, List.not_mem_nil, or_false] at ho
    subst ho; simp [m_tg] <;> omega
  · exact tg_X4 ho (by omega) (by omega)
  · simp only [List.mem_cons, List.not_mem_nil, or_false] at ho
    rcases ho with rfl | rfl | rfl | rfl | rfl | rfl | rfl | rfl <;> simp [m_tg] <;> omega
  · exact tg_X7 ho (by omega) (by omega)
  · simp only [List.mem_cons, List.not_mem_nil, or_false] at ho
    rcases ho with rfl | rfl <;> simp [m_tg] <;> omega
  · exact tg_X2 ho (by omega) (by omega)
  · simp only [List.mem_cons, List.not_mem_nil, or_false] at ho
    rcases ho with rfl | rfl <;> simp [m_tg] <;> omega
  · exact tg_X7 ho (by omega) (by omega)
  · simp only [List.mem_cons, List.not_mem_nil, or_false] at ho
    rcases ho with rfl | rfl <;> simp [m_tg] <;> omega
  · exact tg_X2 ho (by omega) (by omega)
  · simp only [List.mem_cons, List.not_mem_nil, or_false] at ho
    rcases ho with rfl | rfl <;> simp [m_tg] <;> omega
  · exact tg_X7 ho (by omega) (by omega)
  · simp only [List.mem_cons, List.not_mem_nil, or_false] at ho
    rcases ho with rfl | rfl <;> simp [m_tg] <;> omega
  · exact tg_X2 ho (by omega) (by omega)
  · simp only [List.mem_cons, List.not_mem_nil, or_false] at ho
    rcases ho with rfl | rfl <;> simp [m_tg] <;> omega
  · exact tg_X7 ho (by omega) (by omega)
  · simp only [List.mem_cons, List.not_mem_nil, or_false] at ho
    rcases ho with rfl | rfl <;> simp [m_tg] <;> omega
  · exact tg_X2 ho (by omega) (by omega)
  · simp only [List.mem_cons, List.not_mem_nil, or_false] at ho
    rcases ho with rfl | rfl <;> simp [m_tg] <;> omega
  · exact tg_X7 ho (by omega) (by omega)
  · simp only [List.mem_cons, List.not_mem_nil, or_false] at ho
    rcases ho with rfl | rfl <;> simp [m_tg] <;> omega
  · exact tg_X2 ho (by omega) (by omega)
  · simp only [List.mem_cons, List.not_mem_nil, or_false] at ho
    rcases ho with rfl | rfl <;> simp [m_tg] <;> omega
  · exact tg_X7 ho (by omega) (by omega)
  · simp only [List.mem_cons, List.not_mem_nil, or_false] at ho
    rcases ho with rfl | rfl <;> simp [m_tg] <;> omega
  · exact tg_X2 ho (by omega) (by omega)
  · simp only [List.mem_cons, List.not_mem_nil, or_false] at ho
    subst ho; simp [m_tg] <;> omega
abbrev rm_X6_init : Room := { frames := 3, cells := 63, slots := 435, locals := 61 }
theorem hd_X6_init : yX6_init.cls ≠ "java/lang/invoke/MethodHandle" ∧ yX6_init.cls ≠ "java/lang/invoke/VarHandle" ∧ (parseMethodDescriptor yX6_init.desc).map (fun d => d.parameters.length) = some 0 := by decide +kernel
theorem f_n6 (S : m_S) (a : Nat) : ∀ j, j < 5 → defaultValue (tyX6 j) = vp_V (m_fs 6 (m_zr S a) a) j := by
  intro j hj
  iterate 5 (rcases j with _ | j; · simp [tyX6, m_fs, m_zr, vp_V, va_rf, defaultValue])
  omega
set_option maxHeartbeats 4000000 in
set_option maxRecDepth 100000 in
theorem c_X6_init {l : Launch} (hl : l.stackTraces = false) {y0 : m_Y} {a0 h : Nat} (g0 : m_okn y0.1 a0 6 0) (h0 : a0 < h) (s0 : y0.2.2 = h) : m_CI l yX6_init (.code yX6_init cX6_init 2 none :: m_ws) rm_X6_init 63 435 [.ref a0] y0 (m_rn y0 (ops_X6 a0 h)).1 (m_rn y0 (ops_X6 a0 h)).2.1 (some (h + 63)) := by
  refine m_entI hl (by decide) (Nat.le_of_ble_eq_true rfl) (fun x C F hini => ?_)
  have C : m_H x l RX6 cX6_init 2 rm_X6_init := C
  show m_N x y0 2 0 0 0 [(0, .ref a0)] []
  refine n_aload_n (q := 1) C 0 dX6_init_0 rfl rfl ?_
  refine n_obj (q := 4) C w_141 (by decide) (by decide) dX6_init_1 rfl ?_
  refine n_aload_n (q := 5) C 0 dX6_init_4 rfl rfl ?_
  obtain ⟨y1, ey1⟩ : ∃ q, q = m_do y0 (o_n 4 0) := ⟨_, rfl⟩
  refine n_new (q := 8) C tyX4 (ci := 4) rfl (by decide) uX4 tyX4_ok w_142 w_143 w_9 f_n4 ⟨Nat.le_of_ble_eq_true rfl, Nat.le_of_ble_eq_true rfl⟩ ey1 s0 dX6_init_5 rfl ?_
  have G0 : m_okn y1.1 a0 6 0 := by rw [ey1]; exact (m_do_ok _ g0 (by rw [s0]; exact h0)).1
  have G1 : m_okn y1.1 (h) 4 0 := by rw [ey1, ← s0]; exact m_do_new _ _ _
  have sy1 : y1.2.2 = h + 1 := by rw [ey1]; show y0.2.2 + 1 = _; rw [s0]
  refine n_dup (q := 9) C dX6_init_8 rfl rfl ?_
  obtain ⟨y2, ey2⟩ : ∃ q, q = m_rn y1 (ops_X4 h (h + 1)) := ⟨_, rfl⟩
  refine n_callN (q := 12) C (c_X4_init hl G1 (Nat.lt_add_of_pos_right (Nat.succ_pos 0)) sy1) (List.mem_of_getElem? (i := 3) rfl) w_144 w_9 w_145 rfl hd_X4_init rfl rfl (by decide) (Nat.le_of_ble_eq_true rfl) ⟨Nat.le_of_ble_eq_true rfl, Nat.le_of_ble_eq_true rfl⟩ dX6_init_9 rfl (fun h9 => by cases h9) (fun z hz => ?_)
  cases hz
  have sy2 : y2.2.2 = h + 1 := by rw [ey2, m_rn_sz, sy1, ct_X4]
  rw [show ((m_rn y1 (ops_X4 h (h + 1))).1, (m_rn y1 (ops_X4 h (h + 1))).2.1, (h + 1) + 0) = y2 from by rw [← ey2]; show (y2.1, y2.2.1, _) = (y2.1, y2.2.1, y2.2.2); rw [sy2]]
  have G2 : m_okn y2.1 a0 6 0 := by rw [ey2]; exact m_rn_ok _ G0 (by rw [sy1]; exact (Nat.lt_of_lt_of_le h0 (Nat.le_add_right h 1)))
  have G3 : m_okn y2.1 h 4 0 := by rw [ey2]; exact m_rn_ok _ G1 (by rw [sy1]; exact (Nat.lt_add_of_pos_right (Nat.succ_pos 0)))
  show m_N x y2 2 1 3 12 _ _
  obtain ⟨y3, ey3⟩ : ∃ q, q = m_do y2 (o_R a0 0 (some h)) := ⟨_, rfl⟩
  refine n_putF (q := 15) (y' := y3) C tyX6 (ci := 6) (f := 0) rfl (by decide) uX6 tyX6_ok nmX6 (by decide) w_178 rfl rfl hini rfl (tyX6_ok 0 (by decide)) rfl rfl (Nat.le_of_ble_eq_true rfl) (by rw [ey3]; simp [m_fs, m_do, m_pR, va_rf]) (fun cy b hb => by rw [ey3]; exact m_cR b hb) dX6_init_12 G2.1 (by rw [ey3]; rfl) (by rw [ey3]; rfl) rfl ?_
  have G4 : m_okn y3.1 a0 6 0 := by rw [ey3]; exact G2
  have G5 : m_okn y3.1 h 4 0 := by rw [ey3]; exact G3
  have sy3 : y3.2.2 = h + 1 := by rw [ey3]; exact sy2
  refine n_aload_n (q := 16) C 0 dX6_init_15 rfl rfl ?_
  refine n_iconst (q := 17) (v := 0) C dX6_init_16 (by decide) rfl ?_
  obtain ⟨y4, ey4⟩ : ∃ q, q = m_do y3 (o_I a0 1 0) := ⟨_, rfl⟩
  refine n_put (q := 20) (y' := y4) C tyX6 (ci := 6) (f := 1) rfl (by decide) uX6 tyX6_ok nmX6 (by decide) w_179 rfl rfl (tyX6_ok 1 (by decide)) rfl rfl (Nat.le_of_ble_eq_true rfl) (by rw [ey4]; simp [m_fs, m_do, m_pI, va_rf]) (fun cy b hb => by rw [ey4]; exact m_cI b hb) dX6_init_17 G4.1 (by rw [ey4]; rfl) (by rw [ey4]; rfl) rfl ?_
  have G6 : m_okn y4.1 a0 6 0 := by rw [ey4]; exact G4
  have sy4 : y4.2.2 = h + 1 := by rw [ey4]; exact sy3
  refine n_aload_n (q := 21) C 0 dX6_init_20 rfl rfl ?_
  refine n_iconst (q := 22) (v := 0) C dX6_init_21 (by decide) rfl ?_
  obtain ⟨y5, ey5⟩ : ∃ q, q = m_do y4 (o_I a0 2 0) := ⟨_, rfl⟩
  refine n_put (q := 25) (y' := y5) C tyX6 (ci := 6) (f := 2) rfl (by decide) uX6 tyX6_ok nmX6 (by decide) w_180 rfl rfl (tyX6_ok 2 (by decide)) rfl rfl (Nat.le_of_ble_eq_true rfl) (by rw [ey5]; simp [m_fs, m_do, m_pI, va_rf]) (fun cy b hb => by rw [ey5]; exact m_cI b hb) dX6_init_22 G6.1 (by rw [ey5]; rfl) (by rw [ey5]; rfl) rfl ?_
  have G7 : m_okn y5.1 a0 6 0 := by rw [ey5]; exact G6
  have sy5 : y5.2.2 = h + 1 := by rw [ey5]; exact sy4
  refine n_aload_n (q := 26) C 0 dX6_init_25 rfl rfl ?_
  refine n_bipush (q := 28) (v := 6) C dX6_init_26 (by decide) rfl ?_
  obtain ⟨y6, ey6⟩ : ∃ q, q = m_do y5 (o_n 18 6) := ⟨_, rfl⟩
  refine n_nq18 (q := 31) C w_153 (by decide) rfl (Nat.le_of_ble_eq_true rfl) ⟨Nat.le_of_ble_eq_true rfl, Nat.le_of_ble_eq_true rfl⟩ ey6 sy5 dX6_init_28 rfl ?_
  have G8 : m_okn y6.1 a0 6 0 := by rw [ey6]; exact (m_do_ok _ G7 (by rw [sy5]; exact (Nat.lt_of_lt_of_le h0 (Nat.le_add_right h 1)))).1
  have G9 : m_okn y6.1 (h + 1) 18 6 := by rw [ey6, ← sy5]; exact m_do_new _ _ _
  have sy6 : y6.2.2 = h + 2 := by rw [ey6]; show y5.2.2 + 1 = _; rw [sy5]
  obtain ⟨y7, ey7⟩ : ∃ q, q = m_do y6 (o_R a0 3 (some (h + 1))) := ⟨_, rfl⟩
  refine n_putF (q := 34) (y' := y7) C tyX6 (ci := 6) (f := 3) rfl (by decide) uX6 tyX6_ok nmX6 (by decide) w_181 rfl rfl hini rfl (tyX6_ok 3 (by decide)) rfl rfl (Nat.le_of_ble_eq_true rfl) (by rw [ey7]; simp [m_fs, m_do, m_pR, va_rf]) (fun cy b hb => by rw [ey7]; exact m_cR b hb) dX6_init_31 G8.1 (by rw [ey7]; rfl) (by rw [ey7]; rfl) rfl ?_
  have G10 : m_okn y7.1 a0 6 0 := by rw [ey7]; exact G8
  have G11 : m_okn y7.1 (h + 1) 18 6 := by rw [ey7]; exact G9
  have sy7 : y7.2.2 = h + 2 := by rw [ey7]; exact sy6
  have r3 : y7.2.1.2.2 a0 3 = some (h + 1) := by rw [ey7]; simp [m_do, m_pR]
  refine n_aload_n (q := 35) C 0 dX6_init_34 rfl rfl ?_
  refine n_bipush (q := 37) (v := 6) C dX6_init_35 (by decide) rfl ?_
  obtain ⟨y8, ey8⟩ : ∃ q, q = m_do y7 (o_n 16 6) := ⟨_, rfl⟩
  refine n_nq16 (q := 40) C w_154 (by decide) rfl (Nat.le_of_ble_eq_true rfl) ⟨Nat.le_of_ble_eq_true rfl, Nat.le_of_ble_eq_true rfl⟩ ey8 sy7 dX6_init_37 rfl ?_
  have G12 : m_okn y8.1 a0 6 0 := by rw [ey8]; exact (m_do_ok _ G10 (by rw [sy7]; exact (Nat.lt_of_lt_of_le h0 (Nat.le_add_right h 2)))).1
  have G13 : m_okn y8.1 (h + 1) 18 6 := by rw [ey8]; exact (m_do_ok _ G11 (by rw [sy7]; exact (Nat.add_lt_add_left (Nat.le_of_ble_eq_true rfl : 1 < 2) h))).1
  have G14 : m_okn y8.1 (h + 2) 16 6 := by rw [ey8, ← sy7]; exact m_do_new _ _ _
  have r3 : y8.2.1.2.2 a0 3 = some (h + 1) := by rw [ey8]; exact (m_rn_R [o_n 16 6] (by rw [sy7]; exact (Nat.lt_of_lt_of_le h0 (Nat.le_add_right h 2))) (by simp [m_tg])).trans r3
  have sy8 : y8.2.2 = h + 3 := by rw [ey8]; show y7.2.2 + 1 = _; rw [sy7]
  obtain ⟨y9, ey9⟩ : ∃ q, q = m_do y8 (o_R a0 4 (some (h + 2))) := ⟨_, rfl⟩
  refine n_putF (q := 43) (y' := y9) C tyX6 (ci := 6) (f := 4) rfl (by decide) uX6 tyX6_ok nmX6 (by decide) w_182 rfl rfl hini rfl (tyX6_ok 4 (by decide)) rfl rfl (Nat.le_of_ble_eq_true rfl) (by rw [ey9]; simp [m_fs, m_do, m_pR, va_rf]) (fun cy b hb => by rw [ey9]; exact m_cR b hb) dX6_init_40 G12.1 (by rw [ey9]; rfl) (by rw [ey9]; rfl) rfl ?_
  have G15 : m_okn y9.1 a0 6 0 := by rw [ey9]; exact G12
  have G16 : m_okn y9.1 (h + 1) 18 6 := by rw [ey9]; exact G13
  have G17 : m_okn y9.1 (h + 2) 16 6 := by rw [ey9]; exact G14
  have sy9 : y9.2.2 = h + 3 := by rw [ey9]; exact sy8
  have r3 : y9.2.1.2.2 a0 3 = some (h + 1) := by rw [ey9]; simpa [m_do, m_pI, m_pJ, m_pR] using r3
  have r4 : y9.2.1.2.2 a0 4 = some (h + 2) := by rw [ey9]; simp [m_do, m_pR]
  refine n_iconst (q := 44) (v := 0) C dX6_init_43 (by decide) rfl ?_
  refine n_istore_n (q := 45) C dX6_init_44 rfl (L' := [(1, .int 0), (0, .ref a0)]) rfl (by decide) rfl ?_
  refine n_iload_n (q := 46) C 0 dX6_init_45 rfl rfl ?_
  refine n_bipush (q := 48) (v := 6) C dX6_init_46 (by decide) rfl ?_
  refine n_icmp_ge (t := 83) (q := 51) C dX6_init_48 (by decide) rfl (fun h9 => absurd h9 (by decide)) (fun _ => ?_)
  refine n_aload_n (q := 52) C 1 dX6_init_51 rfl rfl ?_
  refine n_get (q := 55) (v := .ref (h + 1)) C (ci := 6) (f := 3) rfl (by decide) uX6 (by decide) w_181 rfl (by simp [m_fs, r3, va_rf]) dX6_init_52 G15.1 rfl ?_
  refine n_iload_n (q := 56) C 0 dX6_init_55 rfl rfl ?_
  obtain ⟨y10, ey10⟩ : ∃ q, q = m_do y9 (o_n 7 0) := ⟨_, rfl⟩
  refine n_new (q := 59) C tyX7 (ci := 7) rfl (by decide) uX7 tyX7_ok w_153 w_82 w_6 f_n7 ⟨Nat.le_of_ble_eq_true rfl, Nat.le_of_ble_eq_true rfl⟩ ey10 sy9 dX6_init_56 rfl ?_
  have G18 : m_okn y10.1 a0 6 0 := by rw [ey10]; exact (m_do_ok _ G15 (by rw [sy9]; exact (Nat.lt_of_lt_of_le h0 (Nat.le_add_right h 3)))).1
  have G19 : m_okn y10.1 (h + 1) 18 6 := by rw [ey10]; exact (m_do_ok _ G16 (by rw [sy9]; exact (Nat.add_lt_add_left (Nat.le_of_ble_eq_true rfl : 1 < 3) h))).1
  have G20 : m_okn y10.1 (h + 2) 16 6 := by rw [ey10]; exact (m_do_ok _ G17 (by rw [sy9]; exact (Nat.add_lt_add_left (Nat.le_of_ble_eq_true rfl : 2 < 3) h))).1
  have G21 : m_okn y10.1 (h + 3) 7 0 := by rw [ey10, ← sy9]; exact m_do_new _ _ _
  have r3 : y10.2.1.2.2 a0 3 = some (h + 1) := by rw [ey10]; exact (m_rn_R [o_n 7 0] (by rw [sy9]; exact (Nat.lt_of_lt_of_le h0 (Nat.le_add_right h 3))) (by simp [m_tg])).trans r3
  have r4 : y10.2.1.2.2 a0 4 = some (h + 2) := by rw [ey10]; exact (m_rn_R [o_n 7 0] (by rw [sy9]; exact (Nat.lt_of_lt_of_le h0 (Nat.le_add_right h 3))) (by simp [m_tg])).trans r4
  have sy10 : y10.2.2 = h + 4 := by rw [ey10]; show y9.2.2 + 1 = _; rw [sy9]
  refine n_dup (q := 60) C dX6_init_59 rfl rfl ?_
  obtain ⟨y11, ey11⟩ : ∃ q, q = m_rn y10 (ops_X7 (h + 3) (h + 4)) := ⟨_, rfl⟩
  refine n_callI (q := 63) C (c_X7_init hl G21 (Nat.add_lt_add_left (Nat.le_of_ble_eq_true rfl : 3 < 4) h) sy10) w_155 w_84 w_6 w_85 rfl hd_X7_init rfl rfl (by decide) (Nat.le_of_ble_eq_true rfl) ⟨Nat.le_of_ble_eq_true rfl, Nat.le_of_ble_eq_true rfl⟩ dX6_init_60 rfl (fun h9 => by cases h9) (fun z hz => ?_)
  cases hz
  have sy11 : y11.2.2 = h + 11 := by rw [ey11, m_rn_sz, sy10, ct_X7]
  rw [show ((m_rn y10 (ops_X7 (h + 3) (h + 4))).1, (m_rn y10 (ops_X7 (h + 3) (h + 4))).2.1, (h + 4) + 7) = y11 from by rw [← ey11]; show (y11.1, y11.2.1, _) = (y11.1, y11.2.1, y11.2.2); rw [sy11]]
  have G22 : m_okn y11.1 a0 6 0 := by rw [ey11]; exact m_rn_ok _ G18 (by rw [sy10]; exact (Nat.lt_of_lt_of_le h0 (Nat.le_add_right h 4)))
  have G23 : m_okn y11.1 (h + 1) 18 6 := by rw [ey11]; exact m_rn_ok _ G19 (by rw [sy10]; exact (Nat.add_lt_add_left (Nat.le_of_ble_eq_true rfl : 1 < 4) h))
  have G24 : m_okn y11.1 (h + 2) 16 6 := by rw [ey11]; exact m_rn_ok _ G20 (by rw [sy10]; exact (Nat.add_lt_add_left (Nat.le_of_ble_eq_true rfl : 2 < 4) h))
  have G25 : m_okn y11.1 (h + 3) 7 0 := by rw [ey11]; exact m_rn_ok _ G21 (by rw [sy10]; exact (Nat.add_lt_add_left (Nat.le_of_ble_eq_true rfl : 3 < 4) h))
  have r3 : y11.2.1.2.2 a0 3 = some (h + 1) := by rw [ey11]; exact (m_rn_R _ (by rw [sy10]; exact (Nat.lt_of_lt_of_le h0 (Nat.le_add_right h 4))) (fun o ho => tg_X7 ho (Nat.ne_of_lt (Nat.lt_of_lt_of_le h0 (Nat.le_add_right h 3))) (Nat.lt_of_lt_of_le h0 (Nat.le_add_right h 4)))).trans r3
  have r4 : y11.2.1.2.2 a0 4 = some (h + 2) := by rw [ey11]; exact (m_rn_R _ (by rw [sy10]; exact (Nat.lt_of_lt_of_le h0 (Nat.le_add_right h 4))) (fun o ho => tg_X7 ho (Nat.ne_of_lt (Nat.lt_of_lt_of_le h0 (Nat.le_add_right h 3))) (Nat.lt_of_lt_of_le h0 (Nat.le_add_right h 4)))).trans r4
  show m_N x y11 2 11 52 63 _ _
  obtain ⟨y12, ey12⟩ : ∃ q, q = m_do y11 (o_R (h + 1) 0 (some (h + 3))) := ⟨_, rfl⟩
  refine n_aast18 (q := 64) C ⟨G23.1, by rw [G23.2]; decide⟩ G25.1 rfl ey12 dX6_init_63 rfl ?_
  have G26 : m_okn y12.1 a0 6 0 := by rw [ey12]; exact G22
  have G27 : m_okn y12.1 (h + 1) 18 6 := by rw [ey12]; exact G23
  have G28 : m_okn y12.1 (h + 2) 16 6 := by rw [ey12]; exact G24
  have G29 : m_okn y12.1 (h + 3) 7 0 := by rw [ey12]; exact G25
  have sy12 : y12.2.2 = h + 11 := by rw [ey12]; exact sy11
  have r3 : y12.2.1.2.2 a0 3 = some (h + 1) := by rw [ey12]; exact (m_rn_R [o_R (h + 1) 0 (some (h + 3))] (by rw [sy11]; exact (Nat.lt_of_lt_of_le h0 (Nat.le_add_right h 11))) (fun o ho h9 => by rw [List.mem_singleton.mp ho] at h9; exact (Nat.ne_of_lt (Nat.lt_of_lt_of_le h0 (Nat.le_add_right h 1))) (Option.some.inj h9).symm)).trans r3
  have r4 : y12.2.1.2.2 a0 4 = some (h + 2) := by rw [ey12]; exact (m_rn_R [o_R (h + 1) 0 (some (h + 3))] (by rw [sy11]; exact (Nat.lt_of_lt_of_le h0 (Nat.le_add_right h 11))) (fun o ho h9 => by rw [List.mem_singleton.mp ho] at h9; exact (Nat.ne_of_lt (Nat.lt_of_lt_of_le h0 (Nat.le_add_right h 1))) (Option.some.inj h9).symm)).trans r4
  refine n_aload_n (q := 65) C 1 dX6_init_64 rfl rfl ?_
  refine n_get (q := 68) (v := .ref (h + 2)) C (ci := 6) (f := 4) rfl (by decide) uX6 (by decide) w_182 rfl (by simp [m_fs, r4, va_rf]) dX6_init_65 G26.1 rfl ?_
  refine n_iload_n (q := 69) C 0 dX6_init_68 rfl rfl ?_
  obtain ⟨y13, ey13⟩ : ∃ q, q = m_do y12 (o_n 2 0) := ⟨_, rfl⟩
  refine n_new (q := 72) C tyX2 (ci := 2) rfl (by decide) uX2 tyX2_ok w_154 w_156 w_10 f_n2 ⟨Nat.le_of_ble_eq_true rfl, Nat.le_of_ble_eq_true rfl⟩ ey13 sy12 dX6_init_69 rfl ?_
  have G30 : m_okn y13.1 a0 6 0 := by rw [ey13]; exact (m_do_ok _ G26 (by rw [sy12]; exact (Nat.lt_of_lt_of_le h0 (Nat.le_add_right h 11)))).1
  have G31 : m_okn y13.1 (h + 1) 18 6 := by rw [ey13]; exact (m_do_ok _ G27 (by rw [sy12]; exact (Nat.add_lt_add_left (Nat.le_of_ble_eq_true rfl : 1 < 11) h))).1
  have G32 : m_okn y13.1 (h + 2) 16 6 := by rw [ey13]; exact (m_do_ok _ G28 (by rw [sy12]; exact (Nat.add_lt_add_left (Nat.le_of_ble_eq_true rfl : 2 < 11) h))).1
  have G33 : m_okn y13.1 (h + 11) 2 0 := by rw [ey13, ← sy12]; exact m_do_new _ _ _
  have r3 : y13.2.1.2.2 a0 3 = some (h + 1) := by rw [ey13]; exact (m_rn_R [o_n 2 0] (by rw [sy12]; exact (Nat.lt_of_lt_of_le h0 (Nat.le_add_right h 11))) (by simp [m_tg])).trans r3
  have r4 : y13.2.1.2.2 a0 4 = some (h + 2) := by rw [ey13]; exact (m_rn_R [o_n 2 0] (by rw [sy12]; exact (Nat.lt_of_lt_of_le h0 (Nat.le_add_right h 11))) (by simp [m_tg])).trans r4
  have sy13 : y13.2.2 = h + 12 := by rw [ey13]; show y12.2.2 + 1 = _; rw [sy12]
  refine n_dup (q := 73) C dX6_init_72 rfl rfl ?_
  obtain ⟨y14, ey14⟩ : ∃ q, q = m_rn y13 (ops_X2 (h + 11) (h + 12)) := ⟨_, rfl⟩
  refine n_callN (q := 76) C (c_X2_init hl G33 (Nat.add_lt_add_left (Nat.le_of_ble_eq_true rfl : 11 < 12) h) sy13) (List.mem_of_getElem? (i := 4) rfl) w_157 w_10 w_158 rfl hd_X2_init rfl rfl (by decide) (Nat.le_of_ble_eq_true rfl) ⟨Nat.le_of_ble_eq_true rfl, Nat.le_of_ble_eq_true rfl⟩ dX6_init_73 rfl (fun h9 => by cases h9) (fun z hz => ?_)
  cases hz
  have sy14 : y14.2.2 = h + 13 := by rw [ey14, m_rn_sz, sy13, ct_X2]
  rw [show ((m_rn y13 (ops_X2 (h + 11) (h + 12))).1, (m_rn y13 (ops_X2 (h + 11) (h + 12))).2.1, (h + 12) + 1) = y14 from by rw [← ey14]; show (y14.1, y14.2.1, _) = (y14.1, y14.2.1, y14.2.2); rw [sy14]]
  have G34 : m_okn y14.1 a0 6 0 := by rw [ey14]; exact m_rn_ok _ G30 (by rw [sy13]; exact (Nat.lt_of_lt_of_le h0 (Nat.le_add_right h 12)))
  have G35 : m_okn y14.1 (h + 1) 18 6 := by rw [ey14]; exact m_rn_ok _ G31 (by rw [sy13]; exact (Nat.add_lt_add_left (Nat.le_of_ble_eq_true rfl : 1 < 12) h))
  have G36 : m_okn y14.1 (h + 2) 16 6 := by rw [ey14]; exact m_rn_ok _ G32 (by rw [sy13]; exact (Nat.add_lt_add_left (Nat.le_of_ble_eq_true rfl : 2 < 12) h))
  have G37 : m_okn y14.1 (h + 11) 2 0 := by rw [ey14]; exact m_rn_ok _ G33 (by rw [sy13]; exact (Nat.add_lt_add_left (Nat.le_of_ble_eq_true rfl : 11 < 12) h))
  have r3 : y14.2.1.2.2 a0 3 = some (h + 1) := by rw [ey14]; exact (m_rn_R _ (by rw [sy13]; exact (Nat.lt_of_lt_of_le h0 (Nat.le_add_right h 12))) (fun o ho => tg_X2 ho (Nat.ne_of_lt (Nat.lt_of_lt_of_le h0 (Nat.le_add_right h 11))) (Nat.lt_of_lt_of_le h0 (Nat.le_add_right h 12)))).trans r3
  have r4 : y14.2.1.2.2 a0 4 = some (h + 2) := by rw [ey14]; exact (m_rn_R _ (by rw [sy13]; exact (Nat.lt_of_lt_of_le h0 (Nat.le_add_right h 12))) (fun o ho => tg_X2 ho (Nat.ne_of_lt (Nat.lt_of_lt_of_le h0 (Nat.le_add_right h 11))) (Nat.lt_of_lt_of_le h0 (Nat.le_add_right h 12)))).trans r4
  show m_N x y14 2 13 85 76 _ _
  obtain ⟨y15, ey15⟩ : ∃ q, q = m_do y14 (o_R (h + 2) 0 (some (h + 11))) := ⟨_, rfl⟩
  refine n_aast16 (q := 77) C ⟨G36.1, by rw [G36.2]; decide⟩ G37.1 rfl ey15 dX6_init_76 rfl ?_
  have G38 : m_okn y15.1 a0 6 0 := by rw [ey15]; exact G34
  have G39 : m_okn y15.1 (h + 1) 18 6 := by rw [ey15]; exact G35
  have G40 : m_okn y15.1 (h + 2) 16 6 := by rw [ey15]; exact G36
  have G41 : m_okn y15.1 (h + 11) 2 0 := by rw [ey15]; exact G37
  have sy15 : y15.2.2 = h + 13 := by rw [ey15]; exact sy14
  have r3 : y15.2.1.2.2 a0 3 = some (h + 1) := by rw [ey15]; exact (m_rn_R [o_R (h + 2) 0 (some (h + 11))] (by rw [sy14]; exact (Nat.lt_of_lt_of_le h0 (Nat.le_add_right h 13))) (fun o ho h9 => by rw [List.mem_singleton.mp ho] at h9; exact (Nat.ne_of_lt (Nat.lt_of_lt_of_le h0 (Nat.le_add_right h 2))) (Option.some.inj h9).symm)).trans r3
  have r4 : y15.2.1.2.2 a0 4 = some (h + 2) := by rw [ey15]; exact (m_rn_R [o_R (h + 2) 0 (some (h + 11))] (by rw [sy14]; exact (Nat.lt_of_lt_of_le h0 (Nat.le_add_right h 13))) (fun o ho h9 => by rw [List.mem_singleton.mp ho] at h9; exact (Nat.ne_of_lt (Nat.lt_of_lt_of_le h0 (Nat.le_add_right h 2))) (Option.some.inj h9).symm)).trans r4
  refine n_iinc (q := 80) C 0 dX6_init_77 rfl (v := 1) (by decide) (L' := [(1, .int 1), (0, .ref a0)]) rfl (by decide) rfl ?_
  refine n_goto (t := 45) C dX6_init_80 (by decide) ?_
  refine n_iload_n (q := 46) C 0 dX6_init_45 rfl rfl ?_
  refine n_bipush (q := 48) (v := 6) C dX6_init_46 (by decide) rfl ?_
  refine n_icmp_ge (t := 83) (q := 51) C dX6_init_48 (by decide) rfl (fun h9 => absurd h9 (by decide)) (fun _ => ?_)
  refine n_aload_n (q := 52) C 1 dX6_init_51 rfl rfl ?_
  refine n_get (q := 55) (v := .ref (h + 1)) C (ci := 6) (f := 3) rfl (by decide) uX6 (by decide) w_181 rfl (by simp [m_fs, r3, va_rf]) dX6_init_52 G38.1 rfl ?_
  refine n_iload_n (q := 56) C 0 dX6_init_55 rfl rfl ?_
  obtain ⟨y16, ey16⟩ : ∃ q, q = m_do y15 (o_n 7 0) := ⟨_, rfl⟩
  refine n_new (q := 59) C tyX7 (ci := 7) rfl (by decide) uX7 tyX7_ok w_153 w_82 w_6 f_n7 ⟨Nat.le_of_ble_eq_true rfl, Nat.le_of_ble_eq_true rfl⟩ ey16 sy15 dX6_init_56 rfl ?_
  have G42 : m_okn y16.1 a0 6 0 := by rw [ey16]; exact (m_do_ok _ G38 (by rw [sy15]; exact (Nat.lt_of_lt_of_le h0 (Nat.le_add_right h 13)))).1
  have G43 : m_okn y16.1 (h + 1) 18 6 := by rw [ey16]; exact (m_do_ok _ G39 (by rw [sy15]; exact (Nat.add_lt_add_left (Nat.le_of_ble_eq_true rfl : 1 < 13) h))).1
  have G44 : m_okn y16.1 (h + 2) 16 6 := by rw [ey16]; exact (m_do_ok _ G40 (by rw [sy15]; exact (Nat.add_lt_add_left (Nat.le_of_ble_eq_true rfl : 2 < 13) h))).1
  have G45 : m_okn y16.1 (h + 13) 7 0 := by rw [ey16, ← sy15]; exact m_do_new _ _ _
  have r3 : y16.2.1.2.2 a0 3 = some (h + 1) := by rw [ey16]; exact (m_rn_R [o_n 7 0] (by rw [sy15]; exact (Nat.lt_of_lt_of_le h0 (Nat.le_add_right h 13))) (by simp [m_tg])).trans r3
  have r4 : y16.2.1.2.2 a0 4 = some (h + 2) := by rw [ey16]; exact (m_rn_R [o_n 7 0] (by rw [sy15]; exact (Nat.lt_of_lt_of_le h0 (Nat.le_add_right h 13))) (by simp [m_tg])).trans r4
  have sy16 : y16.2.2 = h + 14 := by rw [ey16]; show y15.2.2 + 1 = _; rw [sy15]
  refine n_dup (q := 60) C dX6_init_59 rfl rfl ?_
  obtain ⟨y17, ey17⟩ : ∃ q, q = m_rn y16 (ops_X7 (h + 13) (h + 14)) := ⟨_, rfl⟩
  refine n_callI (q := 63) C (c_X7_init hl G45 (Nat.add_lt_add_left (Nat.le_of_ble_eq_true rfl : 13 < 14) h) sy16) w_155 w_84 w_6 w_85 rfl hd_X7_init rfl rfl (by decide) (Nat.le_of_ble_eq_true rfl) ⟨Nat.le_of_ble_eq_true rfl, Nat.le_of_ble_eq_true rfl⟩ dX6_init_60 rfl (fun h9 => by cases h9) (fun z hz => ?_)
  cases hz
  have sy17 : y17.2.2 = h + 21 := by rw [ey17, m_rn_sz, sy16, ct_X7]
  rw [show ((m_rn y16 (ops_X7 (h + 13) (h + 14))).1, (m_rn y16 (ops_X7 (h + 13) (h + 14))).2.1, (h + 14) + 7) = y17 from by rw [← ey17]; show (y17.1, y17.2.1, _) = (y17.1, y17.2.1, y17.2.2); rw [sy17]]
  have G46 : m_okn y17.1 a0 6 0 := by rw [ey17]; exact m_rn_ok _ G42 (by rw [sy16]; exact (Nat.lt_of_lt_of_le h0 (Nat.le_add_right h 14)))
  have G47 : m_okn y17.1 (h + 1) 18 6 := by rw [ey17]; exact m_rn_ok _ G43 (by rw [sy16]; exact (Nat.add_lt_add_left (Nat.le_of_ble_eq_true rfl : 1 < 14) h))
  have G48 : m_okn y17.1 (h + 2) 16 6 := by rw [ey17]; exact m_rn_ok _ G44 (by rw [sy16]; exact (Nat.add_lt_add_left (Nat.le_of_ble_eq_true rfl : 2 < 14) h))
  have G49 : m_okn y17.1 (h + 13) 7 0 := by rw [ey17]; exact m_rn_ok _ G45 (by rw [sy16]; exact (Nat.add_lt_add_left (Nat.le_of_ble_eq_true rfl : 13 < 14) h))
  have r3 : y17.2.1.2.2 a0 3 = some (h + 1) := by rw [ey17]; exact (m_rn_R _ (by rw [sy16]; exact (Nat.lt_of_lt_of_le h0 (Nat.le_add_right h 14))) (fun o ho => tg_X7 ho (Nat.ne_of_lt (Nat.lt_of_lt_of_le h0 (Nat.le_add_right h 13))) (Nat.lt_of_lt_of_le h0 (Nat.le_add_right h 14)))).trans r3
  have r4 : y17.2.1.2.2 a0 4 = some (h + 2) := by rw [ey17]; exact (m_rn_R _ (by rw [sy16]; exact (Nat.lt_of_lt_of_le h0 (Nat.le_add_right h 14))) (fun o ho => tg_X7 ho (Nat.ne_of_lt (Nat.lt_of_lt_of_le h0 (Nat.le_add_right h 13))) (Nat.lt_of_lt_of_le h0 (Nat.le_add_right h 14)))).trans r4
  show m_N x y17 2 21 122 63 _ _
  obtain ⟨y18, ey18⟩ : ∃ q, q = m_do y17 (o_R (h + 1) 1 (some (h + 13))) := ⟨_, rfl⟩
  refine n_aast18 (q := 64) C ⟨G47.1, by rw [G47.2]; decide⟩ G49.1 rfl ey18 dX6_init_63 rfl ?_
  have G50 : m_okn y18.1 a0 6 0 := by rw [ey18]; exact G46
  have G51 : m_okn y18.1 (h + 1) 18 6 := by rw [ey18]; exact G47
  have G52 : m_okn y18.1 (h + 2) 16 6 := by rw [ey18]; exact G48
  have G53 : m_okn y18.1 (h + 13) 7 0 := by rw [ey18]; exact G49
  have sy18 : y18.2.2 = h + 21 := by rw [ey18]; exact sy17
  have r3 : y18.2.1.2.2 a0 3 = some (h + 1) := by rw [ey18]; exact (m_rn_R [o_R (h + 1) 1 (some (h + 13))] (by rw [sy17]; exact (Nat.lt_of_lt_of_le h0 (Nat.le_add_right h 21))) (fun o ho h9 => by rw [List.mem_singleton.mp ho] at h9; exact (Nat.ne_of_lt (Nat.lt_of_lt_of_le h0 (Nat.le_add_right h 1))) (Option.some.inj h9).symm)).trans r3
  have r4 : y18.2.1.2.2 a0 4 = some (h + 2) := by rw [ey18]; exact (m_rn_R [o_R (h + 1) 1 (some (h + 13))] (by rw [sy17]; exact (Nat.lt_of_lt_of_le h0 (Nat.le_add_right h 21))) (fun o ho h9 => by rw [List.mem_singleton.mp ho] at h9; exact (Nat.ne_of_lt (Nat.lt_of_lt_of_le h0 (Nat.le_add_right h 1))) (Option.some.inj h9).symm)).trans r4
  refine n_aload_n (q := 65) C 1 dX6_init_64 rfl rfl ?_
  refine n_get (q := 68) (v := .ref (h + 2)) C (ci := 6) (f := 4) rfl (by decide) uX6 (by decide) w_182 rfl (by simp [m_fs, r4, va_rf]) dX6_init_65 G50.1 rfl ?_
  refine n_iload_n (q := 69) C 0 dX6_init_68 rfl rfl ?_
  obtain ⟨y19, ey19⟩ : ∃ q, q = m_do y18 (o_n 2 0) := ⟨_, rfl⟩
  refine n_new (q := 72) C tyX2 (ci := 2) rfl (by decide) uX2 tyX2_ok w_154 w_156 w_10 f_n2 ⟨Nat.le_of_ble_eq_true rfl, Nat.le_of_ble_eq_true rfl⟩ ey19 sy18 dX6_init_69 rfl ?_
  have G54 : m_okn y19.1 a0 6 0 := by rw [ey19]; exact (m_do_ok _ G50 (by rw [sy18]; exact (Nat.lt_of_lt_of_le h0 (Nat.le_add_right h 21)))).1
  have G55 : m_okn y19.1 (h + 1) 18 6 := by rw [ey19]; exact (m_do_ok _ G51 (by rw [sy18]; exact (Nat.add_lt_add_left (Nat.le_of_ble_eq_true rfl : 1 < 21) h))).1
  have G56 : m_okn y19.1 (h + 2) 16 6 := by rw [ey19]; exact (m_do_ok _ G52 (by rw [sy18]; exact (Nat.add_lt_add_left (Nat.le_of_ble_eq_true rfl : 2 < 21) h))).1
  have G57 : m_okn y19.1 (h + 21) 2 0 := by rw [ey19, ← sy18]; exact m_do_new _ _ _
  have r3 : y19.2.1.2.2 a0 3 = some (h + 1) := by rw [ey19]; exact (m_rn_R [o_n 2 0] (by rw [sy18]; exact (Nat.lt_of_lt_of_le h0 (Nat.le_add_right h 21))) (by simp [m_tg])).trans r3
  have r4 : y19.2.1.2.2 a0 4 = some (h + 2) := by rw [ey19]; exact (m_rn_R [o_n 2 0] (by rw [sy18]; exact (Nat.lt_of_lt_of_le h0 (Nat.le_add_right h 21))) (by simp [m_tg])).trans r4
  have sy19 : y19.2.2 = h + 22 := by rw [ey19]; show y18.2.2 + 1 = _; rw [sy18]
  refine n_dup (q := 73) C dX6_init_72 rfl rfl ?_
  obtain ⟨y20, ey20⟩ : ∃ q, q = m_rn y19 (ops_X2 (h + 21) (h + 22)) := ⟨_, rfl⟩
  refine n_callN (q := 76) C (c_X2_init hl G57 (Nat.add_lt_add_left (Nat.le_of_ble_eq_true rfl : 21 < 22) h) sy19) (List.mem_of_getElem? (i := 4) rfl) w_157 w_10 w_158 rfl hd_X2_init rfl rfl (by decide) (Nat.le_of_ble_eq_true rfl) ⟨Nat.le_of_ble_eq_true rfl, Nat.le_of_ble_eq_true rfl⟩ dX6_init_73 rfl (fun h9 => by cases h9) (fun z hz => ?_)
  cases hz
  have sy20 : y20.2.2 = h + 23 := by rw [ey20, m_rn_sz, sy19, ct_X2]
  rw [show ((m_rn y19 (ops_X2 (h + 21) (h + 22))).1, (m_rn y19 (ops_X2 (h + 21) (h + 22))).2.1, (h + 22) + 1) = y20 from by rw [← ey20]; show (y20.1, y20.2.1, _) = (y20.1, y20.2.1, y20.2.2); rw [sy20]]
  have G58 : m_okn y20.1 a0 6 0 := by rw [ey20]; exact m_rn_ok _ G54 (by rw [sy19]; exact (Nat.lt_of_lt_of_le h0 (Nat.le_add_right h 22)))
  have G59 : m_okn y20.1 (h + 1) 18 6 := by rw [ey20]; exact m_rn_ok _ G55 (by rw [sy19]; exact (Nat.add_lt_add_left (Nat.le_of_ble_eq_true rfl : 1 < 22) h))
  have G60 : m_okn y20.1 (h + 2) 16 6 := by rw [ey20]; exact m_rn_ok _ G56 (by rw [sy19]; exact (Nat.add_lt_add_left (Nat.le_of_ble_eq_true rfl : 2 < 22) h))
  have G61 : m_okn y20.1 (h + 21) 2 0 := by rw [ey20]; exact m_rn_ok _ G57 (by rw [sy19]; exact (Nat.add_lt_add_left (Nat.le_of_ble_eq_true rfl : 21 < 22) h))
  have r3 : y20.2.1.2.2 a0 3 = some (h + 1) := by rw [ey20]; exact (m_rn_R _ (by rw [sy19]; exact (Nat.lt_of_lt_of_le h0 (Nat.le_add_right h 22))) (fun o ho => tg_X2 ho (Nat.ne_of_lt (Nat.lt_of_lt_of_le h0 (Nat.le_add_right h 21))) (Nat.lt_of_lt_of_le h0 (Nat.le_add_right h 22)))).trans r3
  have r4 : y20.2.1.2.2 a0 4 = some (h + 2) := by rw [ey20]; exact (m_rn_R _ (by rw [sy19]; exact (Nat.lt_of_lt_of_le h0 (Nat.le_add_right h 22))) (fun o ho => tg_X2 ho (Nat.ne_of_lt (Nat.lt_of_lt_of_le h0 (Nat.le_add_right h 21))) (Nat.lt_of_lt_of_le h0 (Nat.le_add_right h 22)))).trans r4
  show m_N x y20 2 23 155 76 _ _
  obtain ⟨y21, ey21⟩ : ∃ q, q = m_do y20 (o_R (h + 2) 1 (some (h + 21))) := ⟨_, rfl⟩
  refine n_aast16 (q := 77) C ⟨G60.1, by rw [G60.2]; decide⟩ G61.1 rfl ey21 dX6_init_76 rfl ?_
  have G62 : m_okn y21.1 a0 6 0 := by rw [ey21]; exact G58
  have G63 : m_okn y21.1 (h + 1) 18 6 := by rw [ey21]; exact G59
  have G64 : m_okn y21.1 (h + 2) 16 6 := by rw [ey21]; exact G60
  have G65 : m_okn y21.1 (h + 21) 2 0 := by rw [ey21]; exact G61
  have sy21 : y21.2.2 = h + 23 := by rw [ey21]; exact sy20
  have r3 : y21.2.1.2.2 a0 3 = some (h + 1) := by rw [ey21]; exact (m_rn_R [o_R (h + 2) 1 (some (h + 21))] (by rw [sy20]; exact (Nat.lt_of_lt_of_le h0 (Nat.le_add_right h 23))) (fun o ho h9 => by rw [List.mem_singleton.mp ho] at h9; exact (Nat.ne_of_lt (Nat.lt_of_lt_of_le h0 (Nat.le_add_right h 2))) (Option.some.inj h9).symm)).trans r3
  have r4 : y21.2.1.2.2 a0 4 = some (h + 2) := by rw [ey21]; exact (m_rn_R [o_R (h + 2) 1 (some (h + 21))] (by rw [sy20]; exact (Nat.lt_of_lt_of_le h0 (Nat.le_add_right h 23))) (fun o ho h9 => by rw [List.mem_singleton.mp ho] at h9; exact (Nat.ne_of_lt (Nat.lt_of_lt_of_le h0 (Nat.le_add_right h 2))) (Option.some.inj h9).symm)).trans r4
  refine n_iinc (q := 80) C 0 dX6_init_77 rfl (v := 2) (by decide) (L' := [(1, .int 2), (0, .ref a0)]) rfl (by decide) rfl ?_
  refine n_goto (t := 45) C dX6_init_80 (by decide) ?_
  refine n_iload_n (q := 46) C 0 dX6_init_45 rfl rfl ?_
  refine n_bipush (q := 48) (v := 6) C dX6_init_46 (by decide) rfl ?_
  refine n_icmp_ge (t := 83) (q := 51) C dX6_init_48 (by decide) rfl (fun h9 => absurd h9 (by decide)) (fun _ => ?_)
  refine n_aload_n (q := 52) C 1 dX6_init_51 rfl rfl ?_
  refine n_get (q := 55) (v := .ref (h + 1)) C (ci := 6) (f := 3) rfl (by decide) uX6 (by decide) w_181 rfl (by simp [m_fs, r3, va_rf]) dX6_init_52 G62.1 rfl ?_
  refine n_iload_n (q := 56) C 0 dX6_init_55 rfl rfl ?_
  obtain ⟨y22, ey22⟩ : ∃ q, q = m_do y21 (o_n 7 0) := ⟨_, rfl⟩
  refine n_new (q := 59) C tyX7 (ci := 7) rfl (by decide) uX7 tyX7_ok w_153 w_82 w_6 f_n7 ⟨Nat.le_of_ble_eq_true rfl, Nat.le_of_ble_eq_true rfl⟩ ey22 sy21 dX6_init_56 rfl ?_
  have G66 : m_okn y22.1 a0 6 0 := by rw [ey22]; exact (m_do_ok _ G62 (by rw [sy21]; exact (Nat.lt_of_lt_of_le h0 (Nat.le_add_right h 23)))).1
  have G67 : m_okn y22.1 (h + 1) 18 6 := by rw [ey22]; exact (m_do_ok _ G63 (by rw [sy21]; exact (Nat.add_lt_add_left (Nat.le_of_ble_eq_true rfl : 1 < 23) h))).1
  have G68 : m_okn y22.1 (h + 2) 16 6 := by rw [ey22]; exact (m_do_ok _ G64 (by rw [sy21]; exact (Nat.add_lt_add_left (Nat.le_of_ble_eq_true rfl : 2 < 23) h))).1
  have G69 : m_okn y22.1 (h + 23) 7 0 := by rw [ey22, ← sy21]; exact m_do_new _ _ _
  have r3 : y22.2.1.2.2 a0 3 = some (h + 1) := by rw [ey22]; exact (m_rn_R [o_n 7 0] (by rw [sy21]; exact (Nat.lt_of_lt_of_le h0 (Nat.le_add_right h 23))) (by simp [m_tg])).trans r3
  have r4 : y22.2.1.2.2 a0 4 = some (h + 2) := by rw [ey22]; exact (m_rn_R [o_n 7 0] (by rw [sy21]; exact (Nat.lt_of_lt_of_le h0 (Nat.le_add_right h 23))) (by simp [m_tg])).trans r4
  have sy22 : y22.2.2 = h + 24 := by rw [ey22]; show y21.2.2 + 1 = _; rw [sy21]
  refine n_dup (q := 60) C dX6_init_59 rfl rfl ?_
  obtain ⟨y23, ey23⟩ : ∃ q, q = m_rn y22 (ops_X7 (h + 23) (h + 24)) := ⟨_, rfl⟩
  refine n_callI (q := 63) C (c_X7_init hl G69 (Nat.add_lt_add_left (Nat.le_of_ble_eq_true rfl : 23 < 24) h) sy22) w_155 w_84 w_6 w_85 rfl hd_X7_init rfl rfl (by decide) (Nat.le_of_ble_eq_true rfl) ⟨Nat.le_of_ble_eq_true rfl, Nat.le_of_ble_eq_true rfl⟩ dX6_init_60 rfl (fun h9 => by cases h9) (fun z hz => ?_)
  cases hz
  have sy23 : y23.2.2 = h + 31 := by rw [ey23, m_rn_sz, sy22, ct_X7]
  rw [show ((m_rn y22 (ops_X7 (h + 23) (h + 24))).1, (m_rn y22 (ops_X7 (h + 23) (h + 24))).2.1, (h + 24) + 7) = y23 from by rw [← ey23]; show (y23.1, y23.2.1, _) = (y23.1, y23.2.1, y23.2.2); rw [sy23]]
  have G70 : m_okn y23.1 a0 6 0 := by rw [ey23]; exact m_rn_ok _ G66 (by rw [sy22]; exact (Nat.lt_of_lt_of_le h0 (Nat.le_add_right h 24)))
  have G71 : m_okn y23.1 (h + 1) 18 6 := by rw [ey23]; exact m_rn_ok _ G67 (by rw [sy22]; exact (Nat.add_lt_add_left (Nat.le_of_ble_eq_true rfl : 1 < 24) h))
  have G72 : m_okn y23.1 (h + 2) 16 6 := by rw [ey23]; exact m_rn_ok _ G68 (by rw [sy22]; exact (Nat.add_lt_add_left (Nat.le_of_ble_eq_true rfl : 2 < 24) h))
  have G73 : m_okn y23.1 (h + 23) 7 0 := by rw [ey23]; exact m_rn_ok _ G69 (by rw [sy22]; exact (Nat.add_lt_add_left (Nat.le_of_ble_eq_true rfl : 23 < 24) h))
  have r3 : y23.2.1.2.2 a0 3 = some (h + 1) := by rw [ey23]; exact (m_rn_R _ (by rw [sy22]; exact (Nat.lt_of_lt_of_le h0 (Nat.le_add_right h 24))) (fun o ho => tg_X7 ho (Nat.ne_of_lt (Nat.lt_of_lt_of_le h0 (Nat.le_add_right h 23))) (Nat.lt_of_lt_of_le h0 (Nat.le_add_right h 24)))).trans r3
  have r4 : y23.2.1.2.2 a0 4 = some (h + 2) := by rw [ey23]; exact (m_rn_R _ (by rw [sy22]; exact (Nat.lt_of_lt_of_le h0 (Nat.le_add_right h 24))) (fun o ho => tg_X7 ho (Nat.ne_of_lt (Nat.lt_of_lt_of_le h0 (Nat.le_add_right h 23))) (Nat.lt_of_lt_of_le h0 (Nat.le_add_right h 24)))).trans r4
  show m_N x y23 2 31 192 63 _ _
  obtain ⟨y24, ey24⟩ : ∃ q, q = m_do y23 (o_R (h + 1) 2 (some (h + 23))) := ⟨_, rfl⟩
  refine n_aast18 (q := 64) C ⟨G71.1, by rw [G71.2]; decide⟩ G73.1 rfl ey24 dX6_init_63 rfl ?_
  have G74 : m_okn y24.1 a0 6 0 := by rw [ey24]; exact G70
  have G75 : m_okn y24.1 (h + 1) 18 6 := by rw [ey24]; exact G71
  have G76 : m_okn y24.1 (h + 2) 16 6 := by rw [ey24]; exact G72
  have G77 : m_okn y24.1 (h + 23) 7 0 := by rw [ey24]; exact G73
  have sy24 : y24.2.2 = h + 31 := by rw [ey24]; exact sy23
  have r3 : y24.2.1.2.2 a0 3 = some (h + 1) := by rw [ey24]; exact (m_rn_R [o_R (h + 1) 2 (some (h + 23))] (by rw [sy23]; exact (Nat.lt_of_lt_of_le h0 (Nat.le_add_right h 31))) (fun o ho h9 => by rw [List.mem_singleton.mp ho] at h9; exact (Nat.ne_of_lt (Nat.lt_of_lt_of_le h0 (Nat.le_add_right h 1))) (Option.some.inj h9).symm)).trans r3
  have r4 : y24.2.1.2.2 a0 4 = some (h + 2) := by rw [ey24]; exact (m_rn_R [o_R (h + 1) 2 (some (h + 23))] (by rw [sy23]; exact (Nat.lt_of_lt_of_le h0 (Nat.le_add_right h 31))) (fun o ho h9 => by rw [List.mem_singleton.mp ho] at h9; exact (Nat.ne_of_lt (Nat.lt_of_lt_of_le h0 (Nat.le_add_right h 1))) (Option.some.inj h9).symm)).trans r4
  refine n_aload_n (q := 65) C 1 dX6_init_64 rfl rfl ?_
  refine n_get (q := 68) (v := .ref (h + 2)) C (ci := 6) (f := 4) rfl (by decide) uX6 (by decide) w_182 rfl (by simp [m_fs, r4, va_rf]) dX6_init_65 G74.1 rfl ?_
  refine n_iload_n (q := 69) C 0 dX6_init_68 rfl rfl ?_
  obtain ⟨y25, ey25⟩ : ∃ q, q = m_do y24 (o_n 2 0) := ⟨_, rfl⟩
  refine n_new (q := 72) C tyX2 (ci := 2) rfl (by decide) uX2 tyX2_ok w_154 w_156 w_10 f_n2 ⟨Nat.le_of_ble_eq_true rfl, Nat.le_of_ble_eq_true rfl⟩ ey25 sy24 dX6_init_69 rfl ?_
  have G78 : m_okn y25.1 a0 6 0 := by rw [ey25]; exact (m_do_ok _ G74 (by rw [sy24]; exact (Nat.lt_of_lt_of_le h0 (Nat.le_add_right h 31)))).1
  have G79 : m_okn y25.1 (h + 1) 18 6 := by rw [ey25]; exact (m_do_ok _ G75 (by rw [sy24]; exact (Nat.add_lt_add_left (Nat.le_of_ble_eq_true rfl : 1 < 31) h))).1
  have G80 : m_okn y25.1 (h + 2) 16 6 := by rw [ey25]; exact (m_do_ok _ G76 (by rw [sy24]; exact (Nat.add_lt_add_left (Nat.le_of_ble_eq_true rfl : 2 < 31) h))).1
  have G81 : m_okn y25.1 (h + 31) 2 0 := by rw [ey25, ← sy24]; exact m_do_new _ _ _
  have r3 : y25.2.1.2.2 a0 3 = some (h + 1) := by rw [ey25]; exact (m_rn_R [o_n 2 0] (by rw [sy24]; exact (Nat.lt_of_lt_of_le h0 (Nat.le_add_right h 31))) (by simp [m_tg])).trans r3
  have r4 : y25.2.1.2.2 a0 4 = some (h + 2) := by rw [ey25]; exact (m_rn_R [o_n 2 0] (by rw [sy24]; exact (Nat.lt_of_lt_of_le h0 (Nat.le_add_right h 31))) (by simp [m_tg])).trans r4
  have sy25 : y25.2.2 = h + 32 := by rw [ey25]; show y24.2.2 + 1 = _; rw [sy24]
  refine n_dup (q := 73) C dX6_init_72 rfl rfl ?_
  obtain ⟨y26, ey26⟩ : ∃ q, q = m_rn y25 (ops_X2 (h + 31) (h + 32)) := ⟨_, rfl⟩
  refine n_callN (q := 76) C (c_X2_init hl G81 (Nat.add_lt_add_left (Nat.le_of_ble_eq_true rfl : 31 < 32) h) sy25) (List.mem_of_getElem? (i := 4) rfl) w_157 w_10 w_158 rfl hd_X2_init rfl rfl (by decide) (Nat.le_of_ble_eq_true rfl) ⟨Nat.le_of_ble_eq_true rfl, Nat.le_of_ble_eq_true rfl⟩ dX6_init_73 rfl (fun h9 => by cases h9) (fun z hz => ?_)
  cases hz
  have sy26 : y26.2.2 = h + 33 := by rw [ey26, m_rn_sz, sy25, ct_X2]
  rw [show ((m_rn y25 (ops_X2 (h + 31) (h + 32))).1, (m_rn y25 (ops_X2 (h + 31) (h + 32))).2.1, (h + 32) + 1) = y26 from by rw [← ey26]; show (y26.1, y26.2.1, _) = (y26.1, y26.2.1, y26.2.2); rw [sy26]]
  have G82 : m_okn y26.1 a0 6 0 := by rw [ey26]; exact m_rn_ok _ G78 (by rw [sy25]; exact (Nat.lt_of_lt_of_le h0 (Nat.le_add_right h 32)))
  have G83 : m_okn y26.1 (h + 1) 18 6 := by rw [ey26]; exact m_rn_ok _ G79 (by rw [sy25]; exact (Nat.add_lt_add_left (Nat.le_of_ble_eq_true rfl : 1 < 32) h))
  have G84 : m_okn y26.1 (h + 2) 16 6 := by rw [ey26]; exact m_rn_ok _ G80 (by rw [sy25]; exact (Nat.add_lt_add_left (Nat.le_of_ble_eq_true rfl : 2 < 32) h))
  have G85 : m_okn y26.1 (h + 31) 2 0 := by rw [ey26]; exact m_rn_ok _ G81 (by rw [sy25]; exact (Nat.add_lt_add_left (Nat.le_of_ble_eq_true rfl : 31 < 32) h))
  have r3 : y26.2.1.2.2 a0 3 = some (h + 1) := by rw [ey26]; exact (m_rn_R _ (by rw [sy25]; exact (Nat.lt_of_lt_of_le h0 (Nat.le_add_right h 32))) (fun o ho => tg_X2 ho (Nat.ne_of_lt (Nat.lt_of_lt_of_le h0 (Nat.le_add_right h 31))) (Nat.lt_of_lt_of_le h0 (Nat.le_add_right h 32)))).trans r3
  have r4 : y26.2.1.2.2 a0 4 = some (h + 2) := by rw [ey26]; exact (m_rn_R _ (by rw [sy25]; exact (Nat.lt_of_lt_of_le h0 (Nat.le_add_right h 32))) (fun o ho => tg_X2 ho (Nat.ne_of_lt (Nat.lt_of_lt_of_le h0 (Nat.le_add_right h 31))) (Nat.lt_of_lt_of_le h0 (Nat.le_add_right h 32)))).trans r4
  show m_N x y26 2 33 225 76 _ _
  obtain ⟨y27, ey27⟩ : ∃ q, q = m_do y26 (o_R (h + 2) 2 (some (h + 31))) := ⟨_, rfl⟩
  refine n_aast16 (q := 77) C ⟨G84.1, by rw [G84.2]; decide⟩ G85.1 rfl ey27 dX6_init_76 rfl ?_
  have G86 : m_okn y27.1 a0 6 0 := by rw [ey27]; exact G82
  have G87 : m_okn y27.1 (h + 1) 18 6 := by rw [ey27]; exact G83
  have G88 : m_okn y27.1 (h + 2) 16 6 := by rw [ey27]; exact G84
  have G89 : m_okn y27.1 (h + 31) 2 0 := by rw [ey27]; exact G85
  have sy27 : y27.2.2 = h + 33 := by rw [ey27]; exact sy26
  have r3 : y27.2.1.2.2 a0 3 = some (h + 1) := by rw [ey27]; exact (m_rn_R [o_R (h + 2) 2 (some (h + 31))] (by rw [sy26]; exact (Nat.lt_of_lt_of_le h0 (Nat.le_add_right h 33))) (fun o ho h9 => by rw [List.mem_singleton.mp ho] at h9; exact (Nat.ne_of_lt (Nat.lt_of_lt_of_le h0 (Nat.le_add_right h 2))) (Option.some.inj h9).symm)).trans r3
  have r4 : y27.2.1.2.2 a0 4 = some (h + 2) := by rw [ey27]; exact (m_rn_R [o_R (h + 2) 2 (some (h + 31))] (by rw [sy26]; exact (Nat.lt_of_lt_of_le h0 (Nat.le_add_right h 33))) (fun o ho h9 => by rw [List.mem_singleton.mp ho] at h9; exact (Nat.ne_of_lt (Nat.lt_of_lt_of_le h0 (Nat.le_add_right h 2))) (Option.some.inj h9).symm)).trans r4
  refine n_iinc (q := 80) C 0 dX6_init_77 rfl (v := 3) (by decide) (L' := [(1, .int 3), (0, .ref a0)]) rfl (by decide) rfl ?_
  refine n_goto (t := 45) C dX6_init_80 (by decide) ?_
  refine n_iload_n (q := 46) C 0 dX6_init_45 rfl rfl ?_
  refine n_bipush (q := 48) (v := 6) C dX6_init_46 (by decide) rfl ?_
  refine n_icmp_ge (t := 83) (q := 51) C dX6_init_48 (by decide) rfl (fun h9 => absurd h9 (by decide)) (fun _ => ?_)
  refine n_aload_n (q := 52) C 1 dX6_init_51 rfl rfl ?_
  refine n_get (q := 55) (v := .ref (h + 1)) C (ci := 6) (f := 3) rfl (by decide) uX6 (by decide) w_181 rfl (by simp [m_fs, r3, va_rf]) dX6_init_52 G86.1 rfl ?_
  refine n_iload_n (q := 56) C 0 dX6_init_55 rfl rfl ?_
  obtain ⟨y28, ey28⟩ : ∃ q, q = m_do y27 (o_n 7 0) := ⟨_, rfl⟩
  refine n_new (q := 59) C tyX7 (ci := 7) rfl (by decide) uX7 tyX7_ok w_153 w_82 w_6 f_n7 ⟨Nat.le_of_ble_eq_true rfl, Nat.le_of_ble_eq_true rfl⟩ ey28 sy27 dX6_init_56 rfl ?_
  have G90 : m_okn y28.1 a0 6 0 := by rw [ey28]; exact (m_do_ok _ G86 (by rw [sy27]; exact (Nat.lt_of_lt_of_le h0 (Nat.le_add_right h 33)))).1
  have G91 : m_okn y28.1 (h + 1) 18 6 := by rw [ey28]; exact (m_do_ok _ G87 (by rw [sy27]; exact (Nat.add_lt_add_left (Nat.le_of_ble_eq_true rfl : 1 < 33) h))).1
  have G92 : m_okn y28.1 (h + 2) 16 6 := by rw [ey28]; exact (m_do_ok _ G88 (by rw [sy27]; exact (Nat.add_lt_add_left (Nat.le_of_ble_eq_true rfl : 2 < 33) h))).1
  have G93 : m_okn y28.1 (h + 33) 7 0 := by rw [ey28, ← sy27]; exact m_do_new _ _ _
  have r3 : y28.2.1.2.2 a0 3 = some (h + 1) := by rw [ey28]; exact (m_rn_R [o_n 7 0] (by rw [sy27]; exact (Nat.lt_of_lt_of_le h0 (Nat.le_add_right h 33))) (by simp [m_tg])).trans r3
  have r4 : y28.2.1.2.2 a0 4 = some (h + 2) := by rw [ey28]; exact (m_rn_R [o_n 7 0] (by rw [sy27]; exact (Nat.lt_of_lt_of_le h0 (Nat.le_add_right h 33))) (by simp [m_tg])).trans r4
  have sy28 : y28.2.2 = h + 34 := by rw [ey28]; show y27.2.2 + 1 = _; rw [sy27]
  refine n_dup (q := 60) C dX6_init_59 rfl rfl ?_
  obtain ⟨y29, ey29⟩ : ∃ q, q = m_rn y28 (ops_X7 (h + 33) (h + 34)) := ⟨_, rfl⟩
  refine n_callI (q := 63) C (c_X7_init hl G93 (Nat.add_lt_add_left (Nat.le_of_ble_eq_true rfl : 33 < 34) h) sy28) w_155 w_84 w_6 w_85 rfl hd_X7_init rfl rfl (by decide) (Nat.le_of_ble_eq_true rfl) ⟨Nat.le_of_ble_eq_true rfl, Nat.le_of_ble_eq_true rfl⟩ dX6_init_60 rfl (fun h9 => by cases h9) (fun z hz => ?_)
  cases hz
  have sy29 : y29.2.2 = h + 41 := by rw [ey29, m_rn_sz, sy28, ct_X7]
  rw [show ((m_rn y28 (ops_X7 (h + 33) (h + 34))).1, (m_rn y28 (ops_X7 (h + 33) (h + 34))).2.1, (h + 34) + 7) = y29 from by rw [← ey29]; show (y29.1, y29.2.1, _) = (y29.1, y29.2.1, y29.2.2); rw [sy29]]
  have G94 : m_okn y29.1 a0 6 0 := by rw [ey29]; exact m_rn_ok _ G90 (by rw [sy28]; exact (Nat.lt_of_lt_of_le h0 (Nat.le_add_right h 34)))
  have G95 : m_okn y29.1 (h + 1) 18 6 := by rw [ey29]; exact m_rn_ok _ G91 (by rw [sy28]; exact (Nat.add_lt_add_left (Nat.le_of_ble_eq_true rfl : 1 < 34) h))
  have G96 : m_okn y29.1 (h + 2) 16 6 := by rw [ey29]; exact m_rn_ok _ G92 (by rw [sy28]; exact (Nat.add_lt_add_left (Nat.le_of_ble_eq_true rfl : 2 < 34) h))
  have G97 : m_okn y29.1 (h + 33) 7 0 := by rw [ey29]; exact m_rn_ok _ G93 (by rw [sy28]; exact (Nat.add_lt_add_left (Nat.le_of_ble_eq_true rfl : 33 < 34) h))
  have r3 : y29.2.1.2.2 a0 3 = some (h + 1) := by rw [ey29]; exact (m_rn_R _ (by rw [sy28]; exact (Nat.lt_of_lt_of_le h0 (Nat.le_add_right h 34))) (fun o ho => tg_X7 ho (Nat.ne_of_lt (Nat.lt_of_lt_of_le h0 (Nat.le_add_right h 33))) (Nat.lt_of_lt_of_le h0 (Nat.le_add_right h 34)))).trans r3
  have r4 : y29.2.1.2.2 a0 4 = some (h + 2) := by rw [ey29]; exact (m_rn_R _ (by rw [sy28]; exact (Nat.lt_of_lt_of_le h0 (Nat.le_add_right h 34))) (fun o ho => tg_X7 ho (Nat.ne_of_lt (Nat.lt_of_lt_of_le h0 (Nat.le_add_right h 33))) (Nat.lt_of_lt_of_le h0 (Nat.le_add_right h 34)))).trans r4
  show m_N x y29 2 41 262 63 _ _
  obtain ⟨y30, ey30⟩ : ∃ q, q = m_do y29 (o_R (h + 1) 3 (some (h + 33))) := ⟨_, rfl⟩
  refine n_aast18 (q := 64) C ⟨G95.1, by rw [G95.2]; decide⟩ G97.1 rfl ey30 dX6_init_63 rfl ?_
  have G98 : m_okn y30.1 a0 6 0 := by rw [ey30]; exact G94
  have G99 : m_okn y30.1 (h + 1) 18 6 := by rw [ey30]; exact G95
  have G100 : m_okn y30.1 (h + 2) 16 6 := by rw [ey30]; exact G96
  have G101 : m_okn y30.1 (h + 33) 7 0 := by rw [ey30]; exact G97
  have sy30 : y30.2.2 = h + 41 := by rw [ey30]; exact sy29
  have r3 : y30.2.1.2.2 a0 3 = some (h + 1) := by rw [ey30]; exact (m_rn_R [o_R (h + 1) 3 (some (h + 33))] (by rw [sy29]; exact (Nat.lt_of_lt_of_le h0 (Nat.le_add_right h 41))) (fun o ho h9 => by rw [List.mem_singleton.mp ho] at h9; exact (Nat.ne_of_lt (Nat.lt_of_lt_of_le h0 (Nat.le_add_right h 1))) (Option.some.inj h9).symm)).trans r3
  have r4 : y30.2.1.2.2 a0 4 = some (h + 2) := by rw [ey30]; exact (m_rn_R [o_R (h + 1) 3 (some (h + 33))] (by rw [sy29]; exact (Nat.lt_of_lt_of_le h0 (Nat.le_add_right h 41))) (fun o ho h9 => by rw [List.mem_singleton.mp ho] at h9; exact (Nat.ne_of_lt (Nat.lt_of_lt_of_le h0 (Nat.le_add_right h 1))) (Option.some.inj h9).symm)).trans r4
  refine n_aload_n (q := 65) C 1 dX6_init_64 rfl rfl ?_
  refine n_get (q := 68) (v := .ref (h + 2)) C (ci := 6) (f := 4) rfl (by decide) uX6 (by decide) w_182 rfl (by simp [m_fs, r4, va_rf]) dX6_init_65 G98.1 rfl ?_
  refine n_iload_n (q := 69) C 0 dX6_init_68 rfl rfl ?_
  obtain ⟨y31, ey31⟩ : ∃ q, q = m_do y30 (o_n 2 0) := ⟨_, rfl⟩
  refine n_new (q := 72) C tyX2 (ci := 2) rfl (by decide) uX2 tyX2_ok w_154 w_156 w_10 f_n2 ⟨Nat.le_of_ble_eq_true rfl, Nat.le_of_ble_eq_true rfl⟩ ey31 sy30 dX6_init_69 rfl ?_
  have G102 : m_okn y31.1 a0 6 0 := by rw [ey31]; exact (m_do_ok _ G98 (by rw [sy30]; exact (Nat.lt_of_lt_of_le h0 (Nat.le_add_right h 41)))).1
  have G103 : m_okn y31.1 (h + 1) 18 6 := by rw [ey31]; exact (m_do_ok _ G99 (by rw [sy30]; exact (Nat.add_lt_add_left (Nat.le_of_ble_eq_true rfl : 1 < 41) h))).1
  have G104 : m_okn y31.1 (h + 2) 16 6 := by rw [ey31]; exact (m_do_ok _ G100 (by rw [sy30]; exact (Nat.add_lt_add_left (Nat.le_of_ble_eq_true rfl : 2 < 41) h))).1
  have G105 : m_okn y31.1 (h + 41) 2 0 := by rw [ey31, ← sy30]; exact m_do_new _ _ _
  have r3 : y31.2.1.2.2 a0 3 = some (h + 1) := by rw [ey31]; exact (m_rn_R [o_n 2 0] (by rw [sy30]; exact (Nat.lt_of_lt_of_le h0 (Nat.le_add_right h 41))) (by simp [m_tg])).trans r3
  have r4 : y31.2.1.2.2 a0 4 = some (h + 2) := by rw [ey31]; exact (m_rn_R [o_n 2 0] (by rw [sy30]; exact (Nat.lt_of_lt_of_le h0 (Nat.le_add_right h 41))) (by simp [m_tg])).trans r4
  have sy31 : y31.2.2 = h + 42 := by rw [ey31]; show y30.2.2 + 1 = _; rw [sy30]
  refine n_dup (q := 73) C dX6_init_72 rfl rfl ?_
  obtain ⟨y32, ey32⟩ : ∃ q, q = m_rn y31 (ops_X2 (h + 41) (h + 42)) := ⟨_, rfl⟩
  refine n_callN (q := 76) C (c_X2_init hl G105 (Nat.add_lt_add_left (Nat.le_of_ble_eq_true rfl : 41 < 42) h) sy31) (List.mem_of_getElem? (i := 4) rfl) w_157 w_10 w_158 rfl hd_X2_init rfl rfl (by decide) (Nat.le_of_ble_eq_true rfl) ⟨Nat.le_of_ble_eq_true rfl, Nat.le_of_ble_eq_true rfl⟩ dX6_init_73 rfl (fun h9 => by cases h9) (fun z hz => ?_)
  cases hz
  have sy32 : y32.2.2 = h + 43 := by rw [ey32, m_rn_sz, sy31, ct_X2]
  rw [show ((m_rn y31 (ops_X2 (h + 41) (h + 42))).1, (m_rn y31 (ops_X2 (h + 41) (h + 42))).2.1, (h + 42) + 1) = y32 from by rw [← ey32]; show (y32.1, y32.2.1, _) = (y32.1, y32.2.1, y32.2.2); rw [sy32]]
  have G106 : m_okn y32.1 a0 6 0 := by rw [ey32]; exact m_rn_ok _ G102 (by rw [sy31]; exact (Nat.lt_of_lt_of_le h0 (Nat.le_add_right h 42)))
  have G107 : m_okn y32.1 (h + 1) 18 6 := by rw [ey32]; exact m_rn_ok _ G103 (by rw [sy31]; exact (Nat.add_lt_add_left (Nat.le_of_ble_eq_true rfl : 1 < 42) h))
  have G108 : m_okn y32.1 (h + 2) 16 6 := by rw [ey32]; exact m_rn_ok _ G104 (by rw [sy31]; exact (Nat.add_lt_add_left (Nat.le_of_ble_eq_true rfl : 2 < 42) h))
  have G109 : m_okn y32.1 (h + 41) 2 0 := by rw [ey32]; exact m_rn_ok _ G105 (by rw [sy31]; exact (Nat.add_lt_add_left (Nat.le_of_ble_eq_true rfl : 41 < 42) h))
  have r3 : y32.2.1.2.2 a0 3 = some (h + 1) := by rw [ey32]; exact (m_rn_R _ (by rw [sy31]; exact (Nat.lt_of_lt_of_le h0 (Nat.le_add_right h 42))) (fun o ho => tg_X2 ho (Nat.ne_of_lt (Nat.lt_of_lt_of_le h0 (Nat.le_add_right h 41))) (Nat.lt_of_lt_of_le h0 (Nat.le_add_right h 42)))).trans r3
  have r4 : y32.2.1.2.2 a0 4 = some (h + 2) := by rw [ey32]; exact (m_rn_R _ (by rw [sy31]; exact (Nat.lt_of_lt_of_le h0 (Nat.le_add_right h 42))) (fun o ho => tg_X2 ho (Nat.ne_of_lt (Nat.lt_of_lt_of_le h0 (Nat.le_add_right h 41))) (Nat.lt_of_lt_of_le h0 (Nat.le_add_right h 42)))).trans r4
  show m_N x y32 2 43 295 76 _ _
  obtain ⟨y33, ey33⟩ : ∃ q, q = m_do y32 (o_R (h + 2) 3 (some (h + 41))) := ⟨_, rfl⟩
  refine n_aast16 (q := 77) C ⟨G108.1, by rw [G108.2]; decide⟩ G109.1 rfl ey33 dX6_init_76 rfl ?_
  have G110 : m_okn y33.1 a0 6 0 := by rw [ey33]; exact G106
  have G111 : m_okn y33.1 (h + 1) 18 6 := by rw [ey33]; exact G107
  have G112 : m_okn y33.1 (h + 2) 16 6 := by rw [ey33]; exact G108
  have G113 : m_okn y33.1 (h + 41) 2 0 := by rw [ey33]; exact G109
  have sy33 : y33.2.2 = h + 43 := by rw [ey33]; exact sy32
  have r3 : y33.2.1.2.2 a0 3 = some (h + 1) := by rw [ey33]; exact (m_rn_R [o_R (h + 2) 3 (some (h + 41))] (by rw [sy32]; exact (Nat.lt_of_lt_of_le h0 (Nat.le_add_right h 43))) (fun o ho h9 => by rw [List.mem_singleton.mp ho] at h9; exact (Nat.ne_of_lt (Nat.lt_of_lt_of_le h0 (Nat.le_add_right h 2))) (Option.some.inj h9).symm)).trans r3
  have r4 : y33.2.1.2.2 a0 4 = some (h + 2) := by rw [ey33]; exact (m_rn_R [o_R (h + 2) 3 (some (h + 41))] (by rw [sy32]; exact (Nat.lt_of_lt_of_le h0 (Nat.le_add_right h 43))) (fun o ho h9 => by rw [List.mem_singleton.mp ho] at h9; exact (Nat.ne_of_lt (Nat.lt_of_lt_of_le h0 (Nat.le_add_right h 2))) (Option.some.inj h9).symm)).trans r4
  refine n_iinc (q := 80) C 0 dX6_init_77 rfl (v := 4) (by decide) (L' := [(1, .int 4), (0, .ref a0)]) rfl (by decide) rfl ?_
  refine n_goto (t := 45) C dX6_init_80 (by decide) ?_
  refine n_iload_n (q := 46) C 0 dX6_init_45 rfl rfl ?_
  refine n_bipush (q := 48) (v := 6) C dX6_init_46 (by decide) rfl ?_
  refine n_icmp_ge (t := 83) (q := 51) C dX6_init_48 (by decide) rfl (fun h9 => absurd h9 (by decide)) (fun _ => ?_)
  refine n_aload_n (q := 52) C 1 dX6_init_51 rfl rfl ?_
  refine n_get (q := 55) (v := .ref (h + 1)) C (ci := 6) (f := 3) rfl (by decide) uX6 (by decide) w_181 rfl (by simp [m_fs, r3, va_rf]) dX6_init_52 G110.1 rfl ?_
  refine n_iload_n (q := 56) C 0 dX6_init_55 rfl rfl ?_
  obtain ⟨y34, ey34⟩ : ∃ q, q = m_do y33 (o_n 7 0) := ⟨_, rfl⟩
  refine n_new (q := 59) C tyX7 (ci := 7) rfl (by decide) uX7 tyX7_ok w_153 w_82 w_6 f_n7 ⟨Nat.le_of_ble_eq_true rfl, Nat.le_of_ble_eq_true rfl⟩ ey34 sy33 dX6_init_56 rfl ?_
  have G114 : m_okn y34.1 a0 6 0 := by rw [ey34]; exact (m_do_ok _ G110 (by rw [sy33]; exact (Nat.lt_of_lt_of_le h0 (Nat.le_add_right h 43)))).1
  have G115 : m_okn y34.1 (h + 1) 18 6 := by rw [ey34]; exact (m_do_ok _ G111 (by rw [sy33]; exact (Nat.add_lt_add_left (Nat.le_of_ble_eq_true rfl : 1 < 43) h))).1
  have G116 : m_okn y34.1 (h + 2) 16 6 := by rw [ey34]; exact (m_do_ok _ G112 (by rw [sy33]; exact (Nat.add_lt_add_left (Nat.le_of_ble_eq_true rfl : 2 < 43) h))).1
  have G117 : m_okn y34.1 (h + 43) 7 0 := by rw [ey34, ← sy33]; exact m_do_new _ _ _
  have r3 : y34.2.1.2.2 a0 3 = some (h + 1) := by rw [ey34]; exact (m_rn_R [o_n 7 0] (by rw [sy33]; exact (Nat.lt_of_lt_of_le h0 (Nat.le_add_right h 43))) (by simp [m_tg])).trans r3
  have r4 : y34.2.1.2.2 a0 4 = some (h + 2) := by rw [ey34]; exact (m_rn_R [o_n 7 0] (by rw [sy33]; exact (Nat.lt_of_lt_of_le h0 (Nat.le_add_right h 43))) (by simp [m_tg])).trans r4
  have sy34 : y34.2.2 = h + 44 := by rw [ey34]; show y33.2.2 + 1 = _; rw [sy33]
  refine n_dup (q := 60) C dX6_init_59 rfl rfl ?_
  obtain ⟨y35, ey35⟩ : ∃ q, q = m_rn y34 (ops_X7 (h + 43) (h + 44)) := ⟨_, rfl⟩
  refine n_callI (q := 63) C (c_X7_init hl G117 (Nat.add_lt_add_left (Nat.le_of_ble_eq_true rfl : 43 < 44) h) sy34) w_155 w_84 w_6 w_85 rfl hd_X7_init rfl rfl (by decide) (Nat.le_of_ble_eq_true rfl) ⟨Nat.le_of_ble_eq_true rfl, Nat.le_of_ble_eq_true rfl⟩ dX6_init_60 rfl (fun h9 => by cases h9) (fun z hz => ?_)
  cases hz
  have sy35 : y35.2.2 = h + 51 := by rw [ey35, m_rn_sz, sy34, ct_X7]
  rw [show ((m_rn y34 (ops_X7 (h + 43) (h + 44))).1, (m_rn y34 (ops_X7 (h + 43) (h + 44))).2.1, (h + 44) + 7) = y35 from by rw [← ey35]; show (y35.1, y35.2.1, _) = (y35.1, y35.2.1, y35.2.2); rw [sy35]]
  have G118 : m_okn y35.1 a0 6 0 := by rw [ey35]; exact m_rn_ok _ G114 (by rw [sy34]; exact (Nat.lt_of_lt_of_le h0 (Nat.le_add_right h 44)))
  have G119 : m_okn y35.1 (h + 1) 18 6 := by rw [ey35]; exact m_rn_ok _ G115 (by rw [sy34]; exact (Nat.add_lt_add_left (Nat.le_of_ble_eq_true rfl : 1 < 44) h))
  have G120 : m_okn y35.1 (h + 2) 16 6 := by rw [ey35]; exact m_rn_ok _ G116 (by rw [sy34]; exact (Nat.add_lt_add_left (Nat.le_of_ble_eq_true rfl : 2 < 44) h))
  have G121 : m_okn y35.1 (h + 43) 7 0 := by rw [ey35]; exact m_rn_ok _ G117 (by rw [sy34]; exact (Nat.add_lt_add_left (Nat.le_of_ble_eq_true rfl : 43 < 44) h))
  have r3 : y35.2.1.2.2 a0 3 = some (h + 1) := by rw [ey35]; exact (m_rn_R _ (by rw [sy34]; exact (Nat.lt_of_lt_of_le h0 (Nat.le_add_right h 44))) (fun o ho => tg_X7 ho (Nat.ne_of_lt (Nat.lt_of_lt_of_le h0 (Nat.le_add_right h 43))) (Nat.lt_of_lt_of_le h0 (Nat.le_add_right h 44)))).trans r3
  have r4 : y35.2.1.2.2 a0 4 = some (h + 2) := by rw [ey35]; exact (m_rn_R _ (by rw [sy34]; exact (Nat.lt_of_lt_of_le h0 (Nat.le_add_right h 44))) (fun o ho => tg_X7 ho (Nat.ne_of_lt (Nat.lt_of_lt_of_le h0 (Nat.le_add_right h 43))) (Nat.lt_of_lt_of_le h0 (Nat.le_add_right h 44)))).trans r4
  show m_N x y35 2 51 332 63 _ _
  obtain ⟨y36, ey36⟩ : ∃ q, q = m_do y35 (o_R (h + 1) 4 (some (h + 43))) := ⟨_, rfl⟩
  refine n_aast18 (q := 64) C ⟨G119.1, by rw [G119.2]; decide⟩ G121.1 rfl ey36 dX6_init_63 rfl ?_
  have G122 : m_okn y36.1 a0 6 0 := by rw [ey36]; exact G118
  have G123 : m_okn y36.1 (h + 1) 18 6 := by rw [ey36]; exact G119
  have G124 : m_okn y36.1 (h + 2) 16 6 := by rw [ey36]; exact G120
  have G125 : m_okn y36.1 (h + 43) 7 0 := by rw [ey36]; exact G121
  have sy36 : y36.2.2 = h + 51 := by rw [ey36]; exact sy35
  have r3 : y36.2.1.2.2 a0 3 = some (h + 1) := by rw [ey36]; exact (m_rn_R [o_R (h + 1) 4 (some (h + 43))] (by rw [sy35]; exact (Nat.lt_of_lt_of_le h0 (Nat.le_add_right h 51))) (fun o ho h9 => by rw [List.mem_singleton.mp ho] at h9; exact (Nat.ne_of_lt (Nat.lt_of_lt_of_le h0 (Nat.le_add_right h 1))) (Option.some.inj h9).symm)).trans r3
  have r4 : y36.2.1.2.2 a0 4 = some (h + 2) := by rw [ey36]; exact (m_rn_R [o_R (h + 1) 4 (some (h + 43))] (by rw [sy35]; exact (Nat.lt_of_lt_of_le h0 (Nat.le_add_right h 51))) (fun o ho h9 => by rw [List.mem_singleton.mp ho] at h9; exact (Nat.ne_of_lt (Nat.lt_of_lt_of_le h0 (Nat.le_add_right h 1))) (Option.some.inj h9).symm)).trans r4
  refine n_aload_n (q := 65) C 1 dX6_init_64 rfl rfl ?_
  refine n_get (q := 68) (v := .ref (h + 2)) C (ci := 6) (f := 4) rfl (by decide) uX6 (by decide) w_182 rfl (by simp [m_fs, r4, va_rf]) dX6_init_65 G122.1 rfl ?_
  refine n_iload_n (q := 69) C 0 dX6_init_68 rfl rfl ?_
  obtain ⟨y37, ey37⟩ : ∃ q, q = m_do y36 (o_n 2 0) := ⟨_, rfl⟩
  refine n_new (q := 72) C tyX2 (ci := 2) rfl (by decide) uX2 tyX2_ok w_154 w_156 w_10 f_n2 ⟨Nat.le_of_ble_eq_true rfl, Nat.le_of_ble_eq_true rfl⟩ ey37 sy36 dX6_init_69 rfl ?_
  have G126 : m_okn y37.1 a0 6 0 := by rw [ey37]; exact (m_do_ok _ G122 (by rw [sy36]; exact (Nat.lt_of_lt_of_le h0 (Nat.le_add_right h 51)))).1
  have G127 : m_okn y37.1 (h + 1) 18 6 := by rw [ey37]; exact (m_do_ok _ G123 (by rw [sy36]; exact (Nat.add_lt_add_left (Nat.le_of_ble_eq_true rfl : 1 < 51) h))).1
  have G128 : m_okn y37.1 (h + 2) 16 6 := by rw [ey37]; exact (m_do_ok _ G124 (by rw [sy36]; exact (Nat.add_lt_add_left (Nat.le_of_ble_eq_true rfl : 2 < 51) h))).1
  have G129 : m_okn y37.1 (h + 51) 2 0 := by rw [ey37, ← sy36]; exact m_do_new _ _ _
  have r3 : y37.2.1.2.2 a0 3 = some (h + 1) := by rw [ey37]; exact (m_rn_R [o_n 2 0] (by rw [sy36]; exact (Nat.lt_of_lt_of_le h0 (Nat.le_add_right h 51))) (by simp [m_tg])).trans r3
  have r4 : y37.2.1.2.2 a0 4 = some (h + 2) := by rw [ey37]; exact (m_rn_R [o_n 2 0] (by rw [sy36]; exact (Nat.lt_of_lt_of_le h0 (Nat.le_add_right h 51))) (by simp [m_tg])).trans r4
  have sy37 : y37.2.2 = h + 52 := by rw [ey37]; show y36.2.2 + 1 = _; rw [sy36]
  refine n_dup (q := 73) C dX6_init_72 rfl rfl ?_
  obtain ⟨y38, ey38⟩ : ∃ q, q = m_rn y37 (ops_X2 (h + 51) (h + 52)) := ⟨_, rfl⟩
  refine n_callN (q := 76) C (c_X2_init hl G129 (Nat.add_lt_add_left (Nat.le_of_ble_eq_true rfl : 51 < 52) h) sy37) (List.mem_of_getElem? (i := 4) rfl) w_157 w_10 w_158 rfl hd_X2_init rfl rfl (by decide) (Nat.le_of_ble_eq_true rfl) ⟨Nat.le_of_ble_eq_true rfl, Nat.le_of_ble_eq_true rfl⟩ dX6_init_73 rfl (fun h9 => by cases h9) (fun z hz => ?_)
  cases hz
  have sy38 : y38.2.2 = h + 53 := by rw [ey38, m_rn_sz, sy37, ct_X2]
  rw [show ((m_rn y37 (ops_X2 (h + 51) (h + 52))).1, (m_rn y37 (ops_X2 (h + 51) (h + 52))).2.1, (h + 52) + 1) = y38 from by rw [← ey38]; show (y38.1, y38.2.1, _) = (y38.1, y38.2.1, y38.2.2); rw [sy38]]
  have G130 : m_okn y38.1 a0 6 0 := by rw [ey38]; exact m_rn_ok _ G126 (by rw [sy37]; exact (Nat.lt_of_lt_of_le h0 (Nat.le_add_right h 52)))
  have G131 : m_okn y38.1 (h + 1) 18 6 := by rw [ey38]; exact m_rn_ok _ G127 (by rw [sy37]; exact (Nat.add_lt_add_left (Nat.le_of_ble_eq_true rfl : 1 < 52) h))
  have G132 : m_okn y38.1 (h + 2) 16 6 := by rw [ey38]; exact m_rn_ok _ G128 (by rw [sy37]; exact (Nat.add_lt_add_left (Nat.le_of_ble_eq_true rfl : 2 < 52) h))
  have G133 : m_okn y38.1 (h + 51) 2 0 := by rw [ey38]; exact m_rn_ok _ G129 (by rw [sy37]; exact (Nat.add_lt_add_left (Nat.le_of_ble_eq_true rfl : 51 < 52) h))
  have r3 : y38.2.1.2.2 a0 3 = some (h + 1) := by rw [ey38]; exact (m_rn_R _ (by rw [sy37]; exact (Nat.lt_of_lt_of_le h0 (Nat.le_add_right h 52))) (fun o ho => tg_X2 ho (Nat.ne_of_lt (Nat.lt_of_lt_of_le h0 (Nat.le_add_right h 51))) (Nat.lt_of_lt_of_le h0 (Nat.le_add_right h 52)))).trans r3
  have r4 : y38.2.1.2.2 a0 4 = some (h + 2) := by rw [ey38]; exact (m_rn_R _ (by rw [sy37]; exact (Nat.lt_of_lt_of_le h0 (Nat.le_add_right h 52))) (fun o ho => tg_X2 ho (Nat.ne_of_lt (Nat.lt_of_lt_of_le h0 (Nat.le_add_right h 51))) (Nat.lt_of_lt_of_le h0 (Nat.le_add_right h 52)))).trans r4
  show m_N x y38 2 53 365 76 _ _
  obtain ⟨y39, ey39⟩ : ∃ q, q = m_do y38 (o_R (h + 2) 4 (some (h + 51))) := ⟨_, rfl⟩
  refine n_aast16 (q := 77) C ⟨G132.1, by rw [G132.2]; decide⟩ G133.1 rfl ey39 dX6_init_76 rfl ?_
  have G134 : m_okn y39.1 a0 6 0 := by rw [ey39]; exact G130
  have G135 : m_okn y39.1 (h + 1) 18 6 := by rw [ey39]; exact G131
  have G136 : m_okn y39.1 (h + 2) 16 6 := by rw [ey39]; exact G132
  have G137 : m_okn y39.1 (h + 51) 2 0 := by rw [ey39]; exact G133
  have sy39 : y39.2.2 = h + 53 := by rw [ey39]; exact sy38
  have r3 : y39.2.1.2.2 a0 3 = some (h + 1) := by rw [ey39]; exact (m_rn_R [o_R (h + 2) 4 (some (h + 51))] (by rw [sy38]; exact (Nat.lt_of_lt_of_le h0 (Nat.le_add_right h 53))) (fun o ho h9 => by rw [List.mem_singleton.mp ho] at h9; exact (Nat.ne_of_lt (Nat.lt_of_lt_of_le h0 (Nat.le_add_right h 2))) (Option.some.inj h9).symm)).trans r3
  have r4 : y39.2.1.2.2 a0 4 = some (h + 2) := by rw [ey39]; exact (m_rn_R [o_R (h + 2) 4 (some (h + 51))] (by rw [sy38]; exact (Nat.lt_of_lt_of_le h0 (Nat.le_add_right h 53))) (fun o ho h9 => by rw [List.mem_singleton.mp ho] at h9; exact (Nat.ne_of_lt (Nat.lt_of_lt_of_le h0 (Nat.le_add_right h 2))) (Option.some.inj h9).symm)).trans r4
  refine n_iinc (q := 80) C 0 dX6_init_77 rfl (v := 5) (by decide) (L' := [(1, .int 5), (0, .ref a0)]) rfl (by decide) rfl ?_
  refine n_goto (t := 45) C dX6_init_80 (by decide) ?_
  refine n_iload_n (q := 46) C 0 dX6_init_45 rfl rfl ?_
  refine n_bipush (q := 48) (v := 6) C dX6_init_46 (by decide) rfl ?_
  refine n_icmp_ge (t := 83) (q := 51) C dX6_init_48 (by decide) rfl (fun h9 => absurd h9 (by decide)) (fun _ => ?_)
  refine n_aload_n (q := 52) C 1 dX6_init_51 rfl rfl ?_
  refine n_get (q := 55) (v := .ref (h + 1)) C (ci := 6) (f := 3) rfl (by decide) uX6 (by decide) w_181 rfl (by simp [m_fs, r3, va_rf]) dX6_init_52 G134.1 rfl ?_
  refine n_iload_n (q := 56) C 0 dX6_init_55 rfl rfl ?_
  obtain ⟨y40, ey40⟩ : ∃ q, q = m_do y39 (o_n 7 0) := ⟨_, rfl⟩
  refine n_new (q := 59) C tyX7 (ci := 7) rfl (by decide) uX7 tyX7_ok w_153 w_82 w_6 f_n7 ⟨Nat.le_of_ble_eq_true rfl, Nat.le_of_ble_eq_true rfl⟩ ey40 sy39 dX6_init_56 rfl ?_
  have G138 : m_okn y40.1 a0 6 0 := by rw [ey40]; exact (m_do_ok _ G134 (by rw [sy39]; exact (Nat.lt_of_lt_of_le h0 (Nat.le_add_right h 53)))).1
  have G139 : m_okn y40.1 (h + 1) 18 6 := by rw [ey40]; exact (m_do_ok _ G135 (by rw [sy39]; exact (Nat.add_lt_add_left (Nat.le_of_ble_eq_true rfl : 1 < 53) h))).1
  have G140 : m_okn y40.1 (h + 2) 16 6 := by rw [ey40]; exact (m_do_ok _ G136 (by rw [sy39]; exact (Nat.add_lt_add_left (Nat.le_of_ble_eq_true rfl : 2 < 53) h))).1
  have G141 : m_okn y40.1 (h + 53) 7 0 := by rw [ey40, ← sy39]; exact m_do_new _ _ _
  have r3 : y40.2.1.2.2 a0 3 = some (h + 1) := by rw [ey40]; exact (m_rn_R [o_n 7 0] (by rw [sy39]; exact (Nat.lt_of_lt_of_le h0 (Nat.le_add_right h 53))) (by simp [m_tg])).trans r3
  have r4 : y40.2.1.2.2 a0 4 = some (h + 2) := by rw [ey40]; exact (m_rn_R [o_n 7 0] (by rw [sy39]; exact (Nat.lt_of_lt_of_le h0 (Nat.le_add_right h 53))) (by simp [m_tg])).trans r4
  have sy40 : y40.2.2 = h + 54 := by rw [ey40]; show y39.2.2 + 1 = _; rw [sy39]
  refine n_dup (q := 60) C dX6_init_59 rfl rfl ?_
  obtain ⟨y41, ey41⟩ : ∃ q, q = m_rn y40 (ops_X7 (h + 53) (h + 54)) := ⟨_, rfl⟩
  refine n_callI (q := 63) C (c_X7_init hl G141 (Nat.add_lt_add_left (Nat.le_of_ble_eq_true rfl : 53 < 54) h) sy40) w_155 w_84 w_6 w_85 rfl hd_X7_init rfl rfl (by decide) (Nat.le_of_ble_eq_true rfl) ⟨Nat.le_of_ble_eq_true rfl, Nat.le_of_ble_eq_true rfl⟩ dX6_init_60 rfl (fun h9 => by cases h9) (fun z hz => ?_)
  cases hz
  have sy41 : y41.2.2 = h + 61 := by rw [ey41, m_rn_sz, sy40, ct_X7]
  rw [show ((m_rn y40 (ops_X7 (h + 53) (h + 54))).1, (m_rn y40 (ops_X7 (h + 53) (h + 54))).2.1, (h + 54) + 7) = y41 from by rw [← ey41]; show (y41.1, y41.2.1, _) = (y41.1, y41.2.1, y41.2.2); rw [sy41]]
  have G142 : m_okn y41.1 a0 6 0 := by rw [ey41]; exact m_rn_ok _ G138 (by rw [sy40]; exact (Nat.lt_of_lt_of_le h0 (Nat.le_add_right h 54)))
  have G143 : m_okn y41.1 (h + 1) 18 6 := by rw [ey41]; exact m_rn_ok _ G139 (by rw [sy40]; exact (Nat.add_lt_add_left (Nat.le_of_ble_eq_true rfl : 1 < 54) h))
  have G144 : m_okn y41.1 (h + 2) 16 6 := by rw [ey41]; exact m_rn_ok _ G140 (by rw [sy40]; exact (Nat.add_lt_add_left (Nat.le_of_ble_eq_true rfl : 2 < 54) h))
  have G145 : m_okn y41.1 (h + 53) 7 0 := by rw [ey41]; exact m_rn_ok _ G141 (by rw [sy40]; exact (Nat.add_lt_add_left (Nat.le_of_ble_eq_true rfl : 53 < 54) h))
  have r3 : y41.2.1.2.2 a0 3 = some (h + 1) := by rw [ey41]; exact (m_rn_R _ (by rw [sy40]; exact (Nat.lt_of_lt_of_le h0 (Nat.le_add_right h 54))) (fun o ho => tg_X7 ho (Nat.ne_of_lt (Nat.lt_of_lt_of_le h0 (Nat.le_add_right h 53))) (Nat.lt_of_lt_of_le h0 (Nat.le_add_right h 54)))).trans r3
  have r4 : y41.2.1.2.2 a0 4 = some (h + 2) := by rw [ey41]; exact (m_rn_R _ (by rw [sy40]; exact (Nat.lt_of_lt_of_le h0 (Nat.le_add_right h 54))) (fun o ho => tg_X7 ho (Nat.ne_of_lt (Nat.lt_of_lt_of_le h0 (Nat.le_add_right h 53))) (Nat.lt_of_lt_of_le h0 (Nat.le_add_right h 54)))).trans r4
  show m_N x y41 2 61 402 63 _ _
  obtain ⟨y42, ey42⟩ : ∃ q, q = m_do y41 (o_R (h + 1) 5 (some (h + 53))) := ⟨_, rfl⟩
  refine n_aast18 (q := 64) C ⟨G143.1, by rw [G143.2]; decide⟩ G145.1 rfl ey42 dX6_init_63 rfl ?_
  have G146 : m_okn y42.1 a0 6 0 := by rw [ey42]; exact G142
  have G147 : m_okn y42.1 (h + 1) 18 6 := by rw [ey42]; exact G143
  have G148 : m_okn y42.1 (h + 2) 16 6 := by rw [ey42]; exact G144
  have G149 : m_okn y42.1 (h + 53) 7 0 := by rw [ey42]; exact G145
  have sy42 : y42.2.2 = h + 61 := by rw [ey42]; exact sy41
  have r3 : y42.2.1.2.2 a0 3 = some (h + 1) := by rw [ey42]; exact (m_rn_R [o_R (h + 1) 5 (some (h + 53))] (by rw [sy41]; exact (Nat.lt_of_lt_of_le h0 (Nat.le_add_right h 61))) (fun o ho h9 => by rw [List.mem_singleton.mp ho] at h9; exact (Nat.ne_of_lt (Nat.lt_of_lt_of_le h0 (Nat.le_add_right h 1))) (Option.some.inj h9).symm)).trans r3
  have r4 : y42.2.1.2.2 a0 4 = some (h + 2) := by rw [ey42]; exact (m_rn_R [o_R (h + 1) 5 (some (h + 53))] (by rw [sy41]; exact (Nat.lt_of_lt_of_le h0 (Nat.le_add_right h 61))) (fun o ho h9 => by rw [List.mem_singleton.mp ho] at h9; exact (Nat.ne_of_lt (Nat.lt_of_lt_of_le h0 (Nat.le_add_right h 1))) (Option.some.inj h9).symm)).trans r4
  refine n_aload_n (q := 65) C 1 dX6_init_64 rfl rfl ?_
  refine n_get (q := 68) (v := .ref (h + 2)) C (ci := 6) (f := 4) rfl (by decide) uX6 (by decide) w_182 rfl (by simp [m_fs, r4, va_rf]) dX6_init_65 G146.1 rfl ?_
  refine n_iload_n (q := 69) C 0 dX6_init_68 rfl rfl ?_
  obtain ⟨y43, ey43⟩ : ∃ q, q = m_do y42 (o_n 2 0) := ⟨_, rfl⟩
  refine n_new (q := 72) C tyX2 (ci := 2) rfl (by decide) uX2 tyX2_ok w_154 w_156 w_10 f_n2 ⟨Nat.le_of_ble_eq_true rfl, Nat.le_of_ble_eq_true rfl⟩ ey43 sy42 dX6_init_69 rfl ?_
  have G150 : m_okn y43.1 a0 6 0 := by rw [ey43]; exact (m_do_ok _ G146 (by rw [sy42]; exact (Nat.lt_of_lt_of_le h0 (Nat.le_add_right h 61)))).1
  have G151 : m_okn y43.1 (h + 1) 18 6 := by rw [ey43]; exact (m_do_ok _ G147 (by rw [sy42]; exact (Nat.add_lt_add_left (Nat.le_of_ble_eq_true rfl : 1 < 61) h))).1
  have G152 : m_okn y43.1 (h + 2) 16 6 := by rw [ey43]; exact (m_do_ok _ G148 (by rw [sy42]; exact (Nat.add_lt_add_left (Nat.le_of_ble_eq_true rfl : 2 < 61) h))).1
  have G153 : m_okn y43.1 (h + 61) 2 0 := by rw [ey43, ← sy42]; exact m_do_new _ _ _
  have r3 : y43.2.1.2.2 a0 3 = some (h + 1) := by rw [ey43]; exact (m_rn_R [o_n 2 0] (by rw [sy42]; exact (Nat.lt_of_lt_of_le h0 (Nat.le_add_right h 61))) (by simp [m_tg])).trans r3
  have r4 : y43.2.1.2.2 a0 4 = some (h + 2) := by rw [ey43]; exact (m_rn_R [o_n 2 0] (by rw [sy42]; exact (Nat.lt_of_lt_of_le h0 (Nat.le_add_right h 61))) (by simp [m_tg])).trans r4
  have sy43 : y43.2.2 = h + 62 := by rw [ey43]; show y42.2.2 + 1 = _; rw [sy42]
  refine n_dup (q := 73) C dX6_init_72 rfl rfl ?_
  obtain ⟨y44, ey44⟩ : ∃ q, q = m_rn y43 (ops_X2 (h + 61) (h + 62)) := ⟨_, rfl⟩
  refine n_callN (q := 76) C (c_X2_init hl G153 (Nat.add_lt_add_left (Nat.le_of_ble_eq_true rfl : 61 < 62) h) sy43) (List.mem_of_getElem? (i := 4) rfl) w_157 w_10 w_158 rfl hd_X2_init rfl rfl (by decide) (Nat.le_of_ble_eq_true rfl) ⟨Nat.le_of_ble_eq_true rfl, Nat.le_of_ble_eq_true rfl⟩ dX6_init_73 rfl (fun h9 => by cases h9) (fun z hz => ?_)
  cases hz
  have sy44 : y44.2.2 = h + 63 := by rw [ey44, m_rn_sz, sy43, ct_X2]
  rw [show ((m_rn y43 (ops_X2 (h + 61) (h + 62))).1, (m_rn y43 (ops_X2 (h + 61) (h + 62))).2.1, (h + 62) + 1) = y44 from by rw [← ey44]; show (y44.1, y44.2.1, _) = (y44.1, y44.2.1, y44.2.2); rw [sy44]]
  have G154 : m_okn y44.1 a0 6 0 := by rw [ey44]; exact m_rn_ok _ G150 (by rw [sy43]; exact (Nat.lt_of_lt_of_le h0 (Nat.le_add_right h 62)))
  have G155 : m_okn y44.1 (h + 1) 18 6 := by rw [ey44]; exact m_rn_ok _ G151 (by rw [sy43]; exact (Nat.add_lt_add_left (Nat.le_of_ble_eq_true rfl : 1 < 62) h))
  have G156 : m_okn y44.1 (h + 2) 16 6 := by rw [ey44]; exact m_rn_ok _ G152 (by rw [sy43]; exact (Nat.add_lt_add_left (Nat.le_of_ble_eq_true rfl : 2 < 62) h))
  have G157 : m_okn y44.1 (h + 61) 2 0 := by rw [ey44]; exact m_rn_ok _ G153 (by rw [sy43]; exact (Nat.add_lt_add_left (Nat.le_of_ble_eq_true rfl : 61 < 62) h))
  have r3 : y44.2.1.2.2 a0 3 = some (h + 1) := by rw [ey44]; exact (m_rn_R _ (by rw [sy43]; exact (Nat.lt_of_lt_of_le h0 (Nat.le_add_right h 62))) (fun o ho => tg_X2 ho (Nat.ne_of_lt (Nat.lt_of_lt_of_le h0 (Nat.le_add_right h 61))) (Nat.lt_of_lt_of_le h0 (Nat.le_add_right h 62)))).trans r3
  have r4 : y44.2.1.2.2 a0 4 = some (h + 2) := by rw [ey44]; exact (m_rn_R _ (by rw [sy43]; exact (Nat.lt_of_lt_of_le h0 (Nat.le_add_right h 62))) (fun o ho => tg_X2 ho (Nat.ne_of_lt (Nat.lt_of_lt_of_le h0 (Nat.le_add_right h 61))) (Nat.lt_of_lt_of_le h0 (Nat.le_add_right h 62)))).trans r4
  show m_N x y44 2 63 435 76 _ _
  obtain ⟨y45, ey45⟩ : ∃ q, q = m_do y44 (o_R (h + 2) 5 (some (h + 61))) := ⟨_, rfl⟩
  refine n_aast16 (q := 77) C ⟨G156.1, by rw [G156.2]; decide⟩ G157.1 rfl ey45 dX6_init_76 rfl ?_
  have G158 : m_okn y45.1 a0 6 0 := by rw [ey45]; exact G154
  have G159 : m_okn y45.1 (h + 1) 18 6 := by rw [ey45]; exact G155
  have G160 : m_okn y45.1 (h + 2) 16 6 := by rw [ey45]; exact G156
  have G161 : m_okn y45.1 (h + 61) 2 0 := by rw [ey45]; exact G157
  have sy45 : y45.2.2 = h + 63 := by rw [ey45]; exact sy44
  have r3 : y45.2.1.2.2 a0 3 = some (h + 1) := by rw [ey45]; exact (m_rn_R [o_R (h + 2) 5 (some (h + 61))] (by rw [sy44]; exact (Nat.lt_of_lt_of_le h0 (Nat.le_add_right h 63))) (fun o ho h9 => by rw [List.mem_singleton.mp ho] at h9; exact (Nat.ne_of_lt (Nat.lt_of_lt_of_le h0 (Nat.le_add_right h 2))) (Option.some.inj h9).symm)).trans r3
  have r4 : y45.2.1.2.2 a0 4 = some (h + 2) := by rw [ey45]; exact (m_rn_R [o_R (h + 2) 5 (some (h + 61))] (by rw [sy44]; exact (Nat.lt_of_lt_of_le h0 (Nat.le_add_right h 63))) (fun o ho h9 => by rw [List.mem_singleton.mp ho] at h9; exact (Nat.ne_of_lt (Nat.lt_of_lt_of_le h0 (Nat.le_add_right h 2))) (Option.some.inj h9).symm)).trans r4
  refine n_iinc (q := 80) C 0 dX6_init_77 rfl (v := 6) (by decide) (L' := [(1, .int 6), (0, .ref a0)]) rfl (by decide) rfl ?_
  refine n_goto (t := 45) C dX6_init_80 (by decide) ?_
  refine n_iload_n (q := 46) C 0 dX6_init_45 rfl rfl ?_
  refine n_bipush (q := 48) (v := 6) C dX6_init_46 (by decide) rfl ?_
  refine n_icmp_ge (t := 83) (q := 51) C dX6_init_48 (by decide) rfl (fun _ => ?_) (fun h9 => absurd (show (6 : Int32) ≤ 6 by decide) h9)
  have ey : y45 = m_rn y0 (ops_X6 a0 h) := by rw [ey45, ey44, ey43, ey42, ey41, ey40, ey39, ey38, ey37, ey36, ey35, ey34, ey33, ey32, ey31, ey30, ey29, ey28, ey27, ey26, ey25, ey24, ey23, ey22, ey21, ey20, ey19, ey18, ey17, ey16, ey15, ey14, ey13, ey12, ey11, ey10, ey9, ey8, ey7, ey6, ey5, ey4, ey3, ey2, ey1]; simp only [ops_X6, m_rn, List.foldl_append, List.foldl_cons, List.foldl_nil]
  exact n_vret C F (by rw [ey]) (by rw [ey]) (fun n hn => by cases hn; exact sy45) dX6_init_83

