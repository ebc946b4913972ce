/-! .. -/
def ops_X8 (a0 h : Nat) : List m_O := [o_n 3 0] ++ (ops_X3 h (h + 1) ++ ([o_R a0 0 (some h), o_n 5 0] ++ (ops_X5 (h + 4) (h + 5) ++ ([o_R a0 1 (some (h + 4)), o_n 5 0] ++ (ops_X5 (h + 70) (h + 71) ++ ([o_R a0 2 (some (h + 70)), o_n 6 0] ++ (ops_X6 (h + 136) (h + 137) ++ ([o_R a0 3 (some (h + 136)), o_n 17 2, o_R a0 4 (some (h + 200)), o_n 13 2, o_R a0 5 (some (h + 201)), o_n 4 0] ++ (ops_X4 (h + 202) (h + 203) ++ ([o_R a0 6 (some (h + 202)), o_n 7 0] ++ (ops_X7 (h + 203) (h + 204) ++ ([o_R a0 7 (some (h + 203)), o_n 11 72, o_R a0 8 (some (h + 211)), o_n 6 0] ++ (ops_X6 (h + 212) (h + 213) ++ ([o_R (h + 200) 0 (some (h + 212)), o_n 6 0] ++ (ops_X6 (h + 276) (h + 277) ++ ([o_R (h + 200) 1 (some (h + 276))]))))))))))))))))
theorem ct_X8 {a0 h : Nat} : m_ct (ops_X8 a0 h) = 340 := by simp only [ops_X8, m_ct_app, m_ct, ct_X3, ct_X4, ct_X5, ct_X6, ct_X7]
theorem tg_X8 {a0 h a : Nat} {o : m_O} (ho : o ∈ ops_X8 a0 h) (h1 : a ≠ a0) (h2 : a < h) : m_tg o ≠ some a := by
  simp only [ops_X8, List.mem_append] at ho
  rcases ho with ho | ho | ho | ho | ho | ho | ho | ho | ho | ho | ho | ho | ho | ho | ho | ho | ho
  · simp only [List.mem_cons, List.not_mem_nil, or_false] at ho
    subst ho; simp [m_tg] <;> omega
  · exact tg_X3 ho (by omega) (by omega)
  · simp only [List.mem_cons, List.not_mem_nil, or_false] at ho
    rcases ho with rfl | rfl <;> simp [m_tg] <;> omega
  · exact tg_X5 ho (by omega) (by omega)
  · simp only [List.mem_cons, List.not_mem_nil, or_false] at ho
    rcases ho with rfl | rfl <;> simp [m_tg] <;> omega
  · exact tg_X5 ho (by omega) (by omega)
  · simp only [List.mem_cons, List.not_mem_nil, or_false] at ho
    rcases ho with rfl | rfl <;> simp [m_tg] <;> omega
  · exact tg_X6 ho (by omega) (by omega)
  · simp only [List.mem_cons, List.not_mem_nil, or_false] at ho
    rcases ho with rfl | rfl | rfl | rfl | rfl | rfl <;> simp [m_tg] <;> omega
  · exact tg_X4 ho (by omega) (by omega)
  · simp only [List.mem_cons, List.not_mem_nil, or_false] at ho
    rcases ho with rfl | rfl <;> simp [m_tg] <;> omega
  · exact tg_X7 ho (by omega) (by omega)
  · simp only [List.mem_cons, List.not_mem_nil, or_false] at ho
    rcases ho with rfl | rfl | rfl | rfl <;> simp [m_tg] <;> omega
  · exact tg_X6 ho (by omega) (by omega)
  · simp only [List.mem_cons, List.not_mem_nil, or_false] at ho
    rcases ho with rfl | rfl <;> simp [m_tg] <;> omega
  · exact tg_X6 ho (by omega) (by omega)
  · simp only [List.mem_cons, List.not_mem_nil, or_false] at ho
    subst ho; simp [m_tg] <;> omega
abbrev rm_X8_init : Room := { frames := 4, cells := 340, slots := 3074, locals := 82 }
theorem hd_X8_init : yX8_init.cls ≠ "java/lang/invoke/MethodHandle" ∧ yX8_init.cls ≠ "java/lang/invoke/VarHandle" ∧ (parseMethodDescriptor yX8_init.desc).map (fun d => d.parameters.length) = some 0 := by decide +kernel
theorem f_n8 (S : m_S) (a : Nat) : ∀ j, j < 9 → defaultValue (tyX8 j) = vp_V (m_fs 8 (m_zr S a) a) j := by
  intro j hj
  iterate 9 (rcases j with _ | j; · simp [tyX8, m_fs, m_zr, vp_V, va_rf, defaultValue])
  omega
set_option maxHeartbeats 4000000 in
set_option maxRecDepth 100000 in
theorem c_X8_init {l : Launch} (hl : l.stackTraces = false) {y0 : m_Y} {a0 h : Nat} (g0 : m_okn y0.1 a0 8 0) (h0 : a0 < h) (s0 : y0.2.2 = h) : m_CI l yX8_init (.code yX8_init cX8_init 2 none :: m_ws) rm_X8_init 340 3074 [.ref a0] y0 (m_rn y0 (ops_X8 a0 h)).1 (m_rn y0 (ops_X8 a0 h)).2.1 (some (h + 340)) := by
  refine m_entI hl (by decide) (Nat.le_of_ble_eq_true rfl) (fun x C F hini => ?_)
  have C : m_H x l RX8 cX8_init 2 rm_X8_init := C
  show m_N x y0 2 0 0 0 [(0, .ref a0)] []
  refine n_aload_n (q := 1) C 0 dX8_init_0 rfl rfl ?_
  refine n_obj (q := 4) C w_29 (by decide) (by decide) dX8_init_1 rfl ?_
  refine n_aload_n (q := 5) C 0 dX8_init_4 rfl rfl ?_
  obtain ⟨y1, ey1⟩ : ∃ q, q = m_do y0 (o_n 3 0) := ⟨_, rfl⟩
  refine n_new (q := 8) C tyX3 (ci := 3) rfl (by decide) uX3 tyX3_ok w_32 w_33 w_3 f_n3 ⟨Nat.le_of_ble_eq_true rfl, Nat.le_of_ble_eq_true rfl⟩ ey1 s0 dX8_init_5 rfl ?_
  have G0 : m_okn y1.1 a0 8 0 := by rw [ey1]; exact (m_do_ok _ g0 (by rw [s0]; exact h0)).1
  have G1 : m_okn y1.1 (h) 3 0 := by rw [ey1, ← s0]; exact m_do_new _ _ _
  have sy1 : y1.2.2 = h + 1 := by rw [ey1]; show y0.2.2 + 1 = _; rw [s0]
  refine n_dup (q := 9) C dX8_init_8 rfl rfl ?_
  obtain ⟨y2, ey2⟩ : ∃ q, q = m_rn y1 (ops_X3 h (h + 1)) := ⟨_, rfl⟩
  refine n_callN (q := 12) C (c_X3_init hl G1 (Nat.lt_add_of_pos_right (Nat.succ_pos 0)) sy1) (List.mem_of_getElem? (i := 0) rfl) w_34 w_3 w_35 rfl hd_X3_init rfl rfl (by decide) (Nat.le_of_ble_eq_true rfl) ⟨Nat.le_of_ble_eq_true rfl, Nat.le_of_ble_eq_true rfl⟩ dX8_init_9 rfl (fun h9 => by cases h9) (fun z hz => ?_)
  cases hz
  have sy2 : y2.2.2 = h + 4 := by rw [ey2, m_rn_sz, sy1, ct_X3]
  rw [show ((m_rn y1 (ops_X3 h (h + 1))).1, (m_rn y1 (ops_X3 h (h + 1))).2.1, (h + 1) + 3) = y2 from by rw [← ey2]; show (y2.1, y2.2.1, _) = (y2.1, y2.2.1, y2.2.2); rw [sy2]]
  have G2 : m_okn y2.1 a0 8 0 := by rw [ey2]; exact m_rn_ok _ G0 (by rw [sy1]; exact (Nat.lt_of_lt_of_le h0 (Nat.le_add_right h 1)))
  have G3 : m_okn y2.1 h 3 0 := by rw [ey2]; exact m_rn_ok _ G1 (by rw [sy1]; exact (Nat.lt_add_of_pos_right (Nat.succ_pos 0)))
  show m_N x y2 2 4 920 12 _ _
  obtain ⟨y3, ey3⟩ : ∃ q, q = m_do y2 (o_R a0 0 (some h)) := ⟨_, rfl⟩
  refine n_putF (q := 15) (y' := y3) C tyX8 (ci := 8) (f := 0) rfl (by decide) uX8 tyX8_ok nmX8 (by decide) w_191 rfl rfl hini rfl (tyX8_ok 0 (by decide)) rfl rfl (Nat.le_of_ble_eq_true rfl) (by rw [ey3]; simp [m_fs, m_do, m_pR, va_rf]) (fun cy b hb => by rw [ey3]; exact m_cR b hb) dX8_init_12 G2.1 (by rw [ey3]; rfl) (by rw [ey3]; rfl) rfl ?_
  have G4 : m_okn y3.1 a0 8 0 := by rw [ey3]; exact G2
  have G5 : m_okn y3.1 h 3 0 := by rw [ey3]; exact G3
  have sy3 : y3.2.2 = h + 4 := by rw [ey3]; exact sy2
  refine n_aload_n (q := 16) C 0 dX8_init_15 rfl rfl ?_
  obtain ⟨y4, ey4⟩ : ∃ q, q = m_do y3 (o_n 5 0) := ⟨_, rfl⟩
  refine n_new (q := 19) C tyX5 (ci := 5) rfl (by decide) uX5 tyX5_ok w_59 w_60 w_4 f_n5 ⟨Nat.le_of_ble_eq_true rfl, Nat.le_of_ble_eq_true rfl⟩ ey4 sy3 dX8_init_16 rfl ?_
  have G6 : m_okn y4.1 a0 8 0 := by rw [ey4]; exact (m_do_ok _ G4 (by rw [sy3]; exact (Nat.lt_of_lt_of_le h0 (Nat.le_add_right h 4)))).1
  have G7 : m_okn y4.1 (h + 4) 5 0 := by rw [ey4, ← sy3]; exact m_do_new _ _ _
  have sy4 : y4.2.2 = h + 5 := by rw [ey4]; show y3.2.2 + 1 = _; rw [sy3]
  refine n_dup (q := 20) C dX8_init_19 rfl rfl ?_
  obtain ⟨y5, ey5⟩ : ∃ q, q = m_rn y4 (ops_X5 (h + 4) (h + 5)) := ⟨_, rfl⟩
  refine n_callI (q := 23) C (c_X5_init hl G7 (Nat.add_lt_add_left (Nat.le_of_ble_eq_true rfl : 4 < 5) h) sy4) w_61 w_62 w_4 w_63 rfl hd_X5_init rfl rfl (by decide) (Nat.le_of_ble_eq_true rfl) ⟨Nat.le_of_ble_eq_true rfl, Nat.le_of_ble_eq_true rfl⟩ dX8_init_20 rfl (fun h9 => by cases h9) (fun z hz => ?_)
  cases hz
  have sy5 : y5.2.2 = h + 70 := by rw [ey5, m_rn_sz, sy4, ct_X5]
  rw [show ((m_rn y4 (ops_X5 (h + 4) (h + 5))).1, (m_rn y4 (ops_X5 (h + 4) (h + 5))).2.1, (h + 5) + 65) = y5 from by rw [← ey5]; show (y5.1, y5.2.1, _) = (y5.1, y5.2.1, y5.2.2); rw [sy5]]
  have G8 : m_okn y5.1 a0 8 0 := by rw [ey5]; exact m_rn_ok _ G6 (by rw [sy4]; exact (Nat.lt_of_lt_of_le h0 (Nat.le_add_right h 5)))
  have G9 : m_okn y5.1 (h + 4) 5 0 := by rw [ey5]; exact m_rn_ok _ G7 (by rw [sy4]; exact (Nat.add_lt_add_left (Nat.le_of_ble_eq_true rfl : 4 < 5) h))
  show m_N x y5 2 70 1279 23 _ _
  obtain ⟨y6, ey6⟩ : ∃ q, q = m_do y5 (o_R a0 1 (some (h + 4))) := ⟨_, rfl⟩
  refine n_put (q := 26) (y' := y6) C tyX8 (ci := 8) (f := 1) rfl (by decide) uX8 tyX8_ok nmX8 (by decide) w_192 rfl rfl (tyX8_ok 1 (by decide)) rfl rfl (Nat.le_of_ble_eq_true rfl) (by rw [ey6]; simp [m_fs, m_do, m_pR, va_rf]) (fun cy b hb => by rw [ey6]; exact m_cR b hb) dX8_init_23 G8.1 (by rw [ey6]; rfl) (by rw [ey6]; rfl) rfl ?_
  have G10 : m_okn y6.1 a0 8 0 := by rw [ey6]; exact G8
  have G11 : m_okn y6.1 (h + 4) 5 0 := by rw [ey6]; exact G9
  have sy6 : y6.2.2 = h + 70 := by rw [ey6]; exact sy5
  refine n_aload_n (q := 27) C 0 dX8_init_26 rfl rfl ?_
  obtain ⟨y7, ey7⟩ : ∃ q, q = m_do y6 (o_n 5 0) := ⟨_, rfl⟩
  refine n_new (q := 30) C tyX5 (ci := 5) rfl (by decide) uX5 tyX5_ok w_59 w_60 w_4 f_n5 ⟨Nat.le_of_ble_eq_true rfl, Nat.le_of_ble_eq_true rfl⟩ ey7 sy6 dX8_init_27 rfl ?_
  have G12 : m_okn y7.1 a0 8 0 := by rw [ey7]; exact (m_do_ok _ G10 (by rw [sy6]; exact (Nat.lt_of_lt_of_le h0 (Nat.le_add_right h 70)))).1
  have G13 : m_okn y7.1 (h + 70) 5 0 := by rw [ey7, ← sy6]; exact m_do_new _ _ _
  have sy7 : y7.2.2 = h + 71 := by rw [ey7]; show y6.2.2 + 1 = _; rw [sy6]
  refine n_dup (q := 31) C dX8_init_30 rfl rfl ?_
  obtain ⟨y8, ey8⟩ : ∃ q, q = m_rn y7 (ops_X5 (h + 70) (h + 71)) := ⟨_, rfl⟩
  refine n_callI (q := 34) C (c_X5_init hl G13 (Nat.add_lt_add_left (Nat.le_of_ble_eq_true rfl : 70 < 71) h) sy7) w_61 w_62 w_4 w_63 rfl hd_X5_init rfl rfl (by decide) (Nat.le_of_ble_eq_true rfl) ⟨Nat.le_of_ble_eq_true rfl, Nat.le_of_ble_eq_true rfl⟩ dX8_init_31 rfl (fun h9 => by cases h9) (fun z hz => ?_)
  cases hz
  have sy8 : y8.2.2 = h + 136 := by rw [ey8, m_rn_sz, sy7, ct_X5]
  rw [show ((m_rn y7 (ops_X5 (h + 70) (h + 71))).1, (m_rn y7 (ops_X5 (h + 70) (h + 71))).2.1, (h + 71) + 65) = y8 from by rw [← ey8]; show (y8.1, y8.2.1, _) = (y8.1, y8.2.1, y8.2.2); rw [sy8]]
  have G14 : m_okn y8.1 a0 8 0 := by rw [ey8]; exact m_rn_ok _ G12 (by rw [sy7]; exact (Nat.lt_of_lt_of_le h0 (Nat.le_add_right h 71)))
  have G15 : m_okn y8.1 (h + 70) 5 0 := by rw [ey8]; exact m_rn_ok _ G13 (by rw [sy7]; exact (Nat.add_lt_add_left (Nat.le_of_ble_eq_true rfl : 70 < 71) h))
  show m_N x y8 2 136 1638 34 _ _
  obtain ⟨y9, ey9⟩ : ∃ q, q = m_do y8 (o_R a0 2 (some (h + 70))) := ⟨_, rfl⟩
  refine n_put (q := 37) (y' := y9) C tyX8 (ci := 8) (f := 2) rfl (by decide) uX8 tyX8_ok nmX8 (by decide) w_193 rfl rfl (tyX8_ok 2 (by decide)) rfl rfl (Nat.le_of_ble_eq_true rfl) (by rw [ey9]; simp [m_fs, m_do, m_pR, va_rf]) (fun cy b hb => by rw [ey9]; exact m_cR b hb) dX8_init_34 G14.1 (by rw [ey9]; rfl) (by rw [ey9]; rfl) rfl ?_
  have G16 : m_okn y9.1 a0 8 0 := by rw [ey9]; exact G14
  have G17 : m_okn y9.1 (h + 70) 5 0 := by rw [ey9]; exact G15
  have sy9 : y9.2.2 = h + 136 := by rw [ey9]; exact sy8
  refine n_aload_n (q := 38) C 0 dX8_init_37 rfl rfl ?_
  obtain ⟨y10, ey10⟩ : ∃ q, q = m_do y9 (o_n 6 0) := ⟨_, rfl⟩
  refine n_new (q := 41) C tyX6 (ci := 6) rfl (by decide) uX6 tyX6_ok w_136 w_137 w_8 f_n6 ⟨Nat.le_of_ble_eq_true rfl, Nat.le_of_ble_eq_true rfl⟩ ey10 sy9 dX8_init_38 rfl ?_
  have G18 : m_okn y10.1 a0 8 0 := by rw [ey10]; exact (m_do_ok _ G16 (by rw [sy9]; exact (Nat.lt_of_lt_of_le h0 (Nat.le_add_right h 136)))).1
  have G19 : m_okn y10.1 (h + 136) 6 0 := by rw [ey10, ← sy9]; exact m_do_new _ _ _
  have sy10 : y10.2.2 = h + 137 := by rw [ey10]; show y9.2.2 + 1 = _; rw [sy9]
  refine n_dup (q := 42) C dX8_init_41 rfl rfl ?_
  obtain ⟨y11, ey11⟩ : ∃ q, q = m_rn y10 (ops_X6 (h + 136) (h + 137)) := ⟨_, rfl⟩
  refine n_callI (q := 45) C (c_X6_init hl G19 (Nat.add_lt_add_left (Nat.le_of_ble_eq_true rfl : 136 < 137) h) sy10) w_138 w_139 w_8 w_140 rfl hd_X6_init rfl rfl (by decide) (Nat.le_of_ble_eq_true rfl) ⟨Nat.le_of_ble_eq_true rfl, Nat.le_of_ble_eq_true rfl⟩ dX8_init_42 rfl (fun h9 => by cases h9) (fun z hz => ?_)
  cases hz
  have sy11 : y11.2.2 = h + 200 := by rw [ey11, m_rn_sz, sy10, ct_X6]
  rw [show ((m_rn y10 (ops_X6 (h + 136) (h + 137))).1, (m_rn y10 (ops_X6 (h + 136) (h + 137))).2.1, (h + 137) + 63) = y11 from by rw [← ey11]; show (y11.1, y11.2.1, _) = (y11.1, y11.2.1, y11.2.2); rw [sy11]]
  have G20 : m_okn y11.1 a0 8 0 := by rw [ey11]; exact m_rn_ok _ G18 (by rw [sy10]; exact (Nat.lt_of_lt_of_le h0 (Nat.le_add_right h 137)))
  have G21 : m_okn y11.1 (h + 136) 6 0 := by rw [ey11]; exact m_rn_ok _ G19 (by rw [sy10]; exact (Nat.add_lt_add_left (Nat.le_of_ble_eq_true rfl : 136 < 137) h))
  show m_N x y11 2 200 2078 45 _ _
  obtain ⟨y12, ey12⟩ : ∃ q, q = m_do y11 (o_R a0 3 (some (h + 136))) := ⟨_, rfl⟩
  refine n_putF (q := 48) (y' := y12) C tyX8 (ci := 8) (f := 3) rfl (by decide) uX8 tyX8_ok nmX8 (by decide) w_194 rfl rfl hini rfl (tyX8_ok 3 (by decide)) rfl rfl (Nat.le_of_ble_eq_true rfl) (by rw [ey12]; simp [m_fs, m_do, m_pR, va_rf]) (fun cy b hb => by rw [ey12]; exact m_cR b hb) dX8_init_45 G20.1 (by rw [ey12]; rfl) (by rw [ey12]; rfl) rfl ?_
  have G22 : m_okn y12.1 a0 8 0 := by rw [ey12]; exact G20
  have G23 : m_okn y12.1 (h + 136) 6 0 := by rw [ey12]; exact G21
  have sy12 : y12.2.2 = h + 200 := by rw [ey12]; exact sy11
  refine n_aload_n (q := 49) C 0 dX8_init_48 rfl rfl ?_
  refine n_iconst (q := 50) (v := 2) C dX8_init_49 (by decide) rfl ?_
  obtain ⟨y13, ey13⟩ : ∃ q, q = m_do y12 (o_n 17 2) := ⟨_, rfl⟩
  refine n_nq17 (q := 53) C w_136 (by decide) rfl (Nat.le_of_ble_eq_true rfl) ⟨Nat.le_of_ble_eq_true rfl, Nat.le_of_ble_eq_true rfl⟩ ey13 sy12 dX8_init_50 rfl ?_
  have G24 : m_okn y13.1 a0 8 0 := by rw [ey13]; exact (m_do_ok _ G22 (by rw [sy12]; exact (Nat.lt_of_lt_of_le h0 (Nat.le_add_right h 200)))).1
  have G25 : m_okn y13.1 (h + 200) 17 2 := by rw [ey13, ← sy12]; exact m_do_new _ _ _
  have sy13 : y13.2.2 = h + 201 := by rw [ey13]; show y12.2.2 + 1 = _; rw [sy12]
  obtain ⟨y14, ey14⟩ : ∃ q, q = m_do y13 (o_R a0 4 (some (h + 200))) := ⟨_, rfl⟩
  refine n_putF (q := 56) (y' := y14) C tyX8 (ci := 8) (f := 4) rfl (by decide) uX8 tyX8_ok nmX8 (by decide) w_195 rfl rfl hini rfl (tyX8_ok 4 (by decide)) rfl rfl (Nat.le_of_ble_eq_true rfl) (by rw [ey14]; simp [m_fs, m_do, m_pR, va_rf]) (fun cy b hb => by rw [ey14]; exact m_cR b hb) dX8_init_53 G24.1 (by rw [ey14]; rfl) (by rw [ey14]; rfl) rfl ?_
  have G26 : m_okn y14.1 a0 8 0 := by rw [ey14]; exact G24
  have G27 : m_okn y14.1 (h + 200) 17 2 := by rw [ey14]; exact G25
  have sy14 : y14.2.2 = h + 201 := by rw [ey14]; exact sy13
  have r4 : y14.2.1.2.2 a0 4 = some (h + 200) := by rw [ey14]; simp [m_do, m_pR]
  refine n_aload_n (q := 57) C 0 dX8_init_56 rfl rfl ?_
  refine n_iconst (q := 58) (v := 2) C dX8_init_57 (by decide) rfl ?_
  obtain ⟨y15, ey15⟩ : ∃ q, q = m_do y14 (o_n 13 2) := ⟨_, rfl⟩
  refine n_na13 (q := 60) C (by decide) rfl (Nat.le_of_ble_eq_true rfl) ⟨Nat.le_of_ble_eq_true rfl, Nat.le_of_ble_eq_true rfl⟩ ey15 sy14 dX8_init_58 rfl ?_
  have G28 : m_okn y15.1 a0 8 0 := by rw [ey15]; exact (m_do_ok _ G26 (by rw [sy14]; exact (Nat.lt_of_lt_of_le h0 (Nat.le_add_right h 201)))).1
  have G29 : m_okn y15.1 (h + 200) 17 2 := by rw [ey15]; exact (m_do_ok _ G27 (by rw [sy14]; exact (Nat.add_lt_add_left (Nat.le_of_ble_eq_true rfl : 200 < 201) h))).1
  have G30 : m_okn y15.1 (h + 201) 13 2 := by rw [ey15, ← sy14]; exact m_do_new _ _ _
  have r4 : y15.2.1.2.2 a0 4 = some (h + 200) := by rw [ey15]; exact (m_rn_R [o_n 13 2] (by rw [sy14]; exact (Nat.lt_of_lt_of_le h0 (Nat.le_add_right h 201))) (by simp [m_tg])).trans r4
  have sy15 : y15.2.2 = h + 202 := by rw [ey15]; show y14.2.2 + 1 = _; rw [sy14]
  obtain ⟨y16, ey16⟩ : ∃ q, q = m_do y15 (o_R a0 5 (some (h + 201))) := ⟨_, rfl⟩
  refine n_putF (q := 63) (y' := y16) C tyX8 (ci := 8) (f := 5) rfl (by decide) uX8 tyX8_ok nmX8 (by decide) w_196 rfl rfl hini rfl (tyX8_ok 5 (by decide)) rfl rfl (Nat.le_of_ble_eq_true rfl) (by rw [ey16]; simp [m_fs, m_do, m_pR, va_rf]) (fun cy b hb => by rw [ey16]; exact m_cR b hb) dX8_init_60 G28.1 (by rw [ey16]; rfl) (by rw [ey16]; rfl) rfl ?_
  have G31 : m_okn y16.1 a0 8 0 := by rw [ey16]; exact G28
  have G32 : m_okn y16.1 (h + 200) 17 2 := by rw [ey16]; exact G29
  have G33 : m_okn y16.1 (h + 201) 13 2 := by rw [ey16]; exact G30
  have sy16 : y16.2.2 = h + 202 := by rw [ey16]; exact sy15
  have r4 : y16.2.1.2.2 a0 4 = some (h + 200) := by rw [ey16]; simpa [m_do, m_pI, m_pJ, m_pR] using r4
  refine n_aload_n (q := 64) C 0 dX8_init_63 rfl rfl ?_
  obtain ⟨y17, ey17⟩ : ∃ q, q = m_do y16 (o_n 4 0) := ⟨_, rfl⟩
  refine n_new (q := 67) C tyX4 (ci := 4) rfl (by decide) uX4 tyX4_ok w_188 w_143 w_9 f_n4 ⟨Nat.le_of_ble_eq_true rfl, Nat.le_of_ble_eq_true rfl⟩ ey17 sy16 dX8_init_64 rfl ?_
  have G34 : m_okn y17.1 a0 8 0 := by rw [ey17]; exact (m_do_ok _ G31 (by rw [sy16]; exact (Nat.lt_of_lt_of_le h0 (Nat.le_add_right h 202)))).1
  have G35 : m_okn y17.1 (h + 200) 17 2 := by rw [ey17]; exact (m_do_ok _ G32 (by rw [sy16]; exact (Nat.add_lt_add_left (Nat.le_of_ble_eq_true rfl : 200 < 202) h))).1
  have G36 : m_okn y17.1 (h + 202) 4 0 := by rw [ey17, ← sy16]; exact m_do_new _ _ _
  have r4 : y17.2.1.2.2 a0 4 = some (h + 200) := by rw [ey17]; exact (m_rn_R [o_n 4 0] (by rw [sy16]; exact (Nat.lt_of_lt_of_le h0 (Nat.le_add_right h 202))) (by simp [m_tg])).trans r4
  have sy17 : y17.2.2 = h + 203 := by rw [ey17]; show y16.2.2 + 1 = _; rw [sy16]
  refine n_dup (q := 68) C dX8_init_67 rfl rfl ?_
  obtain ⟨y18, ey18⟩ : ∃ q, q = m_rn y17 (ops_X4 (h + 202) (h + 203)) := ⟨_, rfl⟩
  refine n_callN (q := 71) C (c_X4_init hl G36 (Nat.add_lt_add_left (Nat.le_of_ble_eq_true rfl : 202 < 203) h) sy17) (List.mem_of_getElem? (i := 5) rfl) w_144 w_9 w_145 rfl hd_X4_init rfl rfl (by decide) (Nat.le_of_ble_eq_true rfl) ⟨Nat.le_of_ble_eq_true rfl, Nat.le_of_ble_eq_true rfl⟩ dX8_init_68 rfl (fun h9 => by cases h9) (fun z hz => ?_)
  cases hz
  have sy18 : y18.2.2 = h + 203 := by rw [ey18, m_rn_sz, sy17, ct_X4]
  rw [show ((m_rn y17 (ops_X4 (h + 202) (h + 203))).1, (m_rn y17 (ops_X4 (h + 202) (h + 203))).2.1, (h + 203) + 0) = y18 from by rw [← ey18]; show (y18.1, y18.2.1, _) = (y18.1, y18.2.1, y18.2.2); rw [sy18]]
  have G37 : m_okn y18.1 a0 8 0 := by rw [ey18]; exact m_rn_ok _ G34 (by rw [sy17]; exact (Nat.lt_of_lt_of_le h0 (Nat.le_add_right h 203)))
  have G38 : m_okn y18.1 (h + 200) 17 2 := by rw [ey18]; exact m_rn_ok _ G35 (by rw [sy17]; exact (Nat.add_lt_add_left (Nat.le_of_ble_eq_true rfl : 200 < 203) h))
  have G39 : m_okn y18.1 (h + 202) 4 0 := by rw [ey18]; exact m_rn_ok _ G36 (by rw [sy17]; exact (Nat.add_lt_add_left (Nat.le_of_ble_eq_true rfl : 202 < 203) h))
  have r4 : y18.2.1.2.2 a0 4 = some (h + 200) := by rw [ey18]; exact (m_rn_R _ (by rw [sy17]; exact (Nat.lt_of_lt_of_le h0 (Nat.le_add_right h 203))) (fun o ho => tg_X4 ho (Nat.ne_of_lt (Nat.lt_of_lt_of_le h0 (Nat.le_add_right h 202))) (Nat.lt_of_lt_of_le h0 (Nat.le_add_right h 203)))).trans r4
  show m_N x y18 2 203 2085 71 _ _
  obtain ⟨y19, ey19⟩ : ∃ q, q = m_do y18 (o_R a0 6 (some (h + 202))) := ⟨_, rfl⟩
  refine n_putF (q := 74) (y' := y19) C tyX8 (ci := 8) (f := 6) rfl (by decide) uX8 tyX8_ok nmX8 (by decide) w_197 rfl rfl hini rfl (tyX8_ok 6 (by decide)) rfl rfl (Nat.le_of_ble_eq_true rfl) (by rw [ey19]; simp [m_fs, m_do, m_pR, va_rf]) (fun cy b hb => by rw [ey19]; exact m_cR b hb) dX8_init_71 G37.1 (by rw [ey19]; rfl) (by rw [ey19]; rfl) rfl ?_
  have G40 : m_okn y19.1 a0 8 0 := by rw [ey19]; exact G37
  have G41 : m_okn y19.1 (h + 200) 17 2 := by rw [ey19]; exact G38
  have G42 : m_okn y19.1 (h + 202) 4 0 := by rw [ey19]; exact G39
  have sy19 : y19.2.2 = h + 203 := by rw [ey19]; exact sy18
  have r4 : y19.2.1.2.2 a0 4 = some (h + 200) := by rw [ey19]; simpa [m_do, m_pI, m_pJ, m_pR] using r4
  refine n_aload_n (q := 75) C 0 dX8_init_74 rfl rfl ?_
  obtain ⟨y20, ey20⟩ : ∃ q, q = m_do y19 (o_n 7 0) := ⟨_, rfl⟩
  refine n_new (q := 78) C tyX7 (ci := 7) rfl (by decide) uX7 tyX7_ok w_189 w_82 w_6 f_n7 ⟨Nat.le_of_ble_eq_true rfl, Nat.le_of_ble_eq_true rfl⟩ ey20 sy19 dX8_init_75 rfl ?_
  have G43 : m_okn y20.1 a0 8 0 := by rw [ey20]; exact (m_do_ok _ G40 (by rw [sy19]; exact (Nat.lt_of_lt_of_le h0 (Nat.le_add_right h 203)))).1
  have G44 : m_okn y20.1 (h + 200) 17 2 := by rw [ey20]; exact (m_do_ok _ G41 (by rw [sy19]; exact (Nat.add_lt_add_left (Nat.le_of_ble_eq_true rfl : 200 < 203) h))).1
  have G45 : m_okn y20.1 (h + 203) 7 0 := by rw [ey20, ← sy19]; exact m_do_new _ _ _
  have r4 : y20.2.1.2.2 a0 4 = some (h + 200) := by rw [ey20]; exact (m_rn_R [o_n 7 0] (by rw [sy19]; exact (Nat.lt_of_lt_of_le h0 (Nat.le_add_right h 203))) (by simp [m_tg])).trans r4
  have sy20 : y20.2.2 = h + 204 := by rw [ey20]; show y19.2.2 + 1 = _; rw [sy19]
  refine n_dup (q := 79) C dX8_init_78 rfl rfl ?_
  obtain ⟨y21, ey21⟩ : ∃ q, q = m_rn y20 (ops_X7 (h + 203) (h + 204)) := ⟨_, rfl⟩
  refine n_callI (q := 82) C (c_X7_init hl G45 (Nat.add_lt_add_left (Nat.le_of_ble_eq_true rfl : 203 < 204) h) sy20) w_190 w_84 w_6 w_85 rfl hd_X7_init rfl rfl (by decide) (Nat.le_of_ble_eq_true rfl) ⟨Nat.le_of_ble_eq_true rfl, Nat.le_of_ble_eq_true rfl⟩ dX8_init_79 rfl (fun h9 => by cases h9) (fun z hz => ?_)
  cases hz
  have sy21 : y21.2.2 = h + 211 := by rw [ey21, m_rn_sz, sy20, ct_X7]
  rw [show ((m_rn y20 (ops_X7 (h + 203) (h + 204))).1, (m_rn y20 (ops_X7 (h + 203) (h + 204))).2.1, (h + 204) + 7) = y21 from by rw [← ey21]; show (y21.1, y21.2.1, _) = (y21.1, y21.2.1, y21.2.2); rw [sy21]]
  have G46 : m_okn y21.1 a0 8 0 := by rw [ey21]; exact m_rn_ok _ G43 (by rw [sy20]; exact (Nat.lt_of_lt_of_le h0 (Nat.le_add_right h 204)))
  have G47 : m_okn y21.1 (h + 200) 17 2 := by rw [ey21]; exact m_rn_ok _ G44 (by rw [sy20]; exact (Nat.add_lt_add_left (Nat.le_of_ble_eq_true rfl : 200 < 204) h))
  have G48 : m_okn y21.1 (h + 203) 7 0 := by rw [ey21]; exact m_rn_ok _ G45 (by rw [sy20]; exact (Nat.add_lt_add_left (Nat.le_of_ble_eq_true rfl : 203 < 204) h))
  have r4 : y21.2.1.2.2 a0 4 = some (h + 200) := by rw [ey21]; exact (m_rn_R _ (by rw [sy20]; exact (Nat.lt_of_lt_of_le h0 (Nat.le_add_right h 204))) (fun o ho => tg_X7 ho (Nat.ne_of_lt (Nat.lt_of_lt_of_le h0 (Nat.le_add_right h 203))) (Nat.lt_of_lt_of_le h0 (Nat.le_add_right h 204)))).trans r4
  show m_N x y21 2 211 2122 82 _ _
  obtain ⟨y22, ey22⟩ : ∃ q, q = m_do y21 (o_R a0 7 (some (h + 203))) := ⟨_, rfl⟩
  refine n_putF (q := 85) (y' := y22) C tyX8 (ci := 8) (f := 7) rfl (by decide) uX8 tyX8_ok nmX8 (by decide) w_198 rfl rfl hini rfl (tyX8_ok 7 (by decide)) rfl rfl (Nat.le_of_ble_eq_true rfl) (by rw [ey22]; simp [m_fs, m_do, m_pR, va_rf]) (fun cy b hb => by rw [ey22]; exact m_cR b hb) dX8_init_82 G46.1 (by rw [ey22]; rfl) (by rw [ey22]; rfl) rfl ?_
  have G49 : m_okn y22.1 a0 8 0 := by rw [ey22]; exact G46
  have G50 : m_okn y22.1 (h + 200) 17 2 := by rw [ey22]; exact G47
  have G51 : m_okn y22.1 (h + 203) 7 0 := by rw [ey22]; exact G48
  have sy22 : y22.2.2 = h + 211 := by rw [ey22]; exact sy21
  have r4 : y22.2.1.2.2 a0 4 = some (h + 200) := by rw [ey22]; simpa [m_do, m_pI, m_pJ, m_pR] using r4
  refine n_aload_n (q := 86) C 0 dX8_init_85 rfl rfl ?_
  refine n_bipush (q := 88) (v := 72) C dX8_init_86 (by decide) rfl ?_
  obtain ⟨y23, ey23⟩ : ∃ q, q = m_do y22 (o_n 11 72) := ⟨_, rfl⟩
  refine n_na11 (q := 90) C (by decide) rfl (Nat.le_of_ble_eq_true rfl) ⟨Nat.le_of_ble_eq_true rfl, Nat.le_of_ble_eq_true rfl⟩ ey23 sy22 dX8_init_88 rfl ?_
  have G52 : m_okn y23.1 a0 8 0 := by rw [ey23]; exact (m_do_ok _ G49 (by rw [sy22]; exact (Nat.lt_of_lt_of_le h0 (Nat.le_add_right h 211)))).1
  have G53 : m_okn y23.1 (h + 200) 17 2 := by rw [ey23]; exact (m_do_ok _ G50 (by rw [sy22]; exact (Nat.add_lt_add_left (Nat.le_of_ble_eq_true rfl : 200 < 211) h))).1
  have G54 : m_okn y23.1 (h + 211) 11 72 := by rw [ey23, ← sy22]; exact m_do_new _ _ _
  have r4 : y23.2.1.2.2 a0 4 = some (h + 200) := by rw [ey23]; exact (m_rn_R [o_n 11 72] (by rw [sy22]; exact (Nat.lt_of_lt_of_le h0 (Nat.le_add_right h 211))) (by simp [m_tg])).trans r4
  have sy23 : y23.2.2 = h + 212 := by rw [ey23]; show y22.2.2 + 1 = _; rw [sy22]
  obtain ⟨y24, ey24⟩ : ∃ q, q = m_do y23 (o_R a0 8 (some (h + 211))) := ⟨_, rfl⟩
  refine n_putF (q := 93) (y' := y24) C tyX8 (ci := 8) (f := 8) rfl (by decide) uX8 tyX8_ok nmX8 (by decide) w_199 rfl rfl hini rfl (tyX8_ok 8 (by decide)) rfl rfl (Nat.le_of_ble_eq_true rfl) (by rw [ey24]; simp [m_fs, m_do, m_pR, va_rf]) (fun cy b hb => by rw [ey24]; exact m_cR b hb) dX8_init_90 G52.1 (by rw [ey24]; rfl) (by rw [ey24]; rfl) rfl ?_
  have G55 : m_okn y24.1 a0 8 0 := by rw [ey24]; exact G52
  have G56 : m_okn y24.1 (h + 200) 17 2 := by rw [ey24]; exact G53
  have G57 : m_okn y24.1 (h + 211) 11 72 := by rw [ey24]; exact G54
  have sy24 : y24.2.2 = h + 212 := by rw [ey24]; exact sy23
  have r4 : y24.2.1.2.2 a0 4 = some (h + 200) := by rw [ey24]; simpa [m_do, m_pI, m_pJ, m_pR] using r4
  refine n_iconst (q := 94) (v := 0) C dX8_init_93 (by decide) rfl ?_
  refine n_istore_n (q := 95) C dX8_init_94 rfl (L' := [(1, .int 0), (0, .ref a0)]) rfl (by decide) rfl ?_
  refine n_iload_n (q := 96) C 0 dX8_init_95 rfl rfl ?_
  refine n_aload_n (q := 97) C 1 dX8_init_96 rfl rfl ?_
  refine n_get (q := 100) (v := .ref (h + 200)) C (ci := 8) (f := 4) rfl (by decide) uX8 (by decide) w_195 rfl (by simp [m_fs, r4, va_rf]) dX8_init_97 G55.1 rfl ?_
  refine n_alen 17 7 (q := 101) C dX8_init_100 G56.1 (by decide) rfl rfl ?_
  rw [G56.2]
  show m_N x y24 2 212 2194 101 _ (.int 2 :: _)
  refine n_icmp_ge (t := 123) (q := 104) C dX8_init_101 (by decide) rfl (fun h9 => absurd h9 (by decide)) (fun _ => ?_)
  refine n_aload_n (q := 105) C 1 dX8_init_104 rfl rfl ?_
  refine n_get (q := 108) (v := .ref (h + 200)) C (ci := 8) (f := 4) rfl (by decide) uX8 (by decide) w_195 rfl (by simp [m_fs, r4, va_rf]) dX8_init_105 G55.1 rfl ?_
  refine n_iload_n (q := 109) C 0 dX8_init_108 rfl rfl ?_
  obtain ⟨y25, ey25⟩ : ∃ q, q = m_do y24 (o_n 6 0) := ⟨_, rfl⟩
  refine n_new (q := 112) C tyX6 (ci := 6) rfl (by decide) uX6 tyX6_ok w_136 w_137 w_8 f_n6 ⟨Nat.le_of_ble_eq_true rfl, Nat.le_of_ble_eq_true rfl⟩ ey25 sy24 dX8_init_109 rfl ?_
  have G58 : m_okn y25.1 a0 8 0 := by rw [ey25]; exact (m_do_ok _ G55 (by rw [sy24]; exact (Nat.lt_of_lt_of_le h0 (Nat.le_add_right h 212)))).1
  have G59 : m_okn y25.1 (h + 200) 17 2 := by rw [ey25]; exact (m_do_ok _ G56 (by rw [sy24]; exact (Nat.add_lt_add_left (Nat.le_of_ble_eq_true rfl : 200 < 212) h))).1
  have G60 : m_okn y25.1 (h + 212) 6 0 := by rw [ey25, ← sy24]; exact m_do_new _ _ _
  have r4 : y25.2.1.2.2 a0 4 = some (h + 200) := by rw [ey25]; exact (m_rn_R [o_n 6 0] (by rw [sy24]; exact (Nat.lt_of_lt_of_le h0 (Nat.le_add_right h 212))) (by simp [m_tg])).trans r4
  have sy25 : y25.2.2 = h + 213 := by rw [ey25]; show y24.2.2 + 1 = _; rw [sy24]
  refine n_dup (q := 113) C dX8_init_112 rfl rfl ?_
  obtain ⟨y26, ey26⟩ : ∃ q, q = m_rn y25 (ops_X6 (h + 212) (h + 213)) := ⟨_, rfl⟩
  refine n_callI (q := 116) C (c_X6_init hl G60 (Nat.add_lt_add_left (Nat.le_of_ble_eq_true rfl : 212 < 213) h) sy25) w_138 w_139 w_8 w_140 rfl hd_X6_init rfl rfl (by decide) (Nat.le_of_ble_eq_true rfl) ⟨Nat.le_of_ble_eq_true rfl, Nat.le_of_ble_eq_true rfl⟩ dX8_init_113 rfl (fun h9 => by cases h9) (fun z hz => ?_)
  cases hz
  have sy26 : y26.2.2 = h + 276 := by rw [ey26, m_rn_sz, sy25, ct_X6]
  rw [show ((m_rn y25 (ops_X6 (h + 212) (h + 213))).1, (m_rn y25 (ops_X6 (h + 212) (h + 213))).2.1, (h + 213) + 63) = y26 from by rw [← ey26]; show (y26.1, y26.2.1, _) = (y26.1, y26.2.1, y26.2.2); rw [sy26]]
  have G61 : m_okn y26.1 a0 8 0 := by rw [ey26]; exact m_rn_ok _ G58 (by rw [sy25]; exact (Nat.lt_of_lt_of_le h0 (Nat.le_add_right h 213)))
  have G62 : m_okn y26.1 (h + 200) 17 2 := by rw [ey26]; exact m_rn_ok _ G59 (by rw [sy25]; exact (Nat.add_lt_add_left (Nat.le_of_ble_eq_true rfl : 200 < 213) h))
  have G63 : m_okn y26.1 (h + 212) 6 0 := by rw [ey26]; exact m_rn_ok _ G60 (by rw [sy25]; exact (Nat.add_lt_add_left (Nat.le_of_ble_eq_true rfl : 212 < 213) h))
  have r4 : y26.2.1.2.2 a0 4 = some (h + 200) := by rw [ey26]; exact (m_rn_R _ (by rw [sy25]; exact (Nat.lt_of_lt_of_le h0 (Nat.le_add_right h 213))) (fun o ho => tg_X6 ho (Nat.ne_of_lt (Nat.lt_of_lt_of_le h0 (Nat.le_add_right h 212))) (Nat.lt_of_lt_of_le h0 (Nat.le_add_right h 213)))).trans r4
  show m_N x y26 2 276 2634 116 _ _
  obtain ⟨y27, ey27⟩ : ∃ q, q = m_do y26 (o_R (h + 200) 0 (some (h + 212))) := ⟨_, rfl⟩
  refine n_aast17 (q := 117) C ⟨G62.1, by rw [G62.2]; decide⟩ G63.1 rfl ey27 dX8_init_116 rfl ?_
  have G64 : m_okn y27.1 a0 8 0 := by rw [ey27]; exact G61
  have G65 : m_okn y27.1 (h + 200) 17 2 := by rw [ey27]; exact G62
  have G66 : m_okn y27.1 (h + 212) 6 0 := by rw [ey27]; exact G63
  have sy27 : y27.2.2 = h + 276 := by rw [ey27]; exact sy26
  have r4 : y27.2.1.2.2 a0 4 = some (h + 200) := by rw [ey27]; exact (m_rn_R [o_R (h + 200) 0 (some (h + 212))] (by rw [sy26]; exact (Nat.lt_of_lt_of_le h0 (Nat.le_add_right h 276))) (fun o ho h9 => by rw [List.mem_singleton.mp ho] at h9; exact (Nat.ne_of_lt (Nat.lt_of_lt_of_le h0 (Nat.le_add_right h 200))) (Option.some.inj h9).symm)).trans r4
  refine n_iinc (q := 120) C 0 dX8_init_117 rfl (v := 1) (by decide) (L' := [(1, .int 1), (0, .ref a0)]) rfl (by decide) rfl ?_
  refine n_goto (t := 95) C dX8_init_120 (by decide) ?_
  refine n_iload_n (q := 96) C 0 dX8_init_95 rfl rfl ?_
  refine n_aload_n (q := 97) C 1 dX8_init_96 rfl rfl ?_
  refine n_get (q := 100) (v := .ref (h + 200)) C (ci := 8) (f := 4) rfl (by decide) uX8 (by decide) w_195 rfl (by simp [m_fs, r4, va_rf]) dX8_init_97 G64.1 rfl ?_
  refine n_alen 17 7 (q := 101) C dX8_init_100 G65.1 (by decide) rfl rfl ?_
  rw [G65.2]
  show m_N x y27 2 276 2634 101 _ (.int 2 :: _)
  refine n_icmp_ge (t := 123) (q := 104) C dX8_init_101 (by decide) rfl (fun h9 => absurd h9 (by decide)) (fun _ => ?_)
  refine n_aload_n (q := 105) C 1 dX8_init_104 rfl rfl ?_
  refine n_get (q := 108) (v := .ref (h + 200)) C (ci := 8) (f := 4) rfl (by decide) uX8 (by decide) w_195 rfl (by simp [m_fs, r4, va_rf]) dX8_init_105 G64.1 rfl ?_
  refine n_iload_n (q := 109) C 0 dX8_init_108 rfl rfl ?_
  obtain ⟨y28, ey28⟩ : ∃ q, q = m_do y27 (o_n 6 0) := ⟨_, rfl⟩
  refine n_new (q := 112) C tyX6 (ci := 6) rfl (by decide) uX6 tyX6_ok w_136 w_137 w_8 f_n6 ⟨Nat.le_of_ble_eq_true rfl, Nat.le_of_ble_eq_true rfl⟩ ey28 sy27 dX8_init_109 rfl ?_
  have G67 : m_okn y28.1 a0 8 0 := by rw [ey28]; exact (m_do_ok _ G64 (by rw [sy27]; exact (Nat.lt_of_lt_of_le h0 (Nat.le_add_right h 276)))).1
  have G68 : m_okn y28.1 (h + 200) 17 2 := by rw [ey28]; exact (m_do_ok _ G65 (by rw [sy27]; exact (Nat.add_lt_add_left (Nat.le_of_ble_eq_true rfl : 200 < 276) h))).1
  have G69 : m_okn y28.1 (h + 276) 6 0 := by rw [ey28, ← sy27]; exact m_do_new _ _ _
  have r4 : y28.2.1.2.2 a0 4 = some (h + 200) := by rw [ey28]; exact (m_rn_R [o_n 6 0] (by rw [sy27]; exact (Nat.lt_of_lt_of_le h0 (Nat.le_add_right h 276))) (by simp [m_tg])).trans r4
  have sy28 : y28.2.2 = h + 277 := by rw [ey28]; show y27.2.2 + 1 = _; rw [sy27]
  refine n_dup (q := 113) C dX8_init_112 rfl rfl ?_
  obtain ⟨y29, ey29⟩ : ∃ q, q = m_rn y28 (ops_X6 (h + 276) (h + 277)) := ⟨_, rfl⟩
  refine n_callI (q := 116) C (c_X6_init hl G69 (Nat.add_lt_add_left (Nat.le_of_ble_eq_true rfl : 276 < 277) h) sy28) w_138 w_139 w_8 w_140 rfl hd_X6_init rfl rfl (by decide) (Nat.le_of_ble_eq_true rfl) ⟨Nat.le_of_ble_eq_true rfl, Nat.le_of_ble_eq_true rfl⟩ dX8_init_113 rfl (fun h9 => by cases h9) (fun z hz => ?_)
  cases hz
  have sy29 : y29.2.2 = h + 340 := by rw [ey29, m_rn_sz, sy28, ct_X6]
  rw [show ((m_rn y28 (ops_X6 (h + 276) (h + 277))).1, (m_rn y28 (ops_X6 (h + 276) (h + 277))).2.1, (h + 277) + 63) = y29 from by rw [← ey29]; show (y29.1, y29.2.1, _) = (y29.1, y29.2.1, y29.2.2); rw [sy29]]
  have G70 : m_okn y29.1 a0 8 0 := by rw [ey29]; exact m_rn_ok _ G67 (by rw [sy28]; exact (Nat.lt_of_lt_of_le h0 (Nat.le_add_right h 277)))
  have G71 : m_okn y29.1 (h + 200) 17 2 := by rw [ey29]; exact m_rn_ok _ G68 (by rw [sy28]; exact (Nat.add_lt_add_left (Nat.le_of_ble_eq_true rfl : 200 < 277) h))
  have G72 : m_okn y29.1 (h + 276) 6 0 := by rw [ey29]; exact m_rn_ok _ G69 (by rw [sy28]; exact (Nat.add_lt_add_left (Nat.le_of_ble_eq_true rfl : 276 < 277) h))
  have r4 : y29.2.1.2.2 a0 4 = some (h + 200) := by rw [ey29]; exact (m_rn_R _ (by rw [sy28]; exact (Nat.lt_of_lt_of_le h0 (Nat.le_add_right h 277))) (fun o ho => tg_X6 ho (Nat.ne_of_lt (Nat.lt_of_lt_of_le h0 (Nat.le_add_right h 276))) (Nat.lt_of_lt_of_le h0 (Nat.le_add_right h 277)))).trans r4
  show m_N x y29 2 340 3074 116 _ _
  obtain ⟨y30, ey30⟩ : ∃ q, q = m_do y29 (o_R (h + 200) 1 (some (h + 276))) := ⟨_, rfl⟩
  refine n_aast17 (q := 117) C ⟨G71.1, by rw [G71.2]; decide⟩ G72.1 rfl ey30 dX8_init_116 rfl ?_
  have G73 : m_okn y30.1 a0 8 0 := by rw [ey30]; exact G70
  have G74 : m_okn y30.1 (h + 200) 17 2 := by rw [ey30]; exact G71
  have G75 : m_okn y30.1 (h + 276) 6 0 := by rw [ey30]; exact G72
  have sy30 : y30.2.2 = h + 340 := by rw [ey30]; exact sy29
  have r4 : y30.2.1.2.2 a0 4 = some (h + 200) := by rw [ey30]; exact (m_rn_R [o_R (h + 200) 1 (some (h + 276))] (by rw [sy29]; exact (Nat.lt_of_lt_of_le h0 (Nat.le_add_right h 340))) (fun o ho h9 => by rw [List.mem_singleton.mp ho] at h9; exact (Nat.ne_of_lt (Nat.lt_of_lt_of_le h0 (Nat.le_add_right h 200))) (Option.some.inj h9).symm)).trans r4
  refine n_iinc (q := 120) C 0 dX8_init_117 rfl (v := 2) (by decide) (L' := [(1, .int 2), (0, .ref a0)]) rfl (by decide) rfl ?_
  refine n_goto (t := 95) C dX8_init_120 (by decide) ?_
  refine n_iload_n (q := 96) C 0 dX8_init_95 rfl rfl ?_
  refine n_aload_n (q := 97) C 1 dX8_init_96 rfl rfl ?_
  refine n_get (q := 100) (v := .ref (h + 200)) C (ci := 8) (f := 4) rfl (by decide) uX8 (by decide) w_195 rfl (by simp [m_fs, r4, va_rf]) dX8_init_97 G73.1 rfl ?_
  refine n_alen 17 7 (q := 101) C dX8_init_100 G74.1 (by decide) rfl rfl ?_
  rw [G74.2]
  show m_N x y30 2 340 3074 101 _ (.int 2 :: _)
  refine n_icmp_ge (t := 123) (q := 104) C dX8_init_101 (by decide) rfl (fun _ => ?_) (fun h9 => absurd (show (2 : Int32) ≤ 2 by decide) h9)
  have ey : y30 = m_rn y0 (ops_X8 a0 h) := by rw [ey30, ey29, ey28, ey27, ey26, ey25, ey24, ey23, ey22, ey21, ey20, ey19, ey18, ey17, ey16, ey15, ey14, ey13, ey12, ey11, ey10, ey9, ey8, ey7, ey6, ey5, ey4, ey3, ey2, ey1]; simp only [ops_X8, m_rn, List.foldl_append, List.foldl_cons, List.foldl_nil]
  exact n_vret C F (by rw [ey]) (by rw [ey]) (fun n hn => by cases hn; exact sy30) dX8_init_123

def ops_X9 (a0 h : Nat) : List m_O := [o_n 11 116, o_R a0 1 (some h), o_n 11 116, o_R a0 2 (some (h + 1)), o_n 11 340, o_R a0 3 (some (h + 2)), o_n 11 340, o_R a0 4 (some (h + 3)), o_n 11 680, o_R a0 5 (some (h + 4)), o_n 11 340, o_R a0 6 (some (h + 5)), o_n 12 30, o_R a0 7 (some (h + 6)), o_n 12 30, o_R a0 8 (some (h + 7)), o_n 12 60, o_R a0 9 (some (h + 8)), o_n 13 2, o_R a0 10 (some (h + 9)), o_n 11 900, o_R a0 11 (some (h + 10)), o_I a0 19 (-1), o_n 12 4, o_R a0 21 (some (h + 11)), o_n 12 6, o_R a0 22 (some (h + 12))]
theorem ct_X9 {a0 h : Nat} : m_ct (ops_X9 a0 h) = 13 := by simp only [ops_X9, m_ct_app, m_ct]
theorem tg_X9 {a0 h a : Nat} {o : m_O} (ho : o ∈ ops_X9 a0 h) (h1 : a ≠ a0) (h2 : a < h) : m_tg o ≠ some a := by
  simp only [ops_X9, List.mem_cons, List.not_mem_nil, or_false] at ho
  rcases ho with rfl | rfl | rfl | rfl | rfl | rfl | rfl | rfl | rfl | rfl | rfl | rfl | rfl | rfl | rfl | rfl | rfl | rfl | rfl | rfl | rfl | rfl | rfl | rfl | rfl | rfl | rfl <;> simp [m_tg] <;> omega
abbrev rm_X9_init : Room := { frames := 4, cells := 13, slots := 2964, locals := 93 }
theorem hd_X9_init : yX9_init.cls ≠ "java/lang/invoke/MethodHandle" ∧ yX9_init.cls ≠ "java/lang/invoke/VarHandle" ∧ (parseMethodDescriptor yX9_init.desc).map (fun d => d.parameters.length) = some 0 := by decide +kernel
theorem f_n9 (S : m_S) (a : Nat) : ∀ j, j < 26 → defaultValue (tyX9 j) = vp_V (m_fs 9 (m_zr S a) a) j := by
  intro j hj
  iterate 26 (rcases j with _ | j; · simp [tyX9, m_fs, m_zr, vp_V, va_rf, defaultValue])
  omega
set_option maxHeartbeats 4000000 in
set_option maxRecDepth 100000 in
theorem c_X9_init {l : Launch} (hl : l.stackTraces = false) {y0 : m_Y} {a0 h : Nat} (g0 : m_okn y0.1 a0 9 0) (h0 : a0 < h) (s0 : y0.2.2 = h) {S1 S2 : m_S} (hp : f_X9_plain (m_rn y0 (ops_X9 a0 h)).1 (m_rn y0 (ops_X9 a0 h)).2.1 a0 = some ((), S1)) (ht : f_X9_takes (m_rn y0 (ops_X9 a0 h)).1 S1 a0 = some ((), S2)) : m_CI l yX9_init (.code yX9_init cX9_init 1 none :: m_ws) rm_X9_init 13 2964 [.ref a0] y0 (m_rn y0 (ops_X9 a0 h)).1 S2 none := by
  refine m_entI hl (by decide) (Nat.le_of_ble_eq_true rfl) (fun x C F hini => ?_)
  have C : m_H x l RX9 cX9_init 1 rm_X9_init := C
  show m_N x y0 1 0 0 0 [(0, .ref a0)] []
  refine n_aload_n (q := 1) C 0 dX9_init_0 rfl rfl ?_
  refine n_obj (q := 4) C w_930 (by decide) (by decide) dX9_init_1 rfl ?_
  refine n_aload_n (q := 5) C 0 dX9_init_4 rfl rfl ?_
  refine n_bipush (q := 7) (v := 116) C dX9_init_5 (by decide) rfl ?_
  obtain ⟨y1, ey1⟩ : ∃ q, q = m_do y0 (o_n 11 116) := ⟨_, rfl⟩
  refine n_na11 (q := 9) C (by decide) rfl (Nat.le_of_ble_eq_true rfl) ⟨Nat.le_of_ble_eq_true rfl, Nat.le_of_ble_eq_true rfl⟩ ey1 s0 dX9_init_7 rfl ?_
  have G0 : m_okn y1.1 a0 9 0 := by rw [ey1]; exact (m_do_ok _ g0 (by rw [s0]; exact h0)).1
  have G1 : m_okn y1.1 (h) 11 116 := by rw [ey1, ← s0]; exact m_do_new _ _ _
  have sy1 : y1.2.2 = h + 1 := by rw [ey1]; show y0.2.2 + 1 = _; rw [s0]
  obtain ⟨y2, ey2⟩ : ∃ q, q = m_do y1 (o_R a0 1 (some h)) := ⟨_, rfl⟩
  refine n_putF (q := 12) (y' := y2) C tyX9 (ci := 9) (f := 1) rfl (by decide) uX9 tyX9_ok nmX9 (by decide) w_965 rfl rfl hini rfl (tyX9_ok 1 (by decide)) rfl rfl (Nat.le_of_ble_eq_true rfl) (by rw [ey2]; simp [m_fs, m_do, m_pR, va_rf]) (fun cy b hb => by rw [ey2]; exact m_cR b hb) dX9_init_9 G0.1 (by rw [ey2]; rfl) (by rw [ey2]; rfl) rfl ?_
  have G2 : m_okn y2.1 a0 9 0 := by rw [ey2]; exact G0
  have G3 : m_okn y2.1 h 11 116 := by rw [ey2]; exact G1
  have sy2 : y2.2.2 = h + 1 := by rw [ey2]; exact sy1
  refine n_aload_n (q := 13) C 0 dX9_init_12 rfl rfl ?_
  refine n_bipush (q := 15) (v := 116) C dX9_init_13 (by decide) rfl ?_
  obtain ⟨y3, ey3⟩ : ∃ q, q = m_do y2 (o_n 11 116) := ⟨_, rfl⟩
  refine n_na11 (q := 17) C (by decide) rfl (Nat.le_of_ble_eq_true rfl) ⟨Nat.le_of_ble_eq_true rfl, Nat.le_of_ble_eq_true rfl⟩ ey3 sy2 dX9_init_15 rfl ?_
  have G4 : m_okn y3.1 a0 9 0 := by rw [ey3]; exact (m_do_ok _ G2 (by rw [sy2]; exact (Nat.lt_of_lt_of_le h0 (Nat.le_add_right h 1)))).1
  have G5 : m_okn y3.1 (h + 1) 11 116 := by rw [ey3, ← sy2]; exact m_do_new _ _ _
  have sy3 : y3.2.2 = h + 2 := by rw [ey3]; show y2.2.2 + 1 = _; rw [sy2]
  obtain ⟨y4, ey4⟩ : ∃ q, q = m_do y3 (o_R a0 2 (some (h + 1))) := ⟨_, rfl⟩
  refine n_putF (q := 20) (y' := y4) C tyX9 (ci := 9) (f := 2) rfl (by decide) uX9 tyX9_ok nmX9 (by decide) w_966 rfl rfl hini rfl (tyX9_ok 2 (by decide)) rfl rfl (Nat.le_of_ble_eq_true rfl) (by rw [ey4]; simp [m_fs, m_do, m_pR, va_rf]) (fun cy b hb => by rw [ey4]; exact m_cR b hb) dX9_init_17 G4.1 (by rw [ey4]; rfl) (by rw [ey4]; rfl) rfl ?_
  have G6 : m_okn y4.1 a0 9 0 := by rw [ey4]; exact G4
  have G7 : m_okn y4.1 (h + 1) 11 116 := by rw [ey4]; exact G5
  have sy4 : y4.2.2 = h + 2 := by rw [ey4]; exact sy3
  refine n_aload_n (q := 21) C 0 dX9_init_20 rfl rfl ?_
  refine n_sipush (q := 24) (v := 340) C dX9_init_21 (by decide) rfl ?_
  obtain ⟨y5, ey5⟩ : ∃ q, q = m_do y4 (o_n 11 340) := ⟨_, rfl⟩
  refine n_na11 (q := 26) C (by decide) rfl (Nat.le_of_ble_eq_true rfl) ⟨Nat.le_of_ble_eq_true rfl, Nat.le_of_ble_eq_true rfl⟩ ey5 sy4 dX9_init_24 rfl ?_
  have G8 : m_okn y5.1 a0 9 0 := by rw [ey5]; exact (m_do_ok _ G6 (by rw [sy4]; exact (Nat.lt_of_lt_of_le h0 (Nat.le_add_right h 2)))).1
  have G9 : m_okn y5.1 (h + 2) 11 340 := by rw [ey5, ← sy4]; exact m_do_new _ _ _
  have sy5 : y5.2.2 = h + 3 := by rw [ey5]; show y4.2.2 + 1 = _; rw [sy4]
  obtain ⟨y6, ey6⟩ : ∃ q, q = m_do y5 (o_R a0 3 (some (h + 2))) := ⟨_, rfl⟩
  refine n_putF (q := 29) (y' := y6) C tyX9 (ci := 9) (f := 3) rfl (by decide) uX9 tyX9_ok nmX9 (by decide) w_967 rfl rfl hini rfl (tyX9_ok 3 (by decide)) rfl rfl (Nat.le_of_ble_eq_true rfl) (by rw [ey6]; simp [m_fs, m_do, m_pR, va_rf]) (fun cy b hb => by rw [ey6]; exact m_cR b hb) dX9_init_26 G8.1 (by rw [ey6]; rfl) (by rw [ey6]; rfl) rfl ?_
  have G10 : m_okn y6.1 a0 9 0 := by rw [ey6]; exact G8
  have G11 : m_okn y6.1 (h + 2) 11 340 := by rw [ey6]; exact G9
  have sy6 : y6.2.2 = h + 3 := by rw [ey6]; exact sy5
  refine n_aload_n (q := 30) C 0 dX9_init_29 rfl rfl ?_
  refine n_sipush (q := 33) (v := 340) C dX9_init_30 (by decide) rfl ?_
  obtain ⟨y7, ey7⟩ : ∃ q, q = m_do y6 (o_n 11 340) := ⟨_, rfl⟩
  refine n_na11 (q := 35) C (by decide) rfl (Nat.le_of_ble_eq_true rfl) ⟨Nat.le_of_ble_eq_true rfl, Nat.le_of_ble_eq_true rfl⟩ ey7 sy6 dX9_init_33 rfl ?_
  have G12 : m_okn y7.1 a0 9 0 := by rw [ey7]; exact (m_do_ok _ G10 (by rw [sy6]; exact (Nat.lt_of_lt_of_le h0 (Nat.le_add_right h 3)))).1
  have G13 : m_okn y7.1 (h + 3) 11 340 := by rw [ey7, ← sy6]; exact m_do_new _ _ _
  have sy7 : y7.2.2 = h + 4 := by rw [ey7]; show y6.2.2 + 1 = _; rw [sy6]
  obtain ⟨y8, ey8⟩ : ∃ q, q = m_do y7 (o_R a0 4 (some (h + 3))) := ⟨_, rfl⟩
  refine n_putF (q := 38) (y' := y8) C tyX9 (ci := 9) (f := 4) rfl (by decide) uX9 tyX9_ok nmX9 (by decide) w_968 rfl rfl hini rfl (tyX9_ok 4 (by decide)) rfl rfl (Nat.le_of_ble_eq_true rfl) (by rw [ey8]; simp [m_fs, m_do, m_pR, va_rf]) (fun cy b hb => by rw [ey8]; exact m_cR b hb) dX9_init_35 G12.1 (by rw [ey8]; rfl) (by rw [ey8]; rfl) rfl ?_
  have G14 : m_okn y8.1 a0 9 0 := by rw [ey8]; exact G12
  have G15 : m_okn y8.1 (h + 3) 11 340 := by rw [ey8]; exact G13
  have sy8 : y8.2.2 = h + 4 := by rw [ey8]; exact sy7
  refine n_aload_n (q := 39) C 0 dX9_init_38 rfl rfl ?_
  refine n_sipush (q := 42) (v := 680) C dX9_init_39 (by decide) rfl ?_
  obtain ⟨y9, ey9⟩ : ∃ q, q = m_do y8 (o_n 11 680) := ⟨_, rfl⟩
  refine n_na11 (q := 44) C (by decide) rfl (Nat.le_of_ble_eq_true rfl) ⟨Nat.le_of_ble_eq_true rfl, Nat.le_of_ble_eq_true rfl⟩ ey9 sy8 dX9_init_42 rfl ?_
  have G16 : m_okn y9.1 a0 9 0 := by rw [ey9]; exact (m_do_ok _ G14 (by rw [sy8]; exact (Nat.lt_of_lt_of_le h0 (Nat.le_add_right h 4)))).1
  have G17 : m_okn y9.1 (h + 4) 11 680 := by rw [ey9, ← sy8]; exact m_do_new _ _ _
  have sy9 : y9.2.2 = h + 5 := by rw [ey9]; show y8.2.2 + 1 = _; rw [sy8]
  obtain ⟨y10, ey10⟩ : ∃ q, q = m_do y9 (o_R a0 5 (some (h + 4))) := ⟨_, rfl⟩
  refine n_putF (q := 47) (y' := y10) C tyX9 (ci := 9) (f := 5) rfl (by decide) uX9 tyX9_ok nmX9 (by decide) w_969 rfl rfl hini rfl (tyX9_ok 5 (by decide)) rfl rfl (Nat.le_of_ble_eq_true rfl) (by rw [ey10]; simp [m_fs, m_do, m_pR, va_rf]) (fun cy b hb => by rw [ey10]; exact m_cR b hb) dX9_init_44 G16.1 (by rw [ey10]; rfl) (by rw [ey10]; rfl) rfl ?_
  have G18 : m_okn y10.1 a0 9 0 := by rw [ey10]; exact G16
  have G19 : m_okn y10.1 (h + 4) 11 680 := by rw [ey10]; exact G17
  have sy10 : y10.2.2 = h + 5 := by rw [ey10]; exact sy9
  refine n_aload_n (q := 48) C 0 dX9_init_47 rfl rfl ?_
  refine n_sipush (q := 51) (v := 340) C dX9_init_48 (by decide) rfl ?_
  obtain ⟨y11, ey11⟩ : ∃ q, q = m_do y10 (o_n 11 340) := ⟨_, rfl⟩
  refine n_na11 (q := 53) C (by decide) rfl (Nat.le_of_ble_eq_true rfl) ⟨Nat.le_of_ble_eq_true rfl, Nat.le_of_ble_eq_true rfl⟩ ey11 sy10 dX9_init_51 rfl ?_
  have G20 : m_okn y11.1 a0 9 0 := by rw [ey11]; exact (m_do_ok _ G18 (by rw [sy10]; exact (Nat.lt_of_lt_of_le h0 (Nat.le_add_right h 5)))).1
  have G21 : m_okn y11.1 (h + 5) 11 340 := by rw [ey11, ← sy10]; exact m_do_new _ _ _
  have sy11 : y11.2.2 = h + 6 := by rw [ey11]; show y10.2.2 + 1 = _; rw [sy10]
  obtain ⟨y12, ey12⟩ : ∃ q, q = m_do y11 (o_R a0 6 (some (h + 5))) := ⟨_, rfl⟩
  refine n_putF (q := 56) (y' := y12) C tyX9 (ci := 9) (f := 6) rfl (by decide) uX9 tyX9_ok nmX9 (by decide) w_970 rfl rfl hini rfl (tyX9_ok 6 (by decide)) rfl rfl (Nat.le_of_ble_eq_true rfl) (by rw [ey12]; simp [m_fs, m_do, m_pR, va_rf]) (fun cy b hb => by rw [ey12]; exact m_cR b hb) dX9_init_53 G20.1 (by rw [ey12]; rfl) (by rw [ey12]; rfl) rfl ?_
  have G22 : m_okn y12.1 a0 9 0 := by rw [ey12]; exact G20
  have G23 : m_okn y12.1 (h + 5) 11 340 := by rw [ey12]; exact G21
  have sy12 : y12.2.2 = h + 6 := by rw [ey12]; exact sy11
  refine n_aload_n (q := 57) C 0 dX9_init_56 rfl rfl ?_
  refine n_bipush (q := 59) (v := 30) C dX9_init_57 (by decide) rfl ?_
  obtain ⟨y13, ey13⟩ : ∃ q, q = m_do y12 (o_n 12 30) := ⟨_, rfl⟩
  refine n_na12 (q := 61) C (by decide) rfl (Nat.le_of_ble_eq_true rfl) ⟨Nat.le_of_ble_eq_true rfl, Nat.le_of_ble_eq_true rfl⟩ ey13 sy12 dX9_init_59 rfl ?_
  have G24 : m_okn y13.1 a0 9 0 := by rw [ey13]; exact (m_do_ok _ G22 (by rw [sy12]; exact (Nat.lt_of_lt_of_le h0 (Nat.le_add_right h 6)))).1
  have G25 : m_okn y13.1 (h + 6) 12 30 := by rw [ey13, ← sy12]; exact m_do_new _ _ _
  have sy13 : y13.2.2 = h + 7 := by rw [ey13]; show y12.2.2 + 1 = _; rw [sy12]
  obtain ⟨y14, ey14⟩ : ∃ q, q = m_do y13 (o_R a0 7 (some (h + 6))) := ⟨_, rfl⟩
  refine n_putF (q := 64) (y' := y14) C tyX9 (ci := 9) (f := 7) rfl (by decide) uX9 tyX9_ok nmX9 (by decide) w_971 rfl rfl hini rfl (tyX9_ok 7 (by decide)) rfl rfl (Nat.le_of_ble_eq_true rfl) (by rw [ey14]; simp [m_fs, m_do, m_pR, va_rf]) (fun cy b hb => by rw [ey14]; exact m_cR b hb) dX9_init_61 G24.1 (by rw [ey14]; rfl) (by rw [ey14]; rfl) rfl ?_
  have G26 : m_okn y14.1 a0 9 0 := by rw [ey14]; exact G24
  have G27 : m_okn y14.1 (h + 6) 12 30 := by rw [ey14]; exact G25
  have sy14 : y14.2.2 = h + 7 := by rw [ey14]; exact sy13
  refine n_aload_n (q := 65) C 0 dX9_init_64 rfl rfl ?_
  refine n_bipush (q := 67) (v := 30) C dX9_init_65 (by decide) rfl ?_
  obtain ⟨y15, ey15⟩ : ∃ q, q = m_do y14 (o_n 12 30) := ⟨_, rfl⟩
  refine n_na12 (q := 69) C (by decide) rfl (Nat.le_of_ble_eq_true rfl) ⟨Nat.le_of_ble_eq_true rfl, Nat.le_of_ble_eq_true rfl⟩ ey15 sy14 dX9_init_67 rfl ?_
  have G28 : m_okn y15.1 a0 9 0 := by rw [ey15]; exact (m_do_ok _ G26 (by rw [sy14]; exact (Nat.lt_of_lt_of_le h0 (Nat.le_add_right h 7)))).1
  have G29 : m_okn y15.1 (h + 7) 12 30 := by rw [ey15, ← sy14]; exact m_do_new _ _ _
  have sy15 : y15.2.2 = h + 8 := by rw [ey15]; show y14.2.2 + 1 = _; rw [sy14]
  obtain ⟨y16, ey16⟩ : ∃ q, q = m_do y15 (o_R a0 8 (some (h + 7))) := ⟨_, rfl⟩
  refine n_putF (q := 72) (y' := y16) C tyX9 (ci := 9) (f := 8) rfl (by decide) uX9 tyX9_ok nmX9 (by decide) w_972 rfl rfl hini rfl (tyX9_ok 8 (by decide)) rfl rfl (Nat.le_of_ble_eq_true rfl) (by rw [ey16]; simp [m_fs, m_do, m_pR, va_rf]) (fun cy b hb => by rw [ey16]; exact m_cR b hb) dX9_init_69 G28.1 (by rw [ey16]; rfl) (by rw [ey16]; rfl) rfl ?_
  have G30 : m_okn y16.1 a0 9 0 := by rw [ey16]; exact G28
  have G31 : m_okn y16.1 (h + 7) 12 30 := by rw [ey16]; exact G29
  have sy16 : y16.2.2 = h + 8 := by rw [ey16]; exact sy15
  refine n_aload_n (q := 73) C 0 dX9_init_72 rfl rfl ?_
  refine n_bipush (q := 75) (v := 60) C dX9_init_73 (by decide) rfl ?_
  obtain ⟨y17, ey17⟩ : ∃ q, q = m_do y16 (o_n 12 60) := ⟨_, rfl⟩
  refine n_na12 (q := 77) C (by decide) rfl (Nat.le_of_ble_eq_true rfl) ⟨Nat.le_of_ble_eq_true rfl, Nat.le_of_ble_eq_true rfl⟩ ey17 sy16 dX9_init_75 rfl ?_
  have G32 : m_okn y17.1 a0 9 0 := by rw [ey17]; exact (m_do_ok _ G30 (by rw [sy16]; exact (Nat.lt_of_lt_of_le h0 (Nat.le_add_right h 8)))).1
  have G33 : m_okn y17.1 (h + 8) 12 60 := by rw [ey17, ← sy16]; exact m_do_new _ _ _
  have sy17 : y17.2.2 = h + 9 := by rw [ey17]; show y16.2.2 + 1 = _; rw [sy16]
  obtain ⟨y18, ey18⟩ : ∃ q, q = m_do y17 (o_R a0 9 (some (h + 8))) := ⟨_, rfl⟩
  refine n_putF (q := 80) (y' := y18) C tyX9 (ci := 9) (f := 9) rfl (by decide) uX9 tyX9_ok nmX9 (by decide) w_973 rfl rfl hini rfl (tyX9_ok 9 (by decide)) rfl rfl (Nat.le_of_ble_eq_true rfl) (by rw [ey18]; simp [m_fs, m_do, m_pR, va_rf]) (fun cy b hb => by rw [ey18]; exact m_cR b hb) dX9_init_77 G32.1 (by rw [ey18]; rfl) (by rw [ey18]; rfl) rfl ?_
  have G34 : m_okn y18.1 a0 9 0 := by rw [ey18]; exact G32
  have G35 : m_okn y18.1 (h + 8) 12 60 := by rw [ey18]; exact G33
  have sy18 : y18.2.2 = h + 9 := by rw [ey18]; exact sy17
  refine n_aload_n (q := 81) C 0 dX9_init_80 rfl rfl ?_
  refine n_iconst (q := 82) (v := 2) C dX9_init_81 (by decide) rfl ?_
  obtain ⟨y19, ey19⟩ : ∃ q, q = m_do y18 (o_n 13 2) := ⟨_, rfl⟩
  refine n_na13 (q := 84) C (by decide) rfl (Nat.le_of_ble_eq_true rfl) ⟨Nat.le_of_ble_eq_true rfl, Nat.le_of_ble_eq_true rfl⟩ ey19 sy18 dX9_init_82 rfl ?_
  have G36 : m_okn y19.1 a0 9 0 := by rw [ey19]; exact (m_do_ok _ G34 (by rw [sy18]; exact (Nat.lt_of_lt_of_le h0 (Nat.le_add_right h 9)))).1
  have G37 : m_okn y19.1 (h + 9) 13 2 := by rw [ey19, ← sy18]; exact m_do_new _ _ _
  have sy19 : y19.2.2 = h + 10 := by rw [ey19]; show y18.2.2 + 1 = _; rw [sy18]
  obtain ⟨y20, ey20⟩ : ∃ q, q = m_do y19 (o_R a0 10 (some (h + 9))) := ⟨_, rfl⟩
  refine n_putF (q := 87) (y' := y20) C tyX9 (ci := 9) (f := 10) rfl (by decide) uX9 tyX9_ok nmX9 (by decide) w_974 rfl rfl hini rfl (tyX9_ok 10 (by decide)) rfl rfl (Nat.le_of_ble_eq_true rfl) (by rw [ey20]; simp [m_fs, m_do, m_pR, va_rf]) (fun cy b hb => by rw [ey20]; exact m_cR b hb) dX9_init_84 G36.1 (by rw [ey20]; rfl) (by rw [ey20]; rfl) rfl ?_
  have G38 : m_okn y20.1 a0 9 0 := by rw [ey20]; exact G36
  have G39 : m_okn y20.1 (h + 9) 13 2 := by rw [ey20]; exact G37
  have sy20 : y20.2.2 = h + 10 := by rw [ey20]; exact sy19
  refine n_aload_n (q := 88) C 0 dX9_init_87 rfl rfl ?_
  refine n_sipush (q := 91) (v := 900) C dX9_init_88 (by decide) rfl ?_
  obtain ⟨y21, ey21⟩ : ∃ q, q = m_do y20 (o_n 11 900) := ⟨_, rfl⟩
  refine n_na11 (q := 93) C (by decide) rfl (Nat.le_of_ble_eq_true rfl) ⟨Nat.le_of_ble_eq_true rfl, Nat.le_of_ble_eq_true rfl⟩ ey21 sy20 dX9_init_91 rfl ?_
  have G40 : m_okn y21.1 a0 9 0 := by rw [ey21]; exact (m_do_ok _ G38 (by rw [sy20]; exact (Nat.lt_of_lt_of_le h0 (Nat.le_add_right h 10)))).1
  have G41 : m_okn y21.1 (h + 10) 11 900 := by rw [ey21, ← sy20]; exact m_do_new _ _ _
  have sy21 : y21.2.2 = h + 11 := by rw [ey21]; show y20.2.2 + 1 = _; rw [sy20]
  obtain ⟨y22, ey22⟩ : ∃ q, q = m_do y21 (o_R a0 11 (some (h + 10))) := ⟨_, rfl⟩
  refine n_putF (q := 96) (y' := y22) C tyX9 (ci := 9) (f := 11) rfl (by decide) uX9 tyX9_ok nmX9 (by decide) w_975 rfl rfl hini rfl (tyX9_ok 11 (by decide)) rfl rfl (Nat.le_of_ble_eq_true rfl) (by rw [ey22]; simp [m_fs, m_do, m_pR, va_rf]) (fun cy b hb => by rw [ey22]; exact m_cR b hb) dX9_init_93 G40.1 (by rw [ey22]; rfl) (by rw [ey22]; rfl) rfl ?_
  have G42 : m_okn y22.1 a0 9 0 := by rw [ey22]; exact G40
  have G43 : m_okn y22.1 (h + 10) 11 900 := by rw [ey22]; exact G41
  have sy22 : y22.2.2 = h + 11 := by rw [ey22]; exact sy21
  refine n_aload_n (q := 97) C 0 dX9_init_96 rfl rfl ?_
  refine n_iconst (q := 98) (v := -1) C dX9_init_97 (by decide) rfl ?_
  obtain ⟨y23, ey23⟩ : ∃ q, q = m_do y22 (o_I a0 19 (-1)) := ⟨_, rfl⟩
  refine n_put (q := 101) (y' := y23) C tyX9 (ci := 9) (f := 19) rfl (by decide) uX9 tyX9_ok nmX9 (by decide) w_983 rfl rfl (tyX9_ok 19 (by decide)) rfl rfl (Nat.le_of_ble_eq_true rfl) (by rw [ey23]; simp [m_fs, m_do, m_pI, va_rf]) (fun cy b hb => by rw [ey23]; exact m_cI b hb) dX9_init_98 G42.1 (by rw [ey23]; rfl) (by rw [ey23]; rfl) rfl ?_
  have G44 : m_okn y23.1 a0 9 0 := by rw [ey23]; exact G42
  have sy23 : y23.2.2 = h + 11 := by rw [ey23]; exact sy22
  refine n_aload_n (q := 102) C 0 dX9_init_101 rfl rfl ?_
  refine n_iconst (q := 103) (v := 4) C dX9_init_102 (by decide) rfl ?_
  obtain ⟨y24, ey24⟩ : ∃ q, q = m_do y23 (o_n 12 4) := ⟨_, rfl⟩
  refine n_na12 (q := 105) C (by decide) rfl (Nat.le_of_ble_eq_true rfl) ⟨Nat.le_of_ble_eq_true rfl, Nat.le_of_ble_eq_true rfl⟩ ey24 sy23 dX9_init_103 rfl ?_
  have G45 : m_okn y24.1 a0 9 0 := by rw [ey24]; exact (m_do_ok _ G44 (by rw [sy23]; exact (Nat.lt_of_lt_of_le h0 (Nat.le_add_right h 11)))).1
  have G46 : m_okn y24.1 (h + 11) 12 4 := by rw [ey24, ← sy23]; exact m_do_new _ _ _
  have sy24 : y24.2.2 = h + 12 := by rw [ey24]; show y23.2.2 + 1 = _; rw [sy23]
  obtain ⟨y25, ey25⟩ : ∃ q, q = m_do y24 (o_R a0 21 (some (h + 11))) := ⟨_, rfl⟩
  refine n_putF (q := 108) (y' := y25) C tyX9 (ci := 9) (f := 21) rfl (by decide) uX9 tyX9_ok nmX9 (by decide) w_985 rfl rfl hini rfl (tyX9_ok 21 (by decide)) rfl rfl (Nat.le_of_ble_eq_true rfl) (by rw [ey25]; simp [m_fs, m_do, m_pR, va_rf]) (fun cy b hb => by rw [ey25]; exact m_cR b hb) dX9_init_105 G45.1 (by rw [ey25]; rfl) (by rw [ey25]; rfl) rfl ?_
  have G47 : m_okn y25.1 a0 9 0 := by rw [ey25]; exact G45
  have G48 : m_okn y25.1 (h + 11) 12 4 := by rw [ey25]; exact G46
  have sy25 : y25.2.2 = h + 12 := by rw [ey25]; exact sy24
  refine n_aload_n (q := 109) C 0 dX9_init_108 rfl rfl ?_
  refine n_bipush (q := 111) (v := 6) C dX9_init_109 (by decide) rfl ?_
  obtain ⟨y26, ey26⟩ : ∃ q, q = m_do y25 (o_n 12 6) := ⟨_, rfl⟩
  refine n_na12 (q := 113) C (by decide) rfl (Nat.le_of_ble_eq_true rfl) ⟨Nat.le_of_ble_eq_true rfl, Nat.le_of_ble_eq_true rfl⟩ ey26 sy25 dX9_init_111 rfl ?_
  have G49 : m_okn y26.1 a0 9 0 := by rw [ey26]; exact (m_do_ok _ G47 (by rw [sy25]; exact (Nat.lt_of_lt_of_le h0 (Nat.le_add_right h 12)))).1
  have G50 : m_okn y26.1 (h + 12) 12 6 := by rw [ey26, ← sy25]; exact m_do_new _ _ _
  have sy26 : y26.2.2 = h + 13 := by rw [ey26]; show y25.2.2 + 1 = _; rw [sy25]
  obtain ⟨y27, ey27⟩ : ∃ q, q = m_do y26 (o_R a0 22 (some (h + 12))) := ⟨_, rfl⟩
  refine n_putF (q := 116) (y' := y27) C tyX9 (ci := 9) (f := 22) rfl (by decide) uX9 tyX9_ok nmX9 (by decide) w_986 rfl rfl hini rfl (tyX9_ok 22 (by decide)) rfl rfl (Nat.le_of_ble_eq_true rfl) (by rw [ey27]; simp [m_fs, m_do, m_pR, va_rf]) (fun cy b hb => by rw [ey27]; exact m_cR b hb) dX9_init_113 G49.1 (by rw [ey27]; rfl) (by rw [ey27]; rfl) rfl ?_
  have G51 : m_okn y27.1 a0 9 0 := by rw [ey27]; exact G49
  have G52 : m_okn y27.1 (h + 12) 12 6 := by rw [ey27]; exact G50
  have sy27 : y27.2.2 = h + 13 := by rw [ey27]; exact sy26
  refine n_aload_n (q := 117) C 0 dX9_init_116 rfl rfl ?_
  refine n_G ?_
  have ey : y27 = m_rn y0 (ops_X9 a0 h) := by rw [ey27, ey26, ey25, ey24, ey23, ey22, ey21, ey20, ey19, ey18, ey17, ey16, ey15, ey14, ey13, ey12, ey11, ey10, ey9, ey8, ey7, ey6, ey5, ey4, ey3, ey2, ey1]; simp only [ops_X9, m_rn, List.foldl_append, List.foldl_cons, List.foldl_nil]
  rw [ey]
  rw [ey] at G51
  refine r_callV (q := 120) (mc := 0) (ms := 0) (C9 := RX9) (As := []) C (c_X9_plain hl hp) rfl w_931 w_932 w_1323 w_11 w_933 hd_X9_plain rfl (by decide) G51.1 rfl rfl rfl (by decide) (by decide) ⟨Nat.le_of_ble_eq_true rfl, Nat.le_of_ble_eq_true rfl⟩ dX9_init_117 rfl rfl ?_
  refine r_aload_n (q := 121) C 0 dX9_init_120 rfl rfl ?_
  refine r_callV (q := 124) (mc := 0) (ms := 0) (C9 := RX9) (As := []) C (c_X9_takes hl ht) rfl w_934 w_935 w_1324 w_11 w_936 hd_X9_takes rfl (by decide) G51.1 rfl rfl rfl (by decide) (by decide) ⟨Nat.le_of_ble_eq_true rfl, Nat.le_of_ble_eq_true rfl⟩ dX9_init_121 rfl rfl ?_
  exact n_vretG C F dX9_init_124
