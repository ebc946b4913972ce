/-! THE CONSTRUCTORS, by program -/
theorem m_ct_app : ∀ a b : List m_O, m_ct (a ++ b) = m_ct a + m_ct b
  | [], b => (Nat.zero_add _).symm
  | .inl _ :: a, b => by show m_ct (a ++ b) + 1 = m_ct a + 1 + m_ct b; rw [m_ct_app a b]; omega
  | .inr _ :: a, b => m_ct_app a b
def ops_X0 (a0 h : Nat) : List m_O := [o_I a0 0 (-1), o_R a0 1 none, o_I a0 2 0, o_I a0 3 0]
theorem ct_X0 {a0 h : Nat} : m_ct (ops_X0 a0 h) = 0 := by simp only [ops_X0, m_ct_app, m_ct]
theorem tg_X0 {a0 h a : Nat} {o : m_O} (ho : o ∈ ops_X0 a0 h) (h1 : a ≠ a0) (h2 : a < h) : m_tg o ≠ some a := by
  simp only [ops_X0, List.mem_cons, List.not_mem_nil, or_false] at ho
  rcases ho with rfl | rfl | rfl | rfl <;> simp [m_tg] <;> omega
abbrev rm_X0_init : Room := { frames := 1, cells := 0, slots := 0, locals := 20 }
theorem hd_X0_init : yX0_init.cls ≠ "java/lang/invoke/MethodHandle" ∧ yX0_init.cls ≠ "java/lang/invoke/VarHandle" ∧ (parseMethodDescriptor yX0_init.desc).map (fun d => d.parameters.length) = some 0 := by decide +kernel
theorem f_n0 (S : m_S) (a : Nat) : ∀ j, j < 4 → defaultValue (tyX0 j) = vp_V (m_fs 0 (m_zr S a) a) j := by
  intro j hj
  iterate 4 (rcases j with _ | j; · simp [tyX0, m_fs, m_zr, vp_V, va_rf, defaultValue])
  omega
set_option maxHeartbeats 4000000 in
set_option maxRecDepth 100000 in
theorem c_X0_init {l : Launch} (hl : l.stackTraces = false) {y0 : m_Y} {a0 h : Nat} (g0 : m_okn y0.1 a0 0 0) (h0 : a0 < h) (s0 : y0.2.2 = h) : m_CI l yX0_init (.code yX0_init cX0_init 1 none :: m_ws) rm_X0_init 0 0 [.ref a0] y0 (m_rn y0 (ops_X0 a0 h)).1 (m_rn y0 (ops_X0 a0 h)).2.1 (some (h + 0)) := by
  refine m_entI hl (by decide) (Nat.le_of_ble_eq_true rfl) (fun x C F hini => ?_)
  have C : m_H x l RX0 cX0_init 1 rm_X0_init := C
  show m_N x y0 1 0 0 0 [(0, .ref a0)] []
  refine n_aload_n (q := 1) C 0 dX0_init_0 rfl rfl ?_
  refine n_obj (q := 4) C w_91 (by decide) (by decide) dX0_init_1 rfl ?_
  refine n_aload_n (q := 5) C 0 dX0_init_4 rfl rfl ?_
  refine n_iconst (q := 6) (v := -1) C dX0_init_5 (by decide) rfl ?_
  obtain ⟨y1, ey1⟩ : ∃ q, q = m_do y0 (o_I a0 0 (-1)) := ⟨_, rfl⟩
  refine n_put (q := 9) (y' := y1) C tyX0 (ci := 0) (f := 0) rfl (by decide) uX0 tyX0_ok nmX0 (by decide) w_92 rfl rfl (tyX0_ok 0 (by decide)) rfl rfl (Nat.le_of_ble_eq_true rfl) (by rw [ey1]; simp [m_fs, m_do, m_pI, va_rf]) (fun cy b hb => by rw [ey1]; exact m_cI b hb) dX0_init_6 g0.1 (by rw [ey1]; rfl) (by rw [ey1]; rfl) rfl ?_
  have G0 : m_okn y1.1 a0 0 0 := by rw [ey1]; exact g0
  have sy1 : y1.2.2 = h := by rw [ey1]; exact s0
  refine n_aload_n (q := 10) C 0 dX0_init_9 rfl rfl ?_
  refine n_null (q := 11) C dX0_init_10 rfl ?_
  obtain ⟨y2, ey2⟩ : ∃ q, q = m_do y1 (o_R a0 1 none) := ⟨_, rfl⟩
  refine n_put (q := 14) (y' := y2) C tyX0 (ci := 0) (f := 1) rfl (by decide) uX0 tyX0_ok nmX0 (by decide) w_93 rfl rfl (tyX0_ok 1 (by decide)) rfl rfl (Nat.le_of_ble_eq_true rfl) (by rw [ey2]; simp [m_fs, m_do, m_pR, va_rf]) (fun cy b hb => by rw [ey2]; exact m_cR b hb) dX0_init_11 G0.1 (by rw [ey2]; rfl) (by rw [ey2]; rfl) rfl ?_
  have G1 : m_okn y2.1 a0 0 0 := by rw [ey2]; exact G0
  have sy2 : y2.2.2 = h := by rw [ey2]; exact sy1
  refine n_aload_n (q := 15) C 0 dX0_init_14 rfl rfl ?_
  refine n_iconst (q := 16) (v := 0) C dX0_init_15 (by decide) rfl ?_
  obtain ⟨y3, ey3⟩ : ∃ q, q = m_do y2 (o_I a0 2 0) := ⟨_, rfl⟩
  refine n_put (q := 19) (y' := y3) C tyX0 (ci := 0) (f := 2) rfl (by decide) uX0 tyX0_ok nmX0 (by decide) w_94 rfl rfl (tyX0_ok 2 (by decide)) rfl rfl (Nat.le_of_ble_eq_true rfl) (by rw [ey3]; simp [m_fs, m_do, m_pI, va_rf]) (fun cy b hb => by rw [ey3]; exact m_cI b hb) dX0_init_16 G1.1 (by rw [ey3]; rfl) (by rw [ey3]; rfl) rfl ?_
  have G2 : m_okn y3.1 a0 0 0 := by rw [ey3]; exact G1
  have sy3 : y3.2.2 = h := by rw [ey3]; exact sy2
  refine n_aload_n (q := 20) C 0 dX0_init_19 rfl rfl ?_
  refine n_iconst (q := 21) (v := 0) C dX0_init_20 (by decide) rfl ?_
  obtain ⟨y4, ey4⟩ : ∃ q, q = m_do y3 (o_I a0 3 0) := ⟨_, rfl⟩
  refine n_put (q := 24) (y' := y4) C tyX0 (ci := 0) (f := 3) rfl (by decide) uX0 tyX0_ok nmX0 (by decide) w_95 rfl rfl (tyX0_ok 3 (by decide)) rfl rfl (Nat.le_of_ble_eq_true rfl) (by rw [ey4]; simp [m_fs, m_do, m_pI, va_rf]) (fun cy b hb => by rw [ey4]; exact m_cI b hb) dX0_init_21 G2.1 (by rw [ey4]; rfl) (by rw [ey4]; rfl) rfl ?_
  have G3 : m_okn y4.1 a0 0 0 := by rw [ey4]; exact G2
  have sy4 : y4.2.2 = h := by rw [ey4]; exact sy3
  have ey : y4 = m_rn y0 (ops_X0 a0 h) := by rw [ey4, ey3, ey2, ey1]; simp only [ops_X0, m_rn, List.foldl_append, List.foldl_cons, List.foldl_nil]
  exact n_vret C F (by rw [ey]) (by rw [ey]) (fun n hn => by cases hn; exact sy4) dX0_init_24

def ops_X1 (a0 h : Nat) : List m_O := [o_I a0 0 0, o_I a0 1 0, o_I a0 2 0, o_n 11 6, o_R a0 3 (some h), o_n 11 6, o_R a0 4 (some (h + 1))]
theorem ct_X1 {a0 h : Nat} : m_ct (ops_X1 a0 h) = 2 := by simp only [ops_X1, m_ct_app, m_ct]
theorem tg_X1 {a0 h a : Nat} {o : m_O} (ho : o ∈ ops_X1 a0 h) (h1 : a ≠ a0) (h2 : a < h) : m_tg o ≠ some a := by
  simp only [ops_X1, List.mem_cons, List.not_mem_nil, or_false] at ho
  rcases ho with rfl | rfl | rfl | rfl | rfl | rfl | rfl <;> simp [m_tg] <;> omega
abbrev rm_X1_init : Room := { frames := 1, cells := 2, slots := 12, locals := 20 }
theorem hd_X1_init : yX1_init.cls ≠ "java/lang/invoke/MethodHandle" ∧ yX1_init.cls ≠ "java/lang/invoke/VarHandle" ∧ (parseMethodDescriptor yX1_init.desc).map (fun d => d.parameters.length) = some 0 := by decide +kernel
theorem f_n1 (S : m_S) (a : Nat) : ∀ j, j < 5 → defaultValue (tyX1 j) = vp_V (m_fs 1 (m_zr S a) a) j := by
  intro j hj
  iterate 5 (rcases j with _ | j; · simp [tyX1, m_fs, m_zr, vp_V, va_rf, defaultValue])
  omega
set_option maxHeartbeats 4000000 in
set_option maxRecDepth 100000 in
theorem c_X1_init {l : Launch} (hl : l.stackTraces = false) {y0 : m_Y} {a0 h : Nat} (g0 : m_okn y0.1 a0 1 0) (h0 : a0 < h) (s0 : y0.2.2 = h) : m_CI l yX1_init (.code yX1_init cX1_init 1 none :: m_ws) rm_X1_init 2 12 [.ref a0] y0 (m_rn y0 (ops_X1 a0 h)).1 (m_rn y0 (ops_X1 a0 h)).2.1 (some (h + 2)) := by
  refine m_entI hl (by decide) (Nat.le_of_ble_eq_true rfl) (fun x C F hini => ?_)
  have C : m_H x l RX1 cX1_init 1 rm_X1_init := C
  show m_N x y0 1 0 0 0 [(0, .ref a0)] []
  refine n_aload_n (q := 1) C 0 dX1_init_0 rfl rfl ?_
  refine n_obj (q := 4) C w_70 (by decide) (by decide) dX1_init_1 rfl ?_
  refine n_aload_n (q := 5) C 0 dX1_init_4 rfl rfl ?_
  refine n_iconst (q := 6) (v := 0) C dX1_init_5 (by decide) rfl ?_
  obtain ⟨y1, ey1⟩ : ∃ q, q = m_do y0 (o_I a0 0 0) := ⟨_, rfl⟩
  refine n_put (q := 9) (y' := y1) C tyX1 (ci := 1) (f := 0) rfl (by decide) uX1 tyX1_ok nmX1 (by decide) w_71 rfl rfl (tyX1_ok 0 (by decide)) rfl rfl (Nat.le_of_ble_eq_true rfl) (by rw [ey1]; simp [m_fs, m_do, m_pI, va_rf]) (fun cy b hb => by rw [ey1]; exact m_cI b hb) dX1_init_6 g0.1 (by rw [ey1]; rfl) (by rw [ey1]; rfl) rfl ?_
  have G0 : m_okn y1.1 a0 1 0 := by rw [ey1]; exact g0
  have sy1 : y1.2.2 = h := by rw [ey1]; exact s0
  refine n_aload_n (q := 10) C 0 dX1_init_9 rfl rfl ?_
  refine n_iconst (q := 11) (v := 0) C dX1_init_10 (by decide) rfl ?_
  obtain ⟨y2, ey2⟩ : ∃ q, q = m_do y1 (o_I a0 1 0) := ⟨_, rfl⟩
  refine n_put (q := 14) (y' := y2) C tyX1 (ci := 1) (f := 1) rfl (by decide) uX1 tyX1_ok nmX1 (by decide) w_72 rfl rfl (tyX1_ok 1 (by decide)) rfl rfl (Nat.le_of_ble_eq_true rfl) (by rw [ey2]; simp [m_fs, m_do, m_pI, va_rf]) (fun cy b hb => by rw [ey2]; exact m_cI b hb) dX1_init_11 G0.1 (by rw [ey2]; rfl) (by rw [ey2]; rfl) rfl ?_
  have G1 : m_okn y2.1 a0 1 0 := by rw [ey2]; exact G0
  have sy2 : y2.2.2 = h := by rw [ey2]; exact sy1
  refine n_aload_n (q := 15) C 0 dX1_init_14 rfl rfl ?_
  refine n_iconst (q := 16) (v := 0) C dX1_init_15 (by decide) rfl ?_
  obtain ⟨y3, ey3⟩ : ∃ q, q = m_do y2 (o_I a0 2 0) := ⟨_, rfl⟩
  refine n_put (q := 19) (y' := y3) C tyX1 (ci := 1) (f := 2) rfl (by decide) uX1 tyX1_ok nmX1 (by decide) w_73 rfl rfl (tyX1_ok 2 (by decide)) rfl rfl (Nat.le_of_ble_eq_true rfl) (by rw [ey3]; simp [m_fs, m_do, m_pI, va_rf]) (fun cy b hb => by rw [ey3]; exact m_cI b hb) dX1_init_16 G1.1 (by rw [ey3]; rfl) (by rw [ey3]; rfl) rfl ?_
  have G2 : m_okn y3.1 a0 1 0 := by rw [ey3]; exact G1
  have sy3 : y3.2.2 = h := by rw [ey3]; exact sy2
  refine n_aload_n (q := 20) C 0 dX1_init_19 rfl rfl ?_
  refine n_bipush (q := 22) (v := 6) C dX1_init_20 (by decide) rfl ?_
  obtain ⟨y4, ey4⟩ : ∃ q, q = m_do y3 (o_n 11 6) := ⟨_, rfl⟩
  refine n_na11 (q := 24) C (by decide) rfl (Nat.le_of_ble_eq_true rfl) ⟨Nat.le_of_ble_eq_true rfl, Nat.le_of_ble_eq_true rfl⟩ ey4 sy3 dX1_init_22 rfl ?_
  have G3 : m_okn y4.1 a0 1 0 := by rw [ey4]; exact (m_do_ok _ G2 (by rw [sy3]; exact h0)).1
  have G4 : m_okn y4.1 (h) 11 6 := by rw [ey4, ← sy3]; exact m_do_new _ _ _
  have sy4 : y4.2.2 = h + 1 := by rw [ey4]; show y3.2.2 + 1 = _; rw [sy3]
  obtain ⟨y5, ey5⟩ : ∃ q, q = m_do y4 (o_R a0 3 (some h)) := ⟨_, rfl⟩
  refine n_putF (q := 27) (y' := y5) C tyX1 (ci := 1) (f := 3) rfl (by decide) uX1 tyX1_ok nmX1 (by decide) w_74 rfl rfl hini rfl (tyX1_ok 3 (by decide)) rfl rfl (Nat.le_of_ble_eq_true rfl) (by rw [ey5]; simp [m_fs, m_do, m_pR, va_rf]) (fun cy b hb => by rw [ey5]; exact m_cR b hb) dX1_init_24 G3.1 (by rw [ey5]; rfl) (by rw [ey5]; rfl) rfl ?_
  have G5 : m_okn y5.1 a0 1 0 := by rw [ey5]; exact G3
  have G6 : m_okn y5.1 h 11 6 := by rw [ey5]; exact G4
  have sy5 : y5.2.2 = h + 1 := by rw [ey5]; exact sy4
  refine n_aload_n (q := 28) C 0 dX1_init_27 rfl rfl ?_
  refine n_bipush (q := 30) (v := 6) C dX1_init_28 (by decide) rfl ?_
  obtain ⟨y6, ey6⟩ : ∃ q, q = m_do y5 (o_n 11 6) := ⟨_, rfl⟩
  refine n_na11 (q := 32) C (by decide) rfl (Nat.le_of_ble_eq_true rfl) ⟨Nat.le_of_ble_eq_true rfl, Nat.le_of_ble_eq_true rfl⟩ ey6 sy5 dX1_init_30 rfl ?_
  have G7 : m_okn y6.1 a0 1 0 := by rw [ey6]; exact (m_do_ok _ G5 (by rw [sy5]; exact (Nat.lt_of_lt_of_le h0 (Nat.le_add_right h 1)))).1
  have G8 : m_okn y6.1 (h + 1) 11 6 := by rw [ey6, ← sy5]; exact m_do_new _ _ _
  have sy6 : y6.2.2 = h + 2 := by rw [ey6]; show y5.2.2 + 1 = _; rw [sy5]
  obtain ⟨y7, ey7⟩ : ∃ q, q = m_do y6 (o_R a0 4 (some (h + 1))) := ⟨_, rfl⟩
  refine n_putF (q := 35) (y' := y7) C tyX1 (ci := 1) (f := 4) rfl (by decide) uX1 tyX1_ok nmX1 (by decide) w_75 rfl rfl hini rfl (tyX1_ok 4 (by decide)) rfl rfl (Nat.le_of_ble_eq_true rfl) (by rw [ey7]; simp [m_fs, m_do, m_pR, va_rf]) (fun cy b hb => by rw [ey7]; exact m_cR b hb) dX1_init_32 G7.1 (by rw [ey7]; rfl) (by rw [ey7]; rfl) rfl ?_
  have G9 : m_okn y7.1 a0 1 0 := by rw [ey7]; exact G7
  have G10 : m_okn y7.1 (h + 1) 11 6 := by rw [ey7]; exact G8
  have sy7 : y7.2.2 = h + 2 := by rw [ey7]; exact sy6
  have ey : y7 = m_rn y0 (ops_X1 a0 h) := by rw [ey7, ey6, ey5, ey4, ey3, ey2, ey1]; simp only [ops_X1, m_rn, List.foldl_append, List.foldl_cons, List.foldl_nil]
  exact n_vret C F (by rw [ey]) (by rw [ey]) (fun n hn => by cases hn; exact sy7) dX1_init_35

def ops_X2 (a0 h : Nat) : List m_O := [o_J a0 0 0, o_J a0 1 0, o_J a0 2 0, o_J a0 3 0, o_I a0 4 0, o_I a0 5 (-1), o_I a0 6 (-1), o_J a0 7 0, o_n 11 24, o_R a0 8 (some h)]
theorem ct_X2 {a0 h : Nat} : m_ct (ops_X2 a0 h) = 1 := by simp only [ops_X2, m_ct_app, m_ct]
theorem tg_X2 {a0 h a : Nat} {o : m_O} (ho : o ∈ ops_X2 a0 h) (h1 : a ≠ a0) (h2 : a < h) : m_tg o ≠ some a := by
  simp only [ops_X2, List.mem_cons, List.not_mem_nil, or_false] at ho
  rcases ho with rfl | rfl | rfl | rfl | rfl | rfl | rfl | rfl | rfl | rfl <;> simp [m_tg] <;> omega
abbrev rm_X2_init : Room := { frames := 1, cells := 1, slots := 24, locals := 20 }
theorem hd_X2_init : yX2_init.cls ≠ "java/lang/invoke/MethodHandle" ∧ yX2_init.cls ≠ "java/lang/invoke/VarHandle" ∧ (parseMethodDescriptor yX2_init.desc).map (fun d => d.parameters.length) = some 0 := by decide +kernel
theorem f_n2 (S : m_S) (a : Nat) : ∀ j, j < 9 → defaultValue (tyX2 j) = vp_V (m_fs 2 (m_zr S a) a) j := by
  intro j hj
  iterate 9 (rcases j with _ | j; · simp [tyX2, m_fs, m_zr, vp_V, va_rf, defaultValue])
  omega
set_option maxHeartbeats 4000000 in
set_option maxRecDepth 100000 in
theorem c_X2_init {l : Launch} (hl : l.stackTraces = false) {y0 : m_Y} {a0 h : Nat} (g0 : m_okn y0.1 a0 2 0) (h0 : a0 < h) (s0 : y0.2.2 = h) : m_CI l yX2_init (.code yX2_init cX2_init 1 none :: m_ws) rm_X2_init 1 24 [.ref a0] y0 (m_rn y0 (ops_X2 a0 h)).1 (m_rn y0 (ops_X2 a0 h)).2.1 (some (h + 1)) := by
  refine m_entI hl (by decide) (Nat.le_of_ble_eq_true rfl) (fun x C F hini => ?_)
  have C : m_H x l RX2 cX2_init 1 rm_X2_init := C
  show m_N x y0 1 0 0 0 [(0, .ref a0)] []
  refine n_aload_n (q := 1) C 0 dX2_init_0 rfl rfl ?_
  refine n_obj (q := 4) C w_159 (by decide) (by decide) dX2_init_1 rfl ?_
  refine n_aload_n (q := 5) C 0 dX2_init_4 rfl rfl ?_
  refine n_lconst (q := 6) (v := 0) C dX2_init_5 (by decide) rfl ?_
  obtain ⟨y1, ey1⟩ : ∃ q, q = m_do y0 (o_J a0 0 0) := ⟨_, rfl⟩
  refine n_put (q := 9) (y' := y1) C tyX2 (ci := 2) (f := 0) rfl (by decide) uX2 tyX2_ok nmX2 (by decide) w_160 rfl rfl (tyX2_ok 0 (by decide)) rfl rfl (Nat.le_of_ble_eq_true rfl) (by rw [ey1]; simp [m_fs, m_do, m_pJ, va_rf]) (fun cy b hb => by rw [ey1]; exact m_cJ b hb) dX2_init_6 g0.1 (by rw [ey1]; rfl) (by rw [ey1]; rfl) rfl ?_
  have G0 : m_okn y1.1 a0 2 0 := by rw [ey1]; exact g0
  have sy1 : y1.2.2 = h := by rw [ey1]; exact s0
  refine n_aload_n (q := 10) C 0 dX2_init_9 rfl rfl ?_
  refine n_lconst (q := 11) (v := 0) C dX2_init_10 (by decide) rfl ?_
  obtain ⟨y2, ey2⟩ : ∃ q, q = m_do y1 (o_J a0 1 0) := ⟨_, rfl⟩
  refine n_put (q := 14) (y' := y2) C tyX2 (ci := 2) (f := 1) rfl (by decide) uX2 tyX2_ok nmX2 (by decide) w_161 rfl rfl (tyX2_ok 1 (by decide)) rfl rfl (Nat.le_of_ble_eq_true rfl) (by rw [ey2]; simp [m_fs, m_do, m_pJ, va_rf]) (fun cy b hb => by rw [ey2]; exact m_cJ b hb) dX2_init_11 G0.1 (by rw [ey2]; rfl) (by rw [ey2]; rfl) rfl ?_
  have G1 : m_okn y2.1 a0 2 0 := by rw [ey2]; exact G0
  have sy2 : y2.2.2 = h := by rw [ey2]; exact sy1
  refine n_aload_n (q := 15) C 0 dX2_init_14 rfl rfl ?_
  refine n_lconst (q := 16) (v := 0) C dX2_init_15 (by decide) rfl ?_
  obtain ⟨y3, ey3⟩ : ∃ q, q = m_do y2 (o_J a0 2 0) := ⟨_, rfl⟩
  refine n_put (q := 19) (y' := y3) C tyX2 (ci := 2) (f := 2) rfl (by decide) uX2 tyX2_ok nmX2 (by decide) w_162 rfl rfl (tyX2_ok 2 (by decide)) rfl rfl (Nat.le_of_ble_eq_true rfl) (by rw [ey3]; simp [m_fs, m_do, m_pJ, va_rf]) (fun cy b hb => by rw [ey3]; exact m_cJ b hb) dX2_init_16 G1.1 (by rw [ey3]; rfl) (by rw [ey3]; rfl) rfl ?_
  have G2 : m_okn y3.1 a0 2 0 := by rw [ey3]; exact G1
  have sy3 : y3.2.2 = h := by rw [ey3]; exact sy2
  refine n_aload_n (q := 20) C 0 dX2_init_19 rfl rfl ?_
  refine n_lconst (q := 21) (v := 0) C dX2_init_20 (by decide) rfl ?_
  obtain ⟨y4, ey4⟩ : ∃ q, q = m_do y3 (o_J a0 3 0) := ⟨_, rfl⟩
  refine n_put (q := 24) (y' := y4) C tyX2 (ci := 2) (f := 3) rfl (by decide) uX2 tyX2_ok nmX2 (by decide) w_163 rfl rfl (tyX2_ok 3 (by decide)) rfl rfl (Nat.le_of_ble_eq_true rfl) (by rw [ey4]; simp [m_fs, m_do, m_pJ, va_rf]) (fun cy b hb => by rw [ey4]; exact m_cJ b hb) dX2_init_21 G2.1 (by rw [ey4]; rfl) (by rw [ey4]; rfl) rfl ?_
  have G3 : m_okn y4.1 a0 2 0 := by rw [ey4]; exact G2
  have sy4 : y4.2.2 = h := by rw [ey4]; exact sy3
  refine n_aload_n (q := 25) C 0 dX2_init_24 rfl rfl ?_
  refine n_iconst (q := 26) (v := 0) C dX2_init_25 (by decide) rfl ?_
  obtain ⟨y5, ey5⟩ : ∃ q, q = m_do y4 (o_I a0 4 0) := ⟨_, rfl⟩
  refine n_put (q := 29) (y' := y5) C tyX2 (ci := 2) (f := 4) rfl (by decide) uX2 tyX2_ok nmX2 (by decide) w_164 rfl rfl (tyX2_ok 4 (by decide)) rfl rfl (Nat.le_of_ble_eq_true rfl) (by rw [ey5]; simp [m_fs, m_do, m_pI, va_rf]) (fun cy b hb => by rw [ey5]; exact m_cI b hb) dX2_init_26 G3.1 (by rw [ey5]; rfl) (by rw [ey5]; rfl) rfl ?_
  have G4 : m_okn y5.1 a0 2 0 := by rw [ey5]; exact G3
  have sy5 : y5.2.2 = h := by rw [ey5]; exact sy4
  refine n_aload_n (q := 30) C 0 dX2_init_29 rfl rfl ?_
  refine n_iconst (q := 31) (v := -1) C dX2_init_30 (by decide) rfl ?_
  obtain ⟨y6, ey6⟩ : ∃ q, q = m_do y5 (o_I a0 5 (-1)) := ⟨_, rfl⟩
  refine n_put (q := 34) (y' := y6) C tyX2 (ci := 2) (f := 5) rfl (by decide) uX2 tyX2_ok nmX2 (by decide) w_165 rfl rfl (tyX2_ok 5 (by decide)) rfl rfl (Nat.le_of_ble_eq_true rfl) (by rw [ey6]; simp [m_fs, m_do, m_pI, va_rf]) (fun cy b hb => by rw [ey6]; exact m_cI b hb) dX2_init_31 G4.1 (by rw [ey6]; rfl) (by rw [ey6]; rfl) rfl ?_
  have G5 : m_okn y6.1 a0 2 0 := by rw [ey6]; exact G4
  have sy6 : y6.2.2 = h := by rw [ey6]; exact sy5
  refine n_aload_n (q := 35) C 0 dX2_init_34 rfl rfl ?_
  refine n_iconst (q := 36) (v := -1) C dX2_init_35 (by decide) rfl ?_
  obtain ⟨y7, ey7⟩ : ∃ q, q = m_do y6 (o_I a0 6 (-1)) := ⟨_, rfl⟩
  refine n_put (q := 39) (y' := y7) C tyX2 (ci := 2) (f := 6) rfl (by decide) uX2 tyX2_ok nmX2 (by decide) w_166 rfl rfl (tyX2_ok 6 (by decide)) rfl rfl (Nat.le_of_ble_eq_true rfl) (by rw [ey7]; simp [m_fs, m_do, m_pI, va_rf]) (fun cy b hb => by rw [ey7]; exact m_cI b hb) dX2_init_36 G5.1 (by rw [ey7]; rfl) (by rw [ey7]; rfl) rfl ?_
  have G6 : m_okn y7.1 a0 2 0 := by rw [ey7]; exact G5
  have sy7 : y7.2.2 = h := by rw [ey7]; exact sy6
  refine n_aload_n (q := 40) C 0 dX2_init_39 rfl rfl ?_
  refine n_lconst (q := 41) (v := 0) C dX2_init_40 (by decide) rfl ?_
  obtain ⟨y8, ey8⟩ : ∃ q, q = m_do y7 (o_J a0 7 0) := ⟨_, rfl⟩
  refine n_put (q := 44) (y' := y8) C tyX2 (ci := 2) (f := 7) rfl (by decide) uX2 tyX2_ok nmX2 (by decide) w_167 rfl rfl (tyX2_ok 7 (by decide)) rfl rfl (Nat.le_of_ble_eq_true rfl) (by rw [ey8]; simp [m_fs, m_do, m_pJ, va_rf]) (fun cy b hb => by rw [ey8]; exact m_cJ b hb) dX2_init_41 G6.1 (by rw [ey8]; rfl) (by rw [ey8]; rfl) rfl ?_
  have G7 : m_okn y8.1 a0 2 0 := by rw [ey8]; exact G6
  have sy8 : y8.2.2 = h := by rw [ey8]; exact sy7
  refine n_aload_n (q := 45) C 0 dX2_init_44 rfl rfl ?_
  refine n_bipush (q := 47) (v := 24) C dX2_init_45 (by decide) rfl ?_
  obtain ⟨y9, ey9⟩ : ∃ q, q = m_do y8 (o_n 11 24) := ⟨_, rfl⟩
  refine n_na11 (q := 49) C (by decide) rfl (Nat.le_of_ble_eq_true rfl) ⟨Nat.le_of_ble_eq_true rfl, Nat.le_of_ble_eq_true rfl⟩ ey9 sy8 dX2_init_47 rfl ?_
  have G8 : m_okn y9.1 a0 2 0 := by rw [ey9]; exact (m_do_ok _ G7 (by rw [sy8]; exact h0)).1
  have G9 : m_okn y9.1 (h) 11 24 := by rw [ey9, ← sy8]; exact m_do_new _ _ _
  have sy9 : y9.2.2 = h + 1 := by rw [ey9]; show y8.2.2 + 1 = _; rw [sy8]
  obtain ⟨y10, ey10⟩ : ∃ q, q = m_do y9 (o_R a0 8 (some h)) := ⟨_, rfl⟩
  refine n_putF (q := 52) (y' := y10) C tyX2 (ci := 2) (f := 8) rfl (by decide) uX2 tyX2_ok nmX2 (by decide) w_168 rfl rfl hini rfl (tyX2_ok 8 (by decide)) rfl rfl (Nat.le_of_ble_eq_true rfl) (by rw [ey10]; simp [m_fs, m_do, m_pR, va_rf]) (fun cy b hb => by rw [ey10]; exact m_cR b hb) dX2_init_49 G8.1 (by rw [ey10]; rfl) (by rw [ey10]; rfl) rfl ?_
  have G10 : m_okn y10.1 a0 2 0 := by rw [ey10]; exact G8
  have G11 : m_okn y10.1 h 11 24 := by rw [ey10]; exact G9
  have sy10 : y10.2.2 = h + 1 := by rw [ey10]; exact sy9
  have ey : y10 = m_rn y0 (ops_X2 a0 h) := by rw [ey10, ey9, ey8, ey7, ey6, ey5, ey4, ey3, ey2, ey1]; simp only [ops_X2, m_rn, List.foldl_append, List.foldl_cons, List.foldl_nil]
  exact n_vret C F (by rw [ey]) (by rw [ey]) (fun n hn => by cases hn; exact sy10) dX2_init_52

def ops_X3 (a0 h : Nat) : List m_O := [o_n 10 900, o_R a0 0 (some h), o_I a0 1 0, o_I a0 2 0, o_I a0 3 (-1), o_I a0 4 0, o_I a0 5 0, o_I a0 6 0, o_I a0 7 0, o_n 12 4, o_R a0 8 (some (h + 1)), o_n 12 6, o_R a0 9 (some (h + 2))]
theorem ct_X3 {a0 h : Nat} : m_ct (ops_X3 a0 h) = 3 := by simp only [ops_X3, m_ct_app, m_ct]
theorem tg_X3 {a0 h a : Nat} {o : m_O} (ho : o ∈ ops_X3 a0 h) (h1 : a ≠ a0) (h2 : a < h) : m_tg o ≠ some a := by
  simp only [ops_X3, List.mem_cons, List.not_mem_nil, or_false] at ho
  rcases ho with rfl | rfl | rfl | rfl | rfl | rfl | rfl | rfl | rfl | rfl | rfl | rfl | rfl <;> simp [m_tg] <;> omega
abbrev rm_X3_init : Room := { frames := 1, cells := 3, slots := 910, locals := 20 }
theorem hd_X3_init : yX3_init.cls ≠ "java/lang/invoke/MethodHandle" ∧ yX3_init.cls ≠ "java/lang/invoke/VarHandle" ∧ (parseMethodDescriptor yX3_init.desc).map (fun d => d.parameters.length) = some 0 := by decide +kernel
theorem f_n3 (S : m_S) (a : Nat) : ∀ j, j < 10 → defaultValue (tyX3 j) = vp_V (m_fs 3 (m_zr S a) a) j := by
  intro j hj
  iterate 10 (rcases j with _ | j; · simp [tyX3, m_fs, m_zr, vp_V, va_rf, defaultValue])
  omega
set_option maxHeartbeats 4000000 in
set_option maxRecDepth 100000 in
theorem c_X3_init {l : Launch} (hl : l.stackTraces = false) {y0 : m_Y} {a0 h : Nat} (g0 : m_okn y0.1 a0 3 0) (h0 : a0 < h) (s0 : y0.2.2 = h) : m_CI l yX3_init (.code yX3_init cX3_init 1 none :: m_ws) rm_X3_init 3 910 [.ref a0] y0 (m_rn y0 (ops_X3 a0 h)).1 (m_rn y0 (ops_X3 a0 h)).2.1 (some (h + 3)) := by
  refine m_entI hl (by decide) (Nat.le_of_ble_eq_true rfl) (fun x C F hini => ?_)
  have C : m_H x l RX3 cX3_init 1 rm_X3_init := C
  show m_N x y0 1 0 0 0 [(0, .ref a0)] []
  refine n_aload_n (q := 1) C 0 dX3_init_0 rfl rfl ?_
  refine n_obj (q := 4) C w_36 (by decide) (by decide) dX3_init_1 rfl ?_
  refine n_aload_n (q := 5) C 0 dX3_init_4 rfl rfl ?_
  refine n_sipush (q := 8) (v := 900) C dX3_init_5 (by decide) rfl ?_
  obtain ⟨y1, ey1⟩ : ∃ q, q = m_do y0 (o_n 10 900) := ⟨_, rfl⟩
  refine n_na10 (q := 10) C (by decide) rfl (Nat.le_of_ble_eq_true rfl) ⟨Nat.le_of_ble_eq_true rfl, Nat.le_of_ble_eq_true rfl⟩ ey1 s0 dX3_init_8 rfl ?_
  have G0 : m_okn y1.1 a0 3 0 := by rw [ey1]; exact (m_do_ok _ g0 (by rw [s0]; exact h0)).1
  have G1 : m_okn y1.1 (h) 10 900 := by rw [ey1, ← s0]; exact m_do_new _ _ _
  have sy1 : y1.2.2 = h + 1 := by rw [ey1]; show y0.2.2 + 1 = _; rw [s0]
  obtain ⟨y2, ey2⟩ : ∃ q, q = m_do y1 (o_R a0 0 (some h)) := ⟨_, rfl⟩
  refine n_putF (q := 13) (y' := y2) C tyX3 (ci := 3) (f := 0) rfl (by decide) uX3 tyX3_ok nmX3 (by decide) w_37 rfl rfl hini rfl (tyX3_ok 0 (by decide)) rfl rfl (Nat.le_of_ble_eq_true rfl) (by rw [ey2]; simp [m_fs, m_do, m_pR, va_rf]) (fun cy b hb => by rw [ey2]; exact m_cR b hb) dX3_init_10 G0.1 (by rw [ey2]; rfl) (by rw [ey2]; rfl) rfl ?_
  have G2 : m_okn y2.1 a0 3 0 := by rw [ey2]; exact G0
  have G3 : m_okn y2.1 h 10 900 := by rw [ey2]; exact G1
  have sy2 : y2.2.2 = h + 1 := by rw [ey2]; exact sy1
  refine n_aload_n (q := 14) C 0 dX3_init_13 rfl rfl ?_
  refine n_iconst (q := 15) (v := 0) C dX3_init_14 (by decide) rfl ?_
  obtain ⟨y3, ey3⟩ : ∃ q, q = m_do y2 (o_I a0 1 0) := ⟨_, rfl⟩
  refine n_put (q := 18) (y' := y3) C tyX3 (ci := 3) (f := 1) rfl (by decide) uX3 tyX3_ok nmX3 (by decide) w_38 rfl rfl (tyX3_ok 1 (by decide)) rfl rfl (Nat.le_of_ble_eq_true rfl) (by rw [ey3]; simp [m_fs, m_do, m_pI, va_rf]) (fun cy b hb => by rw [ey3]; exact m_cI b hb) dX3_init_15 G2.1 (by rw [ey3]; rfl) (by rw [ey3]; rfl) rfl ?_
  have G4 : m_okn y3.1 a0 3 0 := by rw [ey3]; exact G2
  have sy3 : y3.2.2 = h + 1 := by rw [ey3]; exact sy2
  refine n_aload_n (q := 19) C 0 dX3_init_18 rfl rfl ?_
  refine n_iconst (q := 20) (v := 0) C dX3_init_19 (by decide) rfl ?_
  obtain ⟨y4, ey4⟩ : ∃ q, q = m_do y3 (o_I a0 2 0) := ⟨_, rfl⟩
  refine n_put (q := 23) (y' := y4) C tyX3 (ci := 3) (f := 2) rfl (by decide) uX3 tyX3_ok nmX3 (by decide) w_39 rfl rfl (tyX3_ok 2 (by decide)) rfl rfl (Nat.le_of_ble_eq_true rfl) (by rw [ey4]; simp [m_fs, m_do, m_pI, va_rf]) (fun cy b hb => by rw [ey4]; exact m_cI b hb) dX3_init_20 G4.1 (by rw [ey4]; rfl) (by rw [ey4]; rfl) rfl ?_
  have G5 : m_okn y4.1 a0 3 0 := by rw [ey4]; exact G4
  have sy4 : y4.2.2 = h + 1 := by rw [ey4]; exact sy3
  refine n_aload_n (q := 24) C 0 dX3_init_23 rfl rfl ?_
  refine n_iconst (q := 25) (v := -1) C dX3_init_24 (by decide) rfl ?_
  obtain ⟨y5, ey5⟩ : ∃ q, q = m_do y4 (o_I a0 3 (-1)) := ⟨_, rfl⟩
  refine n_put (q := 28) (y' := y5) C tyX3 (ci := 3) (f := 3) rfl (by decide) uX3 tyX3_ok nmX3 (by decide) w_40 rfl rfl (tyX3_ok 3 (by decide)) rfl rfl (Nat.le_of_ble_eq_true rfl) (by rw [ey5]; simp [m_fs, m_do, m_pI, va_rf]) (fun cy b hb => by rw [ey5]; exact m_cI b hb) dX3_init_25 G5.1 (by rw [ey5]; rfl) (by rw [ey5]; rfl) rfl ?_
  have G6 : m_okn y5.1 a0 3 0 := by rw [ey5]; exact G5
  have sy5 : y5.2.2 = h + 1 := by rw [ey5]; exact sy4
  refine n_aload_n (q := 29) C 0 dX3_init_28 rfl rfl ?_
  refine n_iconst (q := 30) (v := 0) C dX3_init_29 (by decide) rfl ?_
  obtain ⟨y6, ey6⟩ : ∃ q, q = m_do y5 (o_I a0 4 0) := ⟨_, rfl⟩
  refine n_put (q := 33) (y' := y6) C tyX3 (ci := 3) (f := 4) rfl (by decide) uX3 tyX3_ok nmX3 (by decide) w_41 rfl rfl (tyX3_ok 4 (by decide)) rfl rfl (Nat.le_of_ble_eq_true rfl) (by rw [ey6]; simp [m_fs, m_do, m_pI, va_rf]) (fun cy b hb => by rw [ey6]; exact m_cI b hb) dX3_init_30 G6.1 (by rw [ey6]; rfl) (by rw [ey6]; rfl) rfl ?_
  have G7 : m_okn y6.1 a0 3 0 := by rw [ey6]; exact G6
  have sy6 : y6.2.2 = h + 1 := by rw [ey6]; exact sy5
  refine n_aload_n (q := 34) C 0 dX3_init_33 rfl rfl ?_
  refine n_iconst (q := 35) (v := 0) C dX3_init_34 (by decide) rfl ?_
  obtain ⟨y7, ey7⟩ : ∃ q, q = m_do y6 (o_I a0 5 0) := ⟨_, rfl⟩
  refine n_put (q := 38) (y' := y7) C tyX3 (ci := 3) (f := 5) rfl (by decide) uX3 tyX3_ok nmX3 (by decide) w_42 rfl rfl (tyX3_ok 5 (by decide)) rfl rfl (Nat.le_of_ble_eq_true rfl) (by rw [ey7]; simp [m_fs, m_do, m_pI, va_rf]) (fun cy b hb => by rw [ey7]; exact m_cI b hb) dX3_init_35 G7.1 (by rw [ey7]; rfl) (by rw [ey7]; rfl) rfl ?_
  have G8 : m_okn y7.1 a0 3 0 := by rw [ey7]; exact G7
  have sy7 : y7.2.2 = h + 1 := by rw [ey7]; exact sy6
  refine n_aload_n (q := 39) C 0 dX3_init_38 rfl rfl ?_
  refine n_iconst (q := 40) (v := 0) C dX3_init_39 (by decide) rfl ?_
  obtain ⟨y8, ey8⟩ : ∃ q, q = m_do y7 (o_I a0 6 0) := ⟨_, rfl⟩
  refine n_put (q := 43) (y' := y8) C tyX3 (ci := 3) (f := 6) rfl (by decide) uX3 tyX3_ok nmX3 (by decide) w_43 rfl rfl (tyX3_ok 6 (by decide)) rfl rfl (Nat.le_of_ble_eq_true rfl) (by rw [ey8]; simp [m_fs, m_do, m_pI, va_rf]) (fun cy b hb => by rw [ey8]; exact m_cI b hb) dX3_init_40 G8.1 (by rw [ey8]; rfl) (by rw [ey8]; rfl) rfl ?_
  have G9 : m_okn y8.1 a0 3 0 := by rw [ey8]; exact G8
  have sy8 : y8.2.2 = h + 1 := by rw [ey8]; exact sy7
  refine n_aload_n (q := 44) C 0 dX3_init_43 rfl rfl ?_
  refine n_iconst (q := 45) (v := 0) C dX3_init_44 (by decide) rfl ?_
  obtain ⟨y9, ey9⟩ : ∃ q, q = m_do y8 (o_I a0 7 0) := ⟨_, rfl⟩
  refine n_put (q := 48) (y' := y9) C tyX3 (ci := 3) (f := 7) rfl (by decide) uX3 tyX3_ok nmX3 (by decide) w_44 rfl rfl (tyX3_ok 7 (by decide)) rfl rfl (Nat.le_of_ble_eq_true rfl) (by rw [ey9]; simp [m_fs, m_do, m_pI, va_rf]) (fun cy b hb => by rw [ey9]; exact m_cI b hb) dX3_init_45 G9.1 (by rw [ey9]; rfl) (by rw [ey9]; rfl) rfl ?_
  have G10 : m_okn y9.1 a0 3 0 := by rw [ey9]; exact G9
  have sy9 : y9.2.2 = h + 1 := by rw [ey9]; exact sy8
  refine n_aload_n (q := 49) C 0 dX3_init_48 rfl rfl ?_
  refine n_iconst (q := 50) (v := 4) C dX3_init_49 (by decide) rfl ?_
  obtain ⟨y10, ey10⟩ : ∃ q, q = m_do y9 (o_n 12 4) := ⟨_, rfl⟩
  refine n_na12 (q := 52) C (by decide) rfl (Nat.le_of_ble_eq_true rfl) ⟨Nat.le_of_ble_eq_true rfl, Nat.le_of_ble_eq_true rfl⟩ ey10 sy9 dX3_init_50 rfl ?_
  have G11 : m_okn y10.1 a0 3 0 := by rw [ey10]; exact (m_do_ok _ G10 (by rw [sy9]; exact (Nat.lt_of_lt_of_le h0 (Nat.le_add_right h 1)))).1
  have G12 : m_okn y10.1 (h + 1) 12 4 := by rw [ey10, ← sy9]; exact m_do_new _ _ _
  have sy10 : y10.2.2 = h + 2 := by rw [ey10]; show y9.2.2 + 1 = _; rw [sy9]
  obtain ⟨y11, ey11⟩ : ∃ q, q = m_do y10 (o_R a0 8 (some (h + 1))) := ⟨_, rfl⟩
  refine n_putF (q := 55) (y' := y11) C tyX3 (ci := 3) (f := 8) rfl (by decide) uX3 tyX3_ok nmX3 (by decide) w_45 rfl rfl hini rfl (tyX3_ok 8 (by decide)) rfl rfl (Nat.le_of_ble_eq_true rfl) (by rw [ey11]; simp [m_fs, m_do, m_pR, va_rf]) (fun cy b hb => by rw [ey11]; exact m_cR b hb) dX3_init_52 G11.1 (by rw [ey11]; rfl) (by rw [ey11]; rfl) rfl ?_
  have G13 : m_okn y11.1 a0 3 0 := by rw [ey11]; exact G11
  have G14 : m_okn y11.1 (h + 1) 12 4 := by rw [ey11]; exact G12
  have sy11 : y11.2.2 = h + 2 := by rw [ey11]; exact sy10
  refine n_aload_n (q := 56) C 0 dX3_init_55 rfl rfl ?_
  refine n_bipush (q := 58) (v := 6) C dX3_init_56 (by decide) rfl ?_
  obtain ⟨y12, ey12⟩ : ∃ q, q = m_do y11 (o_n 12 6) := ⟨_, rfl⟩
  refine n_na12 (q := 60) C (by decide) rfl (Nat.le_of_ble_eq_true rfl) ⟨Nat.le_of_ble_eq_true rfl, Nat.le_of_ble_eq_true rfl⟩ ey12 sy11 dX3_init_58 rfl ?_
  have G15 : m_okn y12.1 a0 3 0 := by rw [ey12]; exact (m_do_ok _ G13 (by rw [sy11]; exact (Nat.lt_of_lt_of_le h0 (Nat.le_add_right h 2)))).1
  have G16 : m_okn y12.1 (h + 2) 12 6 := by rw [ey12, ← sy11]; exact m_do_new _ _ _
  have sy12 : y12.2.2 = h + 3 := by rw [ey12]; show y11.2.2 + 1 = _; rw [sy11]
  obtain ⟨y13, ey13⟩ : ∃ q, q = m_do y12 (o_R a0 9 (some (h + 2))) := ⟨_, rfl⟩
  refine n_putF (q := 63) (y' := y13) C tyX3 (ci := 3) (f := 9) rfl (by decide) uX3 tyX3_ok nmX3 (by decide) w_46 rfl rfl hini rfl (tyX3_ok 9 (by decide)) rfl rfl (Nat.le_of_ble_eq_true rfl) (by rw [ey13]; simp [m_fs, m_do, m_pR, va_rf]) (fun cy b hb => by rw [ey13]; exact m_cR b hb) dX3_init_60 G15.1 (by rw [ey13]; rfl) (by rw [ey13]; rfl) rfl ?_
  have G17 : m_okn y13.1 a0 3 0 := by rw [ey13]; exact G15
  have G18 : m_okn y13.1 (h + 2) 12 6 := by rw [ey13]; exact G16
  have sy13 : y13.2.2 = h + 3 := by rw [ey13]; exact sy12
  have ey : y13 = m_rn y0 (ops_X3 a0 h) := by rw [ey13, ey12, ey11, ey10, ey9, ey8, ey7, ey6, ey5, ey4, ey3, ey2, ey1]; simp only [ops_X3, m_rn, List.foldl_append, List.foldl_cons, List.foldl_nil]
  exact n_vret C F (by rw [ey]) (by rw [ey]) (fun n hn => by cases hn; exact sy13) dX3_init_63

def ops_X4 (a0 h : Nat) : List m_O := [o_I a0 0 0, o_I a0 1 0, o_I a0 2 0]
theorem ct_X4 {a0 h : Nat} : m_ct (ops_X4 a0 h) = 0 := by simp only [ops_X4, m_ct_app, m_ct]
theorem tg_X4 {a0 h a : Nat} {o : m_O} (ho : o ∈ ops_X4 a0 h) (h1 : a ≠ a0) (h2 : a < h) : m_tg o ≠ some a := by
  simp only [ops_X4, List.mem_cons, List.not_mem_nil, or_false] at ho
  rcases ho with rfl | rfl | rfl <;> simp [m_tg] <;> omega
abbrev rm_X4_init : Room := { frames := 1, cells := 0, slots := 0, locals := 20 }
theorem hd_X4_init : yX4_init.cls ≠ "java/lang/invoke/MethodHandle" ∧ yX4_init.cls ≠ "java/lang/invoke/VarHandle" ∧ (parseMethodDescriptor yX4_init.desc).map (fun d => d.parameters.length) = some 0 := by decide +kernel
theorem f_n4 (S : m_S) (a : Nat) : ∀ j, j < 3 → defaultValue (tyX4 j) = vp_V (m_fs 4 (m_zr S a) a) j := by
  intro j hj
  iterate 3 (rcases j with _ | j; · simp [tyX4, m_fs, m_zr, vp_V, va_rf, defaultValue])
  omega
set_option maxHeartbeats 4000000 in
set_option maxRecDepth 100000 in
theorem c_X4_init {l : Launch} (hl : l.stackTraces = false) {y0 : m_Y} {a0 h : Nat} (g0 : m_okn y0.1 a0 4 0) (h0 : a0 < h) (s0 : y0.2.2 = h) : m_CI l yX4_init (.code yX4_init cX4_init 1 none :: m_ws) rm_X4_init 0 0 [.ref a0] y0 (m_rn y0 (ops_X4 a0 h)).1 (m_rn y0 (ops_X4 a0 h)).2.1 (some (h + 0)) := by
  refine m_entI hl (by decide) (Nat.le_of_ble_eq_true rfl) (fun x C F hini => ?_)
  have C : m_H x l RX4 cX4_init 1 rm_X4_init := C
  show m_N x y0 1 0 0 0 [(0, .ref a0)] []
  refine n_aload_n (q := 1) C 0 dX4_init_0 rfl rfl ?_
  refine n_obj (q := 4) C w_146 (by decide) (by decide) dX4_init_1 rfl ?_
  refine n_aload_n (q := 5) C 0 dX4_init_4 rfl rfl ?_
  refine n_iconst (q := 6) (v := 0) C dX4_init_5 (by decide) rfl ?_
  obtain ⟨y1, ey1⟩ : ∃ q, q = m_do y0 (o_I a0 0 0) := ⟨_, rfl⟩
  refine n_put (q := 9) (y' := y1) C tyX4 (ci := 4) (f := 0) rfl (by decide) uX4 tyX4_ok nmX4 (by decide) w_147 rfl rfl (tyX4_ok 0 (by decide)) rfl rfl (Nat.le_of_ble_eq_true rfl) (by rw [ey1]; simp [m_fs, m_do, m_pI, va_rf]) (fun cy b hb => by rw [ey1]; exact m_cI b hb) dX4_init_6 g0.1 (by rw [ey1]; rfl) (by rw [ey1]; rfl) rfl ?_
  have G0 : m_okn y1.1 a0 4 0 := by rw [ey1]; exact g0
  have sy1 : y1.2.2 = h := by rw [ey1]; exact s0
  refine n_aload_n (q := 10) C 0 dX4_init_9 rfl rfl ?_
  refine n_iconst (q := 11) (v := 0) C dX4_init_10 (by decide) rfl ?_
  obtain ⟨y2, ey2⟩ : ∃ q, q = m_do y1 (o_I a0 1 0) := ⟨_, rfl⟩
  refine n_put (q := 14) (y' := y2) C tyX4 (ci := 4) (f := 1) rfl (by decide) uX4 tyX4_ok nmX4 (by decide) w_148 rfl rfl (tyX4_ok 1 (by decide)) rfl rfl (Nat.le_of_ble_eq_true rfl) (by rw [ey2]; simp [m_fs, m_do, m_pI, va_rf]) (fun cy b hb => by rw [ey2]; exact m_cI b hb) dX4_init_11 G0.1 (by rw [ey2]; rfl) (by rw [ey2]; rfl) rfl ?_
  have G1 : m_okn y2.1 a0 4 0 := by rw [ey2]; exact G0
  have sy2 : y2.2.2 = h := by rw [ey2]; exact sy1
  refine n_aload_n (q := 15) C 0 dX4_init_14 rfl rfl ?_
  refine n_iconst (q := 16) (v := 0) C dX4_init_15 (by decide) rfl ?_
  obtain ⟨y3, ey3⟩ : ∃ q, q = m_do y2 (o_I a0 2 0) := ⟨_, rfl⟩
  refine n_put (q := 19) (y' := y3) C tyX4 (ci := 4) (f := 2) rfl (by decide) uX4 tyX4_ok nmX4 (by decide) w_149 rfl rfl (tyX4_ok 2 (by decide)) rfl rfl (Nat.le_of_ble_eq_true rfl) (by rw [ey3]; simp [m_fs, m_do, m_pI, va_rf]) (fun cy b hb => by rw [ey3]; exact m_cI b hb) dX4_init_16 G1.1 (by rw [ey3]; rfl) (by rw [ey3]; rfl) rfl ?_
  have G2 : m_okn y3.1 a0 4 0 := by rw [ey3]; exact G1
  have sy3 : y3.2.2 = h := by rw [ey3]; exact sy2
  have ey : y3 = m_rn y0 (ops_X4 a0 h) := by rw [ey3, ey2, ey1]; simp only [ops_X4, m_rn, List.foldl_append, List.foldl_cons, List.foldl_nil]
  exact n_vret C F (by rw [ey]) (by rw [ey]) (fun n hn => by cases hn; exact sy3) dX4_init_19

def ops_X7 (a0 h : Nat) : List m_O := [o_I a0 0 0, o_I a0 1 0, o_I a0 2 0, o_I a0 3 1000, o_I a0 4 0, o_I a0 5 0, o_n 14 6, o_R a0 6 (some h), o_n 0 0] ++ (ops_X0 (h + 1) (h + 2) ++ ([o_R h 0 (some (h + 1)), o_n 0 0] ++ (ops_X0 (h + 2) (h + 3) ++ ([o_R h 1 (some (h + 2)), o_n 0 0] ++ (ops_X0 (h + 3) (h + 4) ++ ([o_R h 2 (some (h + 3)), o_n 0 0] ++ (ops_X0 (h + 4) (h + 5) ++ ([o_R h 3 (some (h + 4)), o_n 0 0] ++ (ops_X0 (h + 5) (h + 6) ++ ([o_R h 4 (some (h + 5)), o_n 0 0] ++ (ops_X0 (h + 6) (h + 7) ++ ([o_R h 5 (some (h + 6))]))))))))))))
theorem ct_X7 {a0 h : Nat} : m_ct (ops_X7 a0 h) = 7 := by simp only [ops_X7, m_ct_app, m_ct, ct_X0]
theorem tg_X7 {a0 h a : Nat} {o : m_O} (ho : o ∈ ops_X7 a0 h) (h1 : a ≠ a0) (h2 : a < h) : m_tg o ≠ some a := by
  simp only [ops_X7, List.mem_append] at ho
  rcases ho with ho | ho | ho | ho | ho | ho | ho | ho | ho | ho | ho | ho | ho
  · simp only [List.mem_cons, List.not_mem_nil, or_false] at ho
    rcases ho with rfl | rfl | rfl | rfl | rfl | rfl | rfl | rfl | rfl <;> simp [m_tg] <;> omega
  · exact tg_X0 ho (by omega) (by omega)
  · simp only [List.mem_cons, List.not_mem_nil, or_false] at ho
    rcases ho with rfl | rfl <;> simp [m_tg] <;> omega
  · exact tg_X0 ho (by omega) (by omega)
  · simp only [List.mem_cons, List.not_mem_nil, or_false] at ho
    rcases ho with rfl | rfl <;> simp [m_tg] <;> omega
  · exact tg_X0 ho (by omega) (by omega)
  · simp only [List.mem_cons, List.not_mem_nil, or_false] at ho
    rcases ho with rfl | rfl <;> simp [m_tg] <;> omega
  · exact tg_X0 ho (by omega) (by omega)
  · simp only [List.mem_cons, List.not_mem_nil, or_false] at ho
    rcases ho with rfl | rfl <;> simp [m_tg] <;> omega
  · exact tg_X0 ho (by omega) (by omega)
  · simp only [List.mem_cons, List.not_mem_nil, or_false] at ho
    rcases ho with rfl | rfl <;> simp [m_tg] <;> omega
  · exact tg_X0 ho (by omega) (by omega)
  · simp only [List.mem_cons, List.not_mem_nil, or_false] at ho
    subst ho; simp [m_tg] <;> omega
abbrev rm_X7_init : Room := { frames := 2, cells := 7, slots := 30, locals := 40 }
theorem hd_X7_init : yX7_init.cls ≠ "java/lang/invoke/MethodHandle" ∧ yX7_init.cls ≠ "java/lang/invoke/VarHandle" ∧ (parseMethodDescriptor yX7_init.desc).map (fun d => d.parameters.length) = some 0 := by decide +kernel
theorem f_n7 (S : m_S) (a : Nat) : ∀ j, j < 7 → defaultValue (tyX7 j) = vp_V (m_fs 7 (m_zr S a) a) j := by
  intro j hj
  iterate 7 (rcases j with _ | j; · simp [tyX7, m_fs, m_zr, vp_V, va_rf, defaultValue])
  omega
set_option maxHeartbeats 4000000 in
set_option maxRecDepth 100000 in
theorem c_X7_init {l : Launch} (hl : l.stackTraces = false) {y0 : m_Y} {a0 h : Nat} (g0 : m_okn y0.1 a0 7 0) (h0 : a0 < h) (s0 : y0.2.2 = h) : m_CI l yX7_init (.code yX7_init cX7_init 2 none :: m_ws) rm_X7_init 7 30 [.ref a0] y0 (m_rn y0 (ops_X7 a0 h)).1 (m_rn y0 (ops_X7 a0 h)).2.1 (some (h + 7)) := by
  refine m_entI hl (by decide) (Nat.le_of_ble_eq_true rfl) (fun x C F hini => ?_)
  have C : m_H x l RX7 cX7_init 2 rm_X7_init := C
  show m_N x y0 2 0 0 0 [(0, .ref a0)] []
  refine n_aload_n (q := 1) C 0 dX7_init_0 rfl rfl ?_
  refine n_obj (q := 4) C w_86 (by decide) (by decide) dX7_init_1 rfl ?_
  refine n_aload_n (q := 5) C 0 dX7_init_4 rfl rfl ?_
  refine n_iconst (q := 6) (v := 0) C dX7_init_5 (by decide) rfl ?_
  obtain ⟨y1, ey1⟩ : ∃ q, q = m_do y0 (o_I a0 0 0) := ⟨_, rfl⟩
  refine n_put (q := 9) (y' := y1) C tyX7 (ci := 7) (f := 0) rfl (by decide) uX7 tyX7_ok nmX7 (by decide) w_100 rfl rfl (tyX7_ok 0 (by decide)) rfl rfl (Nat.le_of_ble_eq_true rfl) (by rw [ey1]; simp [m_fs, m_do, m_pI, va_rf]) (fun cy b hb => by rw [ey1]; exact m_cI b hb) dX7_init_6 g0.1 (by rw [ey1]; rfl) (by rw [ey1]; rfl) rfl ?_
  have G0 : m_okn y1.1 a0 7 0 := by rw [ey1]; exact g0
  have sy1 : y1.2.2 = h := by rw [ey1]; exact s0
  refine n_aload_n (q := 10) C 0 dX7_init_9 rfl rfl ?_
  refine n_iconst (q := 11) (v := 0) C dX7_init_10 (by decide) rfl ?_
  obtain ⟨y2, ey2⟩ : ∃ q, q = m_do y1 (o_I a0 1 0) := ⟨_, rfl⟩
  refine n_put (q := 14) (y' := y2) C tyX7 (ci := 7) (f := 1) rfl (by decide) uX7 tyX7_ok nmX7 (by decide) w_101 rfl rfl (tyX7_ok 1 (by decide)) rfl rfl (Nat.le_of_ble_eq_true rfl) (by rw [ey2]; simp [m_fs, m_do, m_pI, va_rf]) (fun cy b hb => by rw [ey2]; exact m_cI b hb) dX7_init_11 G0.1 (by rw [ey2]; rfl) (by rw [ey2]; rfl) rfl ?_
  have G1 : m_okn y2.1 a0 7 0 := by rw [ey2]; exact G0
  have sy2 : y2.2.2 = h := by rw [ey2]; exact sy1
  refine n_aload_n (q := 15) C 0 dX7_init_14 rfl rfl ?_
  refine n_iconst (q := 16) (v := 0) C dX7_init_15 (by decide) rfl ?_
  obtain ⟨y3, ey3⟩ : ∃ q, q = m_do y2 (o_I a0 2 0) := ⟨_, rfl⟩
  refine n_put (q := 19) (y' := y3) C tyX7 (ci := 7) (f := 2) rfl (by decide) uX7 tyX7_ok nmX7 (by decide) w_102 rfl rfl (tyX7_ok 2 (by decide)) rfl rfl (Nat.le_of_ble_eq_true rfl) (by rw [ey3]; simp [m_fs, m_do, m_pI, va_rf]) (fun cy b hb => by rw [ey3]; exact m_cI b hb) dX7_init_16 G1.1 (by rw [ey3]; rfl) (by rw [ey3]; rfl) rfl ?_
  have G2 : m_okn y3.1 a0 7 0 := by rw [ey3]; exact G1
  have sy3 : y3.2.2 = h := by rw [ey3]; exact sy2
  refine n_aload_n (q := 20) C 0 dX7_init_19 rfl rfl ?_
  refine n_sipush (q := 23) (v := 1000) C dX7_init_20 (by decide) rfl ?_
  obtain ⟨y4, ey4⟩ : ∃ q, q = m_do y3 (o_I a0 3 1000) := ⟨_, rfl⟩
  refine n_put (q := 26) (y' := y4) C tyX7 (ci := 7) (f := 3) rfl (by decide) uX7 tyX7_ok nmX7 (by decide) w_103 rfl rfl (tyX7_ok 3 (by decide)) rfl rfl (Nat.le_of_ble_eq_true rfl) (by rw [ey4]; simp [m_fs, m_do, m_pI, va_rf]) (fun cy b hb => by rw [ey4]; exact m_cI b hb) dX7_init_23 G2.1 (by rw [ey4]; rfl) (by rw [ey4]; rfl) rfl ?_
  have G3 : m_okn y4.1 a0 7 0 := by rw [ey4]; exact G2
  have sy4 : y4.2.2 = h := by rw [ey4]; exact sy3
  refine n_aload_n (q := 27) C 0 dX7_init_26 rfl rfl ?_
  refine n_iconst (q := 28) (v := 0) C dX7_init_27 (by decide) rfl ?_
  obtain ⟨y5, ey5⟩ : ∃ q, q = m_do y4 (o_I a0 4 0) := ⟨_, rfl⟩
  refine n_put (q := 31) (y' := y5) C tyX7 (ci := 7) (f := 4) rfl (by decide) uX7 tyX7_ok nmX7 (by decide) w_104 rfl rfl (tyX7_ok 4 (by decide)) rfl rfl (Nat.le_of_ble_eq_true rfl) (by rw [ey5]; simp [m_fs, m_do, m_pI, va_rf]) (fun cy b hb => by rw [ey5]; exact m_cI b hb) dX7_init_28 G3.1 (by rw [ey5]; rfl) (by rw [ey5]; rfl) rfl ?_
  have G4 : m_okn y5.1 a0 7 0 := by rw [ey5]; exact G3
  have sy5 : y5.2.2 = h := by rw [ey5]; exact sy4
  refine n_aload_n (q := 32) C 0 dX7_init_31 rfl rfl ?_
  refine n_iconst (q := 33) (v := 0) C dX7_init_32 (by decide) rfl ?_
  obtain ⟨y6, ey6⟩ : ∃ q, q = m_do y5 (o_I a0 5 0) := ⟨_, rfl⟩
  refine n_put (q := 36) (y' := y6) C tyX7 (ci := 7) (f := 5) rfl (by decide) uX7 tyX7_ok nmX7 (by decide) w_105 rfl rfl (tyX7_ok 5 (by decide)) rfl rfl (Nat.le_of_ble_eq_true rfl) (by rw [ey6]; simp [m_fs, m_do, m_pI, va_rf]) (fun cy b hb => by rw [ey6]; exact m_cI b hb) dX7_init_33 G4.1 (by rw [ey6]; rfl) (by rw [ey6]; rfl) rfl ?_
  have G5 : m_okn y6.1 a0 7 0 := by rw [ey6]; exact G4
  have sy6 : y6.2.2 = h := by rw [ey6]; exact sy5
  refine n_aload_n (q := 37) C 0 dX7_init_36 rfl rfl ?_
  refine n_bipush (q := 39) (v := 6) C dX7_init_37 (by decide) rfl ?_
  obtain ⟨y7, ey7⟩ : ∃ q, q = m_do y6 (o_n 14 6) := ⟨_, rfl⟩
  refine n_nq14 (q := 42) C w_87 (by decide) rfl (Nat.le_of_ble_eq_true rfl) ⟨Nat.le_of_ble_eq_true rfl, Nat.le_of_ble_eq_true rfl⟩ ey7 sy6 dX7_init_39 rfl ?_
  have G6 : m_okn y7.1 a0 7 0 := by rw [ey7]; exact (m_do_ok _ G5 (by rw [sy6]; exact h0)).1
  have G7 : m_okn y7.1 (h) 14 6 := by rw [ey7, ← sy6]; exact m_do_new _ _ _
  have sy7 : y7.2.2 = h + 1 := by rw [ey7]; show y6.2.2 + 1 = _; rw [sy6]
  obtain ⟨y8, ey8⟩ : ∃ q, q = m_do y7 (o_R a0 6 (some h)) := ⟨_, rfl⟩
  refine n_putF (q := 45) (y' := y8) C tyX7 (ci := 7) (f := 6) rfl (by decide) uX7 tyX7_ok nmX7 (by decide) w_106 rfl rfl hini rfl (tyX7_ok 6 (by decide)) rfl rfl (Nat.le_of_ble_eq_true rfl) (by rw [ey8]; simp [m_fs, m_do, m_pR, va_rf]) (fun cy b hb => by rw [ey8]; exact m_cR b hb) dX7_init_42 G6.1 (by rw [ey8]; rfl) (by rw [ey8]; rfl) rfl ?_
  have G8 : m_okn y8.1 a0 7 0 := by rw [ey8]; exact G6
  have G9 : m_okn y8.1 h 14 6 := by rw [ey8]; exact G7
  have sy8 : y8.2.2 = h + 1 := by rw [ey8]; exact sy7
  have r6 : y8.2.1.2.2 a0 6 = some (h) := by rw [ey8]; simp [m_do, m_pR]
  refine n_iconst (q := 46) (v := 0) C dX7_init_45 (by decide) rfl ?_
  refine n_istore_n (q := 47) C dX7_init_46 rfl (L' := [(1, .int 0), (0, .ref a0)]) rfl (by decide) rfl ?_
  refine n_iload_n (q := 48) C 0 dX7_init_47 rfl rfl ?_
  refine n_aload_n (q := 49) C 1 dX7_init_48 rfl rfl ?_
  refine n_get (q := 52) (v := .ref (h)) C (ci := 7) (f := 6) rfl (by decide) uX7 (by decide) w_106 rfl (by simp [m_fs, r6, va_rf]) dX7_init_49 G8.1 rfl ?_
  refine n_alen 14 4 (q := 53) C dX7_init_52 G9.1 (by decide) rfl rfl ?_
  rw [G9.2]
  show m_N x y8 2 1 6 53 _ (.int 6 :: _)
  refine n_icmp_ge (t := 75) (q := 56) C dX7_init_53 (by decide) rfl (fun h9 => absurd h9 (by decide)) (fun _ => ?_)
  refine n_aload_n (q := 57) C 1 dX7_init_56 rfl rfl ?_
  refine n_get (q := 60) (v := .ref (h)) C (ci := 7) (f := 6) rfl (by decide) uX7 (by decide) w_106 rfl (by simp [m_fs, r6, va_rf]) dX7_init_57 G8.1 rfl ?_
  refine n_iload_n (q := 61) C 0 dX7_init_60 rfl rfl ?_
  obtain ⟨y9, ey9⟩ : ∃ q, q = m_do y8 (o_n 0 0) := ⟨_, rfl⟩
  refine n_new (q := 64) C tyX0 (ci := 0) rfl (by decide) uX0 tyX0_ok w_87 w_88 w_7 f_n0 ⟨Nat.le_of_ble_eq_true rfl, Nat.le_of_ble_eq_true rfl⟩ ey9 sy8 dX7_init_61 rfl ?_
  have G10 : m_okn y9.1 a0 7 0 := by rw [ey9]; exact (m_do_ok _ G8 (by rw [sy8]; exact (Nat.lt_of_lt_of_le h0 (Nat.le_add_right h 1)))).1
  have G11 : m_okn y9.1 h 14 6 := by rw [ey9]; exact (m_do_ok _ G9 (by rw [sy8]; exact (Nat.lt_add_of_pos_right (Nat.succ_pos 0)))).1
  have G12 : m_okn y9.1 (h + 1) 0 0 := by rw [ey9, ← sy8]; exact m_do_new _ _ _
  have r6 : y9.2.1.2.2 a0 6 = some (h) := by rw [ey9]; exact (m_rn_R [o_n 0 0] (by rw [sy8]; exact (Nat.lt_of_lt_of_le h0 (Nat.le_add_right h 1))) (by simp [m_tg])).trans r6
  have sy9 : y9.2.2 = h + 2 := by rw [ey9]; show y8.2.2 + 1 = _; rw [sy8]
  refine n_dup (q := 65) C dX7_init_64 rfl rfl ?_
  obtain ⟨y10, ey10⟩ : ∃ q, q = m_rn y9 (ops_X0 (h + 1) (h + 2)) := ⟨_, rfl⟩
  refine n_callN (q := 68) C (c_X0_init hl G12 (Nat.add_lt_add_left (Nat.le_of_ble_eq_true rfl : 1 < 2) h) sy9) (List.mem_of_getElem? (i := 2) rfl) w_89 w_7 w_90 rfl hd_X0_init rfl rfl (by decide) (Nat.le_of_ble_eq_true rfl) ⟨Nat.le_of_ble_eq_true rfl, Nat.le_of_ble_eq_true rfl⟩ dX7_init_65 rfl (fun h9 => by cases h9) (fun z hz => ?_)
  cases hz
  have sy10 : y10.2.2 = h + 2 := by rw [ey10, m_rn_sz, sy9, ct_X0]
  rw [show ((m_rn y9 (ops_X0 (h + 1) (h + 2))).1, (m_rn y9 (ops_X0 (h + 1) (h + 2))).2.1, (h + 2) + 0) = y10 from by rw [← ey10]; show (y10.1, y10.2.1, _) = (y10.1, y10.2.1, y10.2.2); rw [sy10]]
  have G13 : m_okn y10.1 a0 7 0 := by rw [ey10]; exact m_rn_ok _ G10 (by rw [sy9]; exact (Nat.lt_of_lt_of_le h0 (Nat.le_add_right h 2)))
  have G14 : m_okn y10.1 h 14 6 := by rw [ey10]; exact m_rn_ok _ G11 (by rw [sy9]; exact (Nat.lt_add_of_pos_right (Nat.succ_pos 1)))
  have G15 : m_okn y10.1 (h + 1) 0 0 := by rw [ey10]; exact m_rn_ok _ G12 (by rw [sy9]; exact (Nat.add_lt_add_left (Nat.le_of_ble_eq_true rfl : 1 < 2) h))
  have r6 : y10.2.1.2.2 a0 6 = some (h) := by rw [ey10]; exact (m_rn_R _ (by rw [sy9]; exact (Nat.lt_of_lt_of_le h0 (Nat.le_add_right h 2))) (fun o ho => tg_X0 ho (Nat.ne_of_lt (Nat.lt_of_lt_of_le h0 (Nat.le_add_right h 1))) (Nat.lt_of_lt_of_le h0 (Nat.le_add_right h 2)))).trans r6
  show m_N x y10 2 2 10 68 _ _
  obtain ⟨y11, ey11⟩ : ∃ q, q = m_do y10 (o_R h 0 (some (h + 1))) := ⟨_, rfl⟩
  refine n_aast14 (q := 69) C ⟨G14.1, by rw [G14.2]; decide⟩ G15.1 rfl ey11 dX7_init_68 rfl ?_
  have G16 : m_okn y11.1 a0 7 0 := by rw [ey11]; exact G13
  have G17 : m_okn y11.1 h 14 6 := by rw [ey11]; exact G14
  have G18 : m_okn y11.1 (h + 1) 0 0 := by rw [ey11]; exact G15
  have sy11 : y11.2.2 = h + 2 := by rw [ey11]; exact sy10
  have r6 : y11.2.1.2.2 a0 6 = some (h) := by rw [ey11]; exact (m_rn_R [o_R h 0 (some (h + 1))] (by rw [sy10]; exact (Nat.lt_of_lt_of_le h0 (Nat.le_add_right h 2))) (fun o ho h9 => by rw [List.mem_singleton.mp ho] at h9; exact (Nat.ne_of_lt h0) (Option.some.inj h9).symm)).trans r6
  refine n_iinc (q := 72) C 0 dX7_init_69 rfl (v := 1) (by decide) (L' := [(1, .int 1), (0, .ref a0)]) rfl (by decide) rfl ?_
  refine n_goto (t := 47) C dX7_init_72 (by decide) ?_
  refine n_iload_n (q := 48) C 0 dX7_init_47 rfl rfl ?_
  refine n_aload_n (q := 49) C 1 dX7_init_48 rfl rfl ?_
  refine n_get (q := 52) (v := .ref (h)) C (ci := 7) (f := 6) rfl (by decide) uX7 (by decide) w_106 rfl (by simp [m_fs, r6, va_rf]) dX7_init_49 G16.1 rfl ?_
  refine n_alen 14 4 (q := 53) C dX7_init_52 G17.1 (by decide) rfl rfl ?_
  rw [G17.2]
  show m_N x y11 2 2 10 53 _ (.int 6 :: _)
  refine n_icmp_ge (t := 75) (q := 56) C dX7_init_53 (by decide) rfl (fun h9 => absurd h9 (by decide)) (fun _ => ?_)
  refine n_aload_n (q := 57) C 1 dX7_init_56 rfl rfl ?_
  refine n_get (q := 60) (v := .ref (h)) C (ci := 7) (f := 6) rfl (by decide) uX7 (by decide) w_106 rfl (by simp [m_fs, r6, va_rf]) dX7_init_57 G16.1 rfl ?_
  refine n_iload_n (q := 61) C 0 dX7_init_60 rfl rfl ?_
  obtain ⟨y12, ey12⟩ : ∃ q, q = m_do y11 (o_n 0 0) := ⟨_, rfl⟩
  refine n_new (q := 64) C tyX0 (ci := 0) rfl (by decide) uX0 tyX0_ok w_87 w_88 w_7 f_n0 ⟨Nat.le_of_ble_eq_true rfl, Nat.le_of_ble_eq_true rfl⟩ ey12 sy11 dX7_init_61 rfl ?_
  have G19 : m_okn y12.1 a0 7 0 := by rw [ey12]; exact (m_do_ok _ G16 (by rw [sy11]; exact (Nat.lt_of_lt_of_le h0 (Nat.le_add_right h 2)))).1
  have G20 : m_okn y12.1 h 14 6 := by rw [ey12]; exact (m_do_ok _ G17 (by rw [sy11]; exact (Nat.lt_add_of_pos_right (Nat.succ_pos 1)))).1
  have G21 : m_okn y12.1 (h + 2) 0 0 := by rw [ey12, ← sy11]; exact m_do_new _ _ _
  have r6 : y12.2.1.2.2 a0 6 = some (h) := by rw [ey12]; exact (m_rn_R [o_n 0 0] (by rw [sy11]; exact (Nat.lt_of_lt_of_le h0 (Nat.le_add_right h 2))) (by simp [m_tg])).trans r6
  have sy12 : y12.2.2 = h + 3 := by rw [ey12]; show y11.2.2 + 1 = _; rw [sy11]
  refine n_dup (q := 65) C dX7_init_64 rfl rfl ?_
  obtain ⟨y13, ey13⟩ : ∃ q, q = m_rn y12 (ops_X0 (h + 2) (h + 3)) := ⟨_, rfl⟩
  refine n_callN (q := 68) C (c_X0_init hl G21 (Nat.add_lt_add_left (Nat.le_of_ble_eq_true rfl : 2 < 3) h) sy12) (List.mem_of_getElem? (i := 2) rfl) w_89 w_7 w_90 rfl hd_X0_init rfl rfl (by decide) (Nat.le_of_ble_eq_true rfl) ⟨Nat.le_of_ble_eq_true rfl, Nat.le_of_ble_eq_true rfl⟩ dX7_init_65 rfl (fun h9 => by cases h9) (fun z hz => ?_)
  cases hz
  have sy13 : y13.2.2 = h + 3 := by rw [ey13, m_rn_sz, sy12, ct_X0]
  rw [show ((m_rn y12 (ops_X0 (h + 2) (h + 3))).1, (m_rn y12 (ops_X0 (h + 2) (h + 3))).2.1, (h + 3) + 0) = y13 from by rw [← ey13]; show (y13.1, y13.2.1, _) = (y13.1, y13.2.1, y13.2.2); rw [sy13]]
  have G22 : m_okn y13.1 a0 7 0 := by rw [ey13]; exact m_rn_ok _ G19 (by rw [sy12]; exact (Nat.lt_of_lt_of_le h0 (Nat.le_add_right h 3)))
  have G23 : m_okn y13.1 h 14 6 := by rw [ey13]; exact m_rn_ok _ G20 (by rw [sy12]; exact (Nat.lt_add_of_pos_right (Nat.succ_pos 2)))
  have G24 : m_okn y13.1 (h + 2) 0 0 := by rw [ey13]; exact m_rn_ok _ G21 (by rw [sy12]; exact (Nat.add_lt_add_left (Nat.le_of_ble_eq_true rfl : 2 < 3) h))
  have r6 : y13.2.1.2.2 a0 6 = some (h) := by rw [ey13]; exact (m_rn_R _ (by rw [sy12]; exact (Nat.lt_of_lt_of_le h0 (Nat.le_add_right h 3))) (fun o ho => tg_X0 ho (Nat.ne_of_lt (Nat.lt_of_lt_of_le h0 (Nat.le_add_right h 2))) (Nat.lt_of_lt_of_le h0 (Nat.le_add_right h 3)))).trans r6
  show m_N x y13 2 3 14 68 _ _
  obtain ⟨y14, ey14⟩ : ∃ q, q = m_do y13 (o_R h 1 (some (h + 2))) := ⟨_, rfl⟩
  refine n_aast14 (q := 69) C ⟨G23.1, by rw [G23.2]; decide⟩ G24.1 rfl ey14 dX7_init_68 rfl ?_
  have G25 : m_okn y14.1 a0 7 0 := by rw [ey14]; exact G22
  have G26 : m_okn y14.1 h 14 6 := by rw [ey14]; exact G23
  have G27 : m_okn y14.1 (h + 2) 0 0 := by rw [ey14]; exact G24
  have sy14 : y14.2.2 = h + 3 := by rw [ey14]; exact sy13
  have r6 : y14.2.1.2.2 a0 6 = some (h) := by rw [ey14]; exact (m_rn_R [o_R h 1 (some (h + 2))] (by rw [sy13]; exact (Nat.lt_of_lt_of_le h0 (Nat.le_add_right h 3))) (fun o ho h9 => by rw [List.mem_singleton.mp ho] at h9; exact (Nat.ne_of_lt h0) (Option.some.inj h9).symm)).trans r6
  refine n_iinc (q := 72) C 0 dX7_init_69 rfl (v := 2) (by decide) (L' := [(1, .int 2), (0, .ref a0)]) rfl (by decide) rfl ?_
  refine n_goto (t := 47) C dX7_init_72 (by decide) ?_
  refine n_iload_n (q := 48) C 0 dX7_init_47 rfl rfl ?_
  refine n_aload_n (q := 49) C 1 dX7_init_48 rfl rfl ?_
  refine n_get (q := 52) (v := .ref (h)) C (ci := 7) (f := 6) rfl (by decide) uX7 (by decide) w_106 rfl (by simp [m_fs, r6, va_rf]) dX7_init_49 G25.1 rfl ?_
  refine n_alen 14 4 (q := 53) C dX7_init_52 G26.1 (by decide) rfl rfl ?_
  rw [G26.2]
  show m_N x y14 2 3 14 53 _ (.int 6 :: _)
  refine n_icmp_ge (t := 75) (q := 56) C dX7_init_53 (by decide) rfl (fun h9 => absurd h9 (by decide)) (fun _ => ?_)
  refine n_aload_n (q := 57) C 1 dX7_init_56 rfl rfl ?_
  refine n_get (q := 60) (v := .ref (h)) C (ci := 7) (f := 6) rfl (by decide) uX7 (by decide) w_106 rfl (by simp [m_fs, r6, va_rf]) dX7_init_57 G25.1 rfl ?_
  refine n_iload_n (q := 61) C 0 dX7_init_60 rfl rfl ?_
  obtain ⟨y15, ey15⟩ : ∃ q, q = m_do y14 (o_n 0 0) := ⟨_, rfl⟩
  refine n_new (q := 64) C tyX0 (ci := 0) rfl (by decide) uX0 tyX0_ok w_87 w_88 w_7 f_n0 ⟨Nat.le_of_ble_eq_true rfl, Nat.le_of_ble_eq_true rfl⟩ ey15 sy14 dX7_init_61 rfl ?_
  have G28 : m_okn y15.1 a0 7 0 := by rw [ey15]; exact (m_do_ok _ G25 (by rw [sy14]; exact (Nat.lt_of_lt_of_le h0 (Nat.le_add_right h 3)))).1
  have G29 : m_okn y15.1 h 14 6 := by rw [ey15]; exact (m_do_ok _ G26 (by rw [sy14]; exact (Nat.lt_add_of_pos_right (Nat.succ_pos 2)))).1
  have G30 : m_okn y15.1 (h + 3) 0 0 := by rw [ey15, ← sy14]; exact m_do_new _ _ _
  have r6 : y15.2.1.2.2 a0 6 = some (h) := by rw [ey15]; exact (m_rn_R [o_n 0 0] (by rw [sy14]; exact (Nat.lt_of_lt_of_le h0 (Nat.le_add_right h 3))) (by simp [m_tg])).trans r6
  have sy15 : y15.2.2 = h + 4 := by rw [ey15]; show y14.2.2 + 1 = _; rw [sy14]
  refine n_dup (q := 65) C dX7_init_64 rfl rfl ?_
  obtain ⟨y16, ey16⟩ : ∃ q, q = m_rn y15 (ops_X0 (h + 3) (h + 4)) := ⟨_, rfl⟩
  refine n_callN (q := 68) C (c_X0_init hl G30 (Nat.add_lt_add_left (Nat.le_of_ble_eq_true rfl : 3 < 4) h) sy15) (List.mem_of_getElem? (i := 2) rfl) w_89 w_7 w_90 rfl hd_X0_init rfl rfl (by decide) (Nat.le_of_ble_eq_true rfl) ⟨Nat.le_of_ble_eq_true rfl, Nat.le_of_ble_eq_true rfl⟩ dX7_init_65 rfl (fun h9 => by cases h9) (fun z hz => ?_)
  cases hz
  have sy16 : y16.2.2 = h + 4 := by rw [ey16, m_rn_sz, sy15, ct_X0]
  rw [show ((m_rn y15 (ops_X0 (h + 3) (h + 4))).1, (m_rn y15 (ops_X0 (h + 3) (h + 4))).2.1, (h + 4) + 0) = y16 from by rw [← ey16]; show (y16.1, y16.2.1, _) = (y16.1, y16.2.1, y16.2.2); rw [sy16]]
  have G31 : m_okn y16.1 a0 7 0 := by rw [ey16]; exact m_rn_ok _ G28 (by rw [sy15]; exact (Nat.lt_of_lt_of_le h0 (Nat.le_add_right h 4)))
  have G32 : m_okn y16.1 h 14 6 := by rw [ey16]; exact m_rn_ok _ G29 (by rw [sy15]; exact (Nat.lt_add_of_pos_right (Nat.succ_pos 3)))
  have G33 : m_okn y16.1 (h + 3) 0 0 := by rw [ey16]; exact m_rn_ok _ G30 (by rw [sy15]; exact (Nat.add_lt_add_left (Nat.le_of_ble_eq_true rfl : 3 < 4) h))
  have r6 : y16.2.1.2.2 a0 6 = some (h) := by rw [ey16]; exact (m_rn_R _ (by rw [sy15]; exact (Nat.lt_of_lt_of_le h0 (Nat.le_add_right h 4))) (fun o ho => tg_X0 ho (Nat.ne_of_lt (Nat.lt_of_lt_of_le h0 (Nat.le_add_right h 3))) (Nat.lt_of_lt_of_le h0 (Nat.le_add_right h 4)))).trans r6
  show m_N x y16 2 4 18 68 _ _
  obtain ⟨y17, ey17⟩ : ∃ q, q = m_do y16 (o_R h 2 (some (h + 3))) := ⟨_, rfl⟩
  refine n_aast14 (q := 69) C ⟨G32.1, by rw [G32.2]; decide⟩ G33.1 rfl ey17 dX7_init_68 rfl ?_
  have G34 : m_okn y17.1 a0 7 0 := by rw [ey17]; exact G31
  have G35 : m_okn y17.1 h 14 6 := by rw [ey17]; exact G32
  have G36 : m_okn y17.1 (h + 3) 0 0 := by rw [ey17]; exact G33
  have sy17 : y17.2.2 = h + 4 := by rw [ey17]; exact sy16
  have r6 : y17.2.1.2.2 a0 6 = some (h) := by rw [ey17]; exact (m_rn_R [o_R h 2 (some (h + 3))] (by rw [sy16]; exact (Nat.lt_of_lt_of_le h0 (Nat.le_add_right h 4))) (fun o ho h9 => by rw [List.mem_singleton.mp ho] at h9; exact (Nat.ne_of_lt h0) (Option.some.inj h9).symm)).trans r6
  refine n_iinc (q := 72) C 0 dX7_init_69 rfl (v := 3) (by decide) (L' := [(1, .int 3), (0, .ref a0)]) rfl (by decide) rfl ?_
  refine n_goto (t := 47) C dX7_init_72 (by decide) ?_
  refine n_iload_n (q := 48) C 0 dX7_init_47 rfl rfl ?_
  refine n_aload_n (q := 49) C 1 dX7_init_48 rfl rfl ?_
  refine n_get (q := 52) (v := .ref (h)) C (ci := 7) (f := 6) rfl (by decide) uX7 (by decide) w_106 rfl (by simp [m_fs, r6, va_rf]) dX7_init_49 G34.1 rfl ?_
  refine n_alen 14 4 (q := 53) C dX7_init_52 G35.1 (by decide) rfl rfl ?_
  rw [G35.2]
  show m_N x y17 2 4 18 53 _ (.int 6 :: _)
  refine n_icmp_ge (t := 75) (q := 56) C dX7_init_53 (by decide) rfl (fun h9 => absurd h9 (by decide)) (fun _ => ?_)
  refine n_aload_n (q := 57) C 1 dX7_init_56 rfl rfl ?_
  refine n_get (q := 60) (v := .ref (h)) C (ci := 7) (f := 6) rfl (by decide) uX7 (by decide) w_106 rfl (by simp [m_fs, r6, va_rf]) dX7_init_57 G34.1 rfl ?_
  refine n_iload_n (q := 61) C 0 dX7_init_60 rfl rfl ?_
  obtain ⟨y18, ey18⟩ : ∃ q, q = m_do y17 (o_n 0 0) := ⟨_, rfl⟩
  refine n_new (q := 64) C tyX0 (ci := 0) rfl (by decide) uX0 tyX0_ok w_87 w_88 w_7 f_n0 ⟨Nat.le_of_ble_eq_true rfl, Nat.le_of_ble_eq_true rfl⟩ ey18 sy17 dX7_init_61 rfl ?_
  have G37 : m_okn y18.1 a0 7 0 := by rw [ey18]; exact (m_do_ok _ G34 (by rw [sy17]; exact (Nat.lt_of_lt_of_le h0 (Nat.le_add_right h 4)))).1
  have G38 : m_okn y18.1 h 14 6 := by rw [ey18]; exact (m_do_ok _ G35 (by rw [sy17]; exact (Nat.lt_add_of_pos_right (Nat.succ_pos 3)))).1
  have G39 : m_okn y18.1 (h + 4) 0 0 := by rw [ey18, ← sy17]; exact m_do_new _ _ _
  have r6 : y18.2.1.2.2 a0 6 = some (h) := by rw [ey18]; exact (m_rn_R [o_n 0 0] (by rw [sy17]; exact (Nat.lt_of_lt_of_le h0 (Nat.le_add_right h 4))) (by simp [m_tg])).trans r6
  have sy18 : y18.2.2 = h + 5 := by rw [ey18]; show y17.2.2 + 1 = _; rw [sy17]
  refine n_dup (q := 65) C dX7_init_64 rfl rfl ?_
  obtain ⟨y19, ey19⟩ : ∃ q, q = m_rn y18 (ops_X0 (h + 4) (h + 5)) := ⟨_, rfl⟩
  refine n_callN (q := 68) C (c_X0_init hl G39 (Nat.add_lt_add_left (Nat.le_of_ble_eq_true rfl : 4 < 5) h) sy18) (List.mem_of_getElem? (i := 2) rfl) w_89 w_7 w_90 rfl hd_X0_init rfl rfl (by decide) (Nat.le_of_ble_eq_true rfl) ⟨Nat.le_of_ble_eq_true rfl, Nat.le_of_ble_eq_true rfl⟩ dX7_init_65 rfl (fun h9 => by cases h9) (fun z hz => ?_)
  cases hz
  have sy19 : y19.2.2 = h + 5 := by rw [ey19, m_rn_sz, sy18, ct_X0]
  rw [show ((m_rn y18 (ops_X0 (h + 4) (h + 5))).1, (m_rn y18 (ops_X0 (h + 4) (h + 5))).2.1, (h + 5) + 0) = y19 from by rw [← ey19]; show (y19.1, y19.2.1, _) = (y19.1, y19.2.1, y19.2.2); rw [sy19]]
  have G40 : m_okn y19.1 a0 7 0 := by rw [ey19]; exact m_rn_ok _ G37 (by rw [sy18]; exact (Nat.lt_of_lt_of_le h0 (Nat.le_add_right h 5)))
  have G41 : m_okn y19.1 h 14 6 := by rw [ey19]; exact m_rn_ok _ G38 (by rw [sy18]; exact (Nat.lt_add_of_pos_right (Nat.succ_pos 4)))
  have G42 : m_okn y19.1 (h + 4) 0 0 := by rw [ey19]; exact m_rn_ok _ G39 (by rw [sy18]; exact (Nat.add_lt_add_left (Nat.le_of_ble_eq_true rfl : 4 < 5) h))
  have r6 : y19.2.1.2.2 a0 6 = some (h) := by rw [ey19]; exact (m_rn_R _ (by rw [sy18]; exact (Nat.lt_of_lt_of_le h0 (Nat.le_add_right h 5))) (fun o ho => tg_X0 ho (Nat.ne_of_lt (Nat.lt_of_lt_of_le h0 (Nat.le_add_right h 4))) (Nat.lt_of_lt_of_le h0 (Nat.le_add_right h 5)))).trans r6
  show m_N x y19 2 5 22 68 _ _
  obtain ⟨y20, ey20⟩ : ∃ q, q = m_do y19 (o_R h 3 (some (h + 4))) := ⟨_, rfl⟩
  refine n_aast14 (q := 69) C ⟨G41.1, by rw [G41.2]; decide⟩ G42.1 rfl ey20 dX7_init_68 rfl ?_
  have G43 : m_okn y20.1 a0 7 0 := by rw [ey20]; exact G40
  have G44 : m_okn y20.1 h 14 6 := by rw [ey20]; exact G41
  have G45 : m_okn y20.1 (h + 4) 0 0 := by rw [ey20]; exact G42
  have sy20 : y20.2.2 = h + 5 := by rw [ey20]; exact sy19
  have r6 : y20.2.1.2.2 a0 6 = some (h) := by rw [ey20]; exact (m_rn_R [o_R h 3 (some (h + 4))] (by rw [sy19]; exact (Nat.lt_of_lt_of_le h0 (Nat.le_add_right h 5))) (fun o ho h9 => by rw [List.mem_singleton.mp ho] at h9; exact (Nat.ne_of_lt h0) (Option.some.inj h9).symm)).trans r6
  refine n_iinc (q := 72) C 0 dX7_init_69 rfl (v := 4) (by decide) (L' := [(1, .int 4), (0, .ref a0)]) rfl (by decide) rfl ?_
  refine n_goto (t := 47) C dX7_init_72 (by decide) ?_
  refine n_iload_n (q := 48) C 0 dX7_init_47 rfl rfl ?_
  refine n_aload_n (q := 49) C 1 dX7_init_48 rfl rfl ?_
  refine n_get (q := 52) (v := .ref (h)) C (ci := 7) (f := 6) rfl (by decide) uX7 (by decide) w_106 rfl (by simp [m_fs, r6, va_rf]) dX7_init_49 G43.1 rfl ?_
  refine n_alen 14 4 (q := 53) C dX7_init_52 G44.1 (by decide) rfl rfl ?_
  rw [G44.2]
  show m_N x y20 2 5 22 53 _ (.int 6 :: _)
  refine n_icmp_ge (t := 75) (q := 56) C dX7_init_53 (by decide) rfl (fun h9 => absurd h9 (by decide)) (fun _ => ?_)
  refine n_aload_n (q := 57) C 1 dX7_init_56 rfl rfl ?_
  refine n_get (q := 60) (v := .ref (h)) C (ci := 7) (f := 6) rfl (by decide) uX7 (by decide) w_106 rfl (by simp [m_fs, r6, va_rf]) dX7_init_57 G43.1 rfl ?_
  refine n_iload_n (q := 61) C 0 dX7_init_60 rfl rfl ?_
  obtain ⟨y21, ey21⟩ : ∃ q, q = m_do y20 (o_n 0 0) := ⟨_, rfl⟩
  refine n_new (q := 64) C tyX0 (ci := 0) rfl (by decide) uX0 tyX0_ok w_87 w_88 w_7 f_n0 ⟨Nat.le_of_ble_eq_true rfl, Nat.le_of_ble_eq_true rfl⟩ ey21 sy20 dX7_init_61 rfl ?_
  have G46 : m_okn y21.1 a0 7 0 := by rw [ey21]; exact (m_do_ok _ G43 (by rw [sy20]; exact (Nat.lt_of_lt_of_le h0 (Nat.le_add_right h 5)))).1
  have G47 : m_okn y21.1 h 14 6 := by rw [ey21]; exact (m_do_ok _ G44 (by rw [sy20]; exact (Nat.lt_add_of_pos_right (Nat.succ_pos 4)))).1
  have G48 : m_okn y21.1 (h + 5) 0 0 := by rw [ey21, ← sy20]; exact m_do_new _ _ _
  have r6 : y21.2.1.2.2 a0 6 = some (h) := by rw [ey21]; exact (m_rn_R [o_n 0 0] (by rw [sy20]; exact (Nat.lt_of_lt_of_le h0 (Nat.le_add_right h 5))) (by simp [m_tg])).trans r6
  have sy21 : y21.2.2 = h + 6 := by rw [ey21]; show y20.2.2 + 1 = _; rw [sy20]
  refine n_dup (q := 65) C dX7_init_64 rfl rfl ?_
  obtain ⟨y22, ey22⟩ : ∃ q, q = m_rn y21 (ops_X0 (h + 5) (h + 6)) := ⟨_, rfl⟩
  refine n_callN (q := 68) C (c_X0_init hl G48 (Nat.add_lt_add_left (Nat.le_of_ble_eq_true rfl : 5 < 6) h) sy21) (List.mem_of_getElem? (i := 2) rfl) w_89 w_7 w_90 rfl hd_X0_init rfl rfl (by decide) (Nat.le_of_ble_eq_true rfl) ⟨Nat.le_of_ble_eq_true rfl, Nat.le_of_ble_eq_true rfl⟩ dX7_init_65 rfl (fun h9 => by cases h9) (fun z hz => ?_)
  cases hz
  have sy22 : y22.2.2 = h + 6 := by rw [ey22, m_rn_sz, sy21, ct_X0]
  rw [show ((m_rn y21 (ops_X0 (h + 5) (h + 6))).1, (m_rn y21 (ops_X0 (h + 5) (h + 6))).2.1, (h + 6) + 0) = y22 from by rw [← ey22]; show (y22.1, y22.2.1, _) = (y22.1, y22.2.1, y22.2.2); rw [sy22]]
  have G49 : m_okn y22.1 a0 7 0 := by rw [ey22]; exact m_rn_ok _ G46 (by rw [sy21]; exact (Nat.lt_of_lt_of_le h0 (Nat.le_add_right h 6)))
  have G50 : m_okn y22.1 h 14 6 := by rw [ey22]; exact m_rn_ok _ G47 (by rw [sy21]; exact (Nat.lt_add_of_pos_right (Nat.succ_pos 5)))
  have G51 : m_okn y22.1 (h + 5) 0 0 := by rw [ey22]; exact m_rn_ok _ G48 (by rw [sy21]; exact (Nat.add_lt_add_left (Nat.le_of_ble_eq_true rfl : 5 < 6) h))
  have r6 : y22.2.1.2.2 a0 6 = some (h) := by rw [ey22]; exact (m_rn_R _ (by rw [sy21]; exact (Nat.lt_of_lt_of_le h0 (Nat.le_add_right h 6))) (fun o ho => tg_X0 ho (Nat.ne_of_lt (Nat.lt_of_lt_of_le h0 (Nat.le_add_right h 5))) (Nat.lt_of_lt_of_le h0 (Nat.le_add_right h 6)))).trans r6
  show m_N x y22 2 6 26 68 _ _
  obtain ⟨y23, ey23⟩ : ∃ q, q = m_do y22 (o_R h 4 (some (h + 5))) := ⟨_, rfl⟩
  refine n_aast14 (q := 69) C ⟨G50.1, by rw [G50.2]; decide⟩ G51.1 rfl ey23 dX7_init_68 rfl ?_
  have G52 : m_okn y23.1 a0 7 0 := by rw [ey23]; exact G49
  have G53 : m_okn y23.1 h 14 6 := by rw [ey23]; exact G50
  have G54 : m_okn y23.1 (h + 5) 0 0 := by rw [ey23]; exact G51
  have sy23 : y23.2.2 = h + 6 := by rw [ey23]; exact sy22
  have r6 : y23.2.1.2.2 a0 6 = some (h) := by rw [ey23]; exact (m_rn_R [o_R h 4 (some (h + 5))] (by rw [sy22]; exact (Nat.lt_of_lt_of_le h0 (Nat.le_add_right h 6))) (fun o ho h9 => by rw [List.mem_singleton.mp ho] at h9; exact (Nat.ne_of_lt h0) (Option.some.inj h9).symm)).trans r6
  refine n_iinc (q := 72) C 0 dX7_init_69 rfl (v := 5) (by decide) (L' := [(1, .int 5), (0, .ref a0)]) rfl (by decide) rfl ?_
  refine n_goto (t := 47) C dX7_init_72 (by decide) ?_
  refine n_iload_n (q := 48) C 0 dX7_init_47 rfl rfl ?_
  refine n_aload_n (q := 49) C 1 dX7_init_48 rfl rfl ?_
  refine n_get (q := 52) (v := .ref (h)) C (ci := 7) (f := 6) rfl (by decide) uX7 (by decide) w_106 rfl (by simp [m_fs, r6, va_rf]) dX7_init_49 G52.1 rfl ?_
  refine n_alen 14 4 (q := 53) C dX7_init_52 G53.1 (by decide) rfl rfl ?_
  rw [G53.2]
  show m_N x y23 2 6 26 53 _ (.int 6 :: _)
  refine n_icmp_ge (t := 75) (q := 56) C dX7_init_53 (by decide) rfl (fun h9 => absurd h9 (by decide)) (fun _ => ?_)
  refine n_aload_n (q := 57) C 1 dX7_init_56 rfl rfl ?_
  refine n_get (q := 60) (v := .ref (h)) C (ci := 7) (f := 6) rfl (by decide) uX7 (by decide) w_106 rfl (by simp [m_fs, r6, va_rf]) dX7_init_57 G52.1 rfl ?_
  refine n_iload_n (q := 61) C 0 dX7_init_60 rfl rfl ?_
  obtain ⟨y24, ey24⟩ : ∃ q, q = m_do y23 (o_n 0 0) := ⟨_, rfl⟩
  refine n_new (q := 64) C tyX0 (ci := 0) rfl (by decide) uX0 tyX0_ok w_87 w_88 w_7 f_n0 ⟨Nat.le_of_ble_eq_true rfl, Nat.le_of_ble_eq_true rfl⟩ ey24 sy23 dX7_init_61 rfl ?_
  have G55 : m_okn y24.1 a0 7 0 := by rw [ey24]; exact (m_do_ok _ G52 (by rw [sy23]; exact (Nat.lt_of_lt_of_le h0 (Nat.le_add_right h 6)))).1
  have G56 : m_okn y24.1 h 14 6 := by rw [ey24]; exact (m_do_ok _ G53 (by rw [sy23]; exact (Nat.lt_add_of_pos_right (Nat.succ_pos 5)))).1
  have G57 : m_okn y24.1 (h + 6) 0 0 := by rw [ey24, ← sy23]; exact m_do_new _ _ _
  have r6 : y24.2.1.2.2 a0 6 = some (h) := by rw [ey24]; exact (m_rn_R [o_n 0 0] (by rw [sy23]; exact (Nat.lt_of_lt_of_le h0 (Nat.le_add_right h 6))) (by simp [m_tg])).trans r6
  have sy24 : y24.2.2 = h + 7 := by rw [ey24]; show y23.2.2 + 1 = _; rw [sy23]
  refine n_dup (q := 65) C dX7_init_64 rfl rfl ?_
  obtain ⟨y25, ey25⟩ : ∃ q, q = m_rn y24 (ops_X0 (h + 6) (h + 7)) := ⟨_, rfl⟩
  refine n_callN (q := 68) C (c_X0_init hl G57 (Nat.add_lt_add_left (Nat.le_of_ble_eq_true rfl : 6 < 7) h) sy24) (List.mem_of_getElem? (i := 2) rfl) w_89 w_7 w_90 rfl hd_X0_init rfl rfl (by decide) (Nat.le_of_ble_eq_true rfl) ⟨Nat.le_of_ble_eq_true rfl, Nat.le_of_ble_eq_true rfl⟩ dX7_init_65 rfl (fun h9 => by cases h9) (fun z hz => ?_)
  cases hz
  have sy25 : y25.2.2 = h + 7 := by rw [ey25, m_rn_sz, sy24, ct_X0]
  rw [show ((m_rn y24 (ops_X0 (h + 6) (h + 7))).1, (m_rn y24 (ops_X0 (h + 6) (h + 7))).2.1, (h + 7) + 0) = y25 from by rw [← ey25]; show (y25.1, y25.2.1, _) = (y25.1, y25.2.1, y25.2.2); rw [sy25]]
  have G58 : m_okn y25.1 a0 7 0 := by rw [ey25]; exact m_rn_ok _ G55 (by rw [sy24]; exact (Nat.lt_of_lt_of_le h0 (Nat.le_add_right h 7)))
  have G59 : m_okn y25.1 h 14 6 := by rw [ey25]; exact m_rn_ok _ G56 (by rw [sy24]; exact (Nat.lt_add_of_pos_right (Nat.succ_pos 6)))
  have G60 : m_okn y25.1 (h + 6) 0 0 := by rw [ey25]; exact m_rn_ok _ G57 (by rw [sy24]; exact (Nat.add_lt_add_left (Nat.le_of_ble_eq_true rfl : 6 < 7) h))
  have r6 : y25.2.1.2.2 a0 6 = some (h) := by rw [ey25]; exact (m_rn_R _ (by rw [sy24]; exact (Nat.lt_of_lt_of_le h0 (Nat.le_add_right h 7))) (fun o ho => tg_X0 ho (Nat.ne_of_lt (Nat.lt_of_lt_of_le h0 (Nat.le_add_right h 6))) (Nat.lt_of_lt_of_le h0 (Nat.le_add_right h 7)))).trans r6
  show m_N x y25 2 7 30 68 _ _
  obtain ⟨y26, ey26⟩ : ∃ q, q = m_do y25 (o_R h 5 (some (h + 6))) := ⟨_, rfl⟩
  refine n_aast14 (q := 69) C ⟨G59.1, by rw [G59.2]; decide⟩ G60.1 rfl ey26 dX7_init_68 rfl ?_
  have G61 : m_okn y26.1 a0 7 0 := by rw [ey26]; exact G58
  have G62 : m_okn y26.1 h 14 6 := by rw [ey26]; exact G59
  have G63 : m_okn y26.1 (h + 6) 0 0 := by rw [ey26]; exact G60
  have sy26 : y26.2.2 = h + 7 := by rw [ey26]; exact sy25
  have r6 : y26.2.1.2.2 a0 6 = some (h) := by rw [ey26]; exact (m_rn_R [o_R h 5 (some (h + 6))] (by rw [sy25]; exact (Nat.lt_of_lt_of_le h0 (Nat.le_add_right h 7))) (fun o ho h9 => by rw [List.mem_singleton.mp ho] at h9; exact (Nat.ne_of_lt h0) (Option.some.inj h9).symm)).trans r6
  refine n_iinc (q := 72) C 0 dX7_init_69 rfl (v := 6) (by decide) (L' := [(1, .int 6), (0, .ref a0)]) rfl (by decide) rfl ?_
  refine n_goto (t := 47) C dX7_init_72 (by decide) ?_
  refine n_iload_n (q := 48) C 0 dX7_init_47 rfl rfl ?_
  refine n_aload_n (q := 49) C 1 dX7_init_48 rfl rfl ?_
  refine n_get (q := 52) (v := .ref (h)) C (ci := 7) (f := 6) rfl (by decide) uX7 (by decide) w_106 rfl (by simp [m_fs, r6, va_rf]) dX7_init_49 G61.1 rfl ?_
  refine n_alen 14 4 (q := 53) C dX7_init_52 G62.1 (by decide) rfl rfl ?_
  rw [G62.2]
  show m_N x y26 2 7 30 53 _ (.int 6 :: _)
  refine n_icmp_ge (t := 75) (q := 56) C dX7_init_53 (by decide) rfl (fun _ => ?_) (fun h9 => absurd (show (6 : Int32) ≤ 6 by decide) h9)
  have ey : y26 = m_rn y0 (ops_X7 a0 h) := by rw [ey26, ey25, ey24, ey23, ey22, ey21, ey20, ey19, ey18, ey17, ey16, ey15, ey14, ey13, ey12, ey11, ey10, ey9, ey8, ey7, ey6, ey5, ey4, ey3, ey2, ey1]; simp only [ops_X7, m_rn, List.foldl_append, List.foldl_cons, List.foldl_nil]
  exact n_vret C F (by rw [ey]) (by rw [ey]) (fun n hn => by cases hn; exact sy26) dX7_init_75

