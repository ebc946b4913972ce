/-! what each call begins with -/
theorem tn0 : (0 : Int32).toNatClampNeg = 0 := rfl
theorem tn1 : (1 : Int32).toNatClampNeg = 1 := rfl
theorem tn2 : (2 : Int32).toNatClampNeg = 2 := rfl
theorem tn3 : (3 : Int32).toNatClampNeg = 3 := rfl
theorem tn4 : (4 : Int32).toNatClampNeg = 4 := rfl
theorem tn5 : (5 : Int32).toNatClampNeg = 5 := rfl
theorem i32_0 : (0 : Int32).toInt = 0 := rfl
theorem i32_1 : (1 : Int32).toInt = 1 := rfl
theorem z10 : ¬ (1 : Int32) = 0 := by decide
theorem m_bt_s {α β : Type} (a : α) (k : α → Option (Except String β)) : m_bt (some (.ok a)) k = k a := rfl
theorem m_bt_e {α β : Type} (e : String) (k : α → Option (Except String β)) : m_bt (some (.error e)) k = some (.error e) := rfl
theorem m_btw_s {α β : Type} (a : α) (S : m_S) (k : α → Option (Except String β × m_S)) : m_btw (some (.ok a)) S k = k a := rfl
theorem m_btw_e {α β : Type} (e : String) (S : m_S) (k : α → Option (Except String β × m_S)) : m_btw (some (.error e)) S k = some (.error e, S) := rfl
theorem m_bx_s {α β : Type} (a : α) (S : m_S) (k : α → m_S → Option (Except String β × m_S)) : m_bx (some (.ok a, S)) k = k a S := rfl
theorem m_bx_e {α β : Type} (e : String) (S : m_S) (k : α → m_S → Option (Except String β × m_S)) : m_bx (some (.error e, S)) k = some (.error e, S) := rfl
theorem q_inl {Z : m_Z} {wi : Int32} {a c N i : Nat} (e : wi = Int32.ofNat i) (g : m_okn Z a c N) (h : i < N) (h2 : i < 2147483648) : m_in wi (Z.2.2 a) := by subst e; exact q_inn g h h2
theorem q_cdec {n : Nat} (hn : n < 1000) (p : Int32) : (∃ c, c < n ∧ p = Int32.ofNat c) ∨ (p < 0 ∨ Int32.ofNat n ≤ p) := by
  by_cases h : 0 ≤ p.toInt ∧ p.toInt < n
  · refine Or.inl ⟨p.toInt.toNat, by omega, ?_⟩
    rw [t_eq, t_ofNat (by omega)]; omega
  · refine Or.inr ?_
    rw [t_lt, t_le, t_ofNat (by omega), i32_0]; omega
theorem e_isN {Z : m_Z} {T : m_S} {m n : Nat} {p : Int32} (hn : n < 1000) : f_X9_isIn Z T p 0 (Int32.ofNat n - 1) = some (if 0 ≤ p ∧ p < Int32.ofNat n then 1 else 0) := by
  rw [e_isIn]
  have : p ≤ Int32.ofNat n - 1 ↔ p < Int32.ofNat n := by
    rw [t_le, t_lt, t_sub (by rw [t_ofNat (by omega), i32_1]; omega) (by rw [t_ofNat (by omega), i32_1]; omega), t_ofNat (by omega), i32_1]; omega
  simp only [this]
theorem e_isCase {Z : m_Z} {T : m_S} {m n : Nat} {p : Int32} (h : q_M Z T.2.2 m) (hc : T.1 (m + 1) 5 = Int32.ofNat n) (hn : n < 1000) : f_X9_isCase Z T m p = some (if 0 ≤ p ∧ p < Int32.ofNat n then 1 else 0) := by
  unfold f_X9_isCase
  rw [m_gd_t h.o, h.p.1, m_b1_s, m_gd_t h.p.2.1, m_gd_t (q_inl (wi := 5) (i := 5) rfl h.p.2 (by omega) (by omega)), tn5, hc, e_isN (m := m) hn, m_b1_s]
  split
  · rw [m_gd_t (Or.inr rfl)]
  · rw [m_gd_t (Or.inl rfl)]
theorem e_isKind {Z : m_Z} {T : m_S} {m n : Nat} {p : Int32} (h : q_M Z T.2.2 m) (hc : T.1 (m + 1) 4 = Int32.ofNat n) (hn : n < 1000) : f_X9_isKind Z T m p = some (if 0 ≤ p ∧ p < Int32.ofNat n then 1 else 0) := by
  unfold f_X9_isKind
  rw [m_gd_t h.o, h.p.1, m_b1_s, m_gd_t h.p.2.1, m_gd_t (q_inl (wi := 4) (i := 4) rfl h.p.2 (by omega) (by omega)), tn4, hc, e_isN (m := m) hn, m_b1_s]
  split
  · rw [m_gd_t (Or.inr rfl)]
  · rw [m_gd_t (Or.inl rfl)]
theorem q_in1 {c n : Nat} (h : c < n) (hn : n < 1000) : (if 0 ≤ Int32.ofNat c ∧ Int32.ofNat c < Int32.ofNat n then (1 : Int32) else 0) = 1 :=
  if_pos ⟨t_le.mpr (by rw [t_ofNat (by omega), i32_0]; omega), (io_lt (by omega) (by omega)).mpr h⟩
theorem q_in0 {p : Int32} {n : Nat} (h : p < 0 ∨ Int32.ofNat n ≤ p) : (if 0 ≤ p ∧ p < Int32.ofNat n then (1 : Int32) else 0) = 0 :=
  if_neg (fun q => h.elim (fun z => absurd q.1 (Int32.not_le.mpr z)) (fun z => absurd q.2 (Int32.not_lt.mpr z)))
theorem e_may {Z : m_Z} {T : m_S} {m : Nat} {c : Prop} [Decidable c] {pl : Int32} (h : m_ok Z m 9) (h0 : T.1 m 0 = 0) (hp : ¬ pl = 0) {β : Type} (k : Int32 → m_S → Option β) : m_bw (f_X9_may Z T m (if c then 1 else 0) pl) k = if c then k 1 T else k 0 (m_pI T m 0 pl) := by
  split
  · rw [e_may1 h z10 h0, m_bw_s]
  · rw [e_may0 h h0 hp, m_bw_s]
section AT
variable {Z : m_Z} {x m N pb ns nk nc : Nat} {S T : m_S}
theorem g_vitAt (h : q_Rel Z x m N pb ns nk nc S T) {c : Nat} (hc : c < nc) : f_X8_vitrineAt Z S x (Int32.ofNat c) = some (.ok (x + 141 + 10 * c)) := by
  have h6 := h.nc6
  unfold f_X8_vitrineAt
  rw [if_neg (fun q => by rw [t_lt, t_ofNat (by omega), i32_0] at q; omega), m_gd_t h.ox, h.r1, m_b1_s, m_gd_t h.opb, h.c8, if_pos ((io_lt (by omega) (by omega)).mpr hc), h.r3, m_b1_s, m_gd_t h.o137, h.st.2.2.1.1, m_b1_s, m_gd_t h.st.2.2.1.2.1, m_gd_t (q_inn h.st.2.2.1.2 (by omega) (by omega)), io_tn (by omega), (h.st.2.2.2.2 c (by omega)).1, m_b1_s]
theorem g_logAt (h : q_Rel Z x m N pb ns nk nc S T) {c : Nat} (hc : c < nc) : f_X8_logbookAt Z S x (Int32.ofNat c) = some (.ok (x + 141 + 10 * c + 8)) := by
  have h6 := h.nc6
  unfold f_X8_logbookAt
  rw [if_neg (fun q => by rw [t_lt, t_ofNat (by omega), i32_0] at q; omega), m_gd_t h.ox, h.r1, m_b1_s, m_gd_t h.opb, h.c8, if_pos ((io_lt (by omega) (by omega)).mpr hc), h.r3, m_b1_s, m_gd_t h.o137, h.st.2.2.2.1.1, m_b1_s, m_gd_t h.st.2.2.2.1.2.1, m_gd_t (q_inn h.st.2.2.2.1.2 (by omega) (by omega)), io_tn (by omega), (h.st.2.2.2.2 c (by omega)).2.1, m_b1_s]
theorem g_vitNo (h : q_Rel Z x m N pb ns nk nc S T) {p : Int32} (hp : p < 0 ∨ Int32.ofNat nc ≤ p) : f_X8_vitrineAt Z S x p = some (.error "java/lang/IndexOutOfBoundsException") := by
  unfold f_X8_vitrineAt
  by_cases q : p < 0
  · rw [if_pos q]
  · rw [if_neg q, m_gd_t h.ox, h.r1, m_b1_s, m_gd_t h.opb, h.c8, if_neg (Int32.not_lt.mpr (hp.resolve_left q))]
theorem g_logNo (h : q_Rel Z x m N pb ns nk nc S T) {p : Int32} (hp : p < 0 ∨ Int32.ofNat nc ≤ p) : f_X8_logbookAt Z S x p = some (.error "java/lang/IndexOutOfBoundsException") := by
  unfold f_X8_logbookAt
  by_cases q : p < 0
  · rw [if_pos q]
  · rw [if_neg q, m_gd_t h.ox, h.r1, m_b1_s, m_gd_t h.opb, h.c8, if_neg (Int32.not_lt.mpr (hp.resolve_left q))]
theorem g_kindAt (h : q_Rel Z x m N pb ns nk nc S T) {k : Nat} (hk : k < nk) : f_X8_kindAt Z S x (Int32.ofNat k) = some (.ok (pb + 6 + 3 * k)) := by
  have h4 := h.nk4
  unfold f_X8_kindAt
  rw [if_neg (fun q => by rw [t_lt, t_ofNat (by omega), i32_0] at q; omega), m_gd_t h.ox, h.r1, m_b1_s, m_gd_t h.opb, h.c6, if_pos ((io_lt (by omega) (by omega)).mpr hk), h.kpb.1, m_b1_s, m_gd_t h.kpb.2.1, m_gd_t (q_inn h.kpb.2 (by omega) (by omega)), io_tn (by omega), h.kref (by omega), m_b1_s]
theorem g_kindNo (h : q_Rel Z x m N pb ns nk nc S T) {p : Int32} (hp : p < 0 ∨ Int32.ofNat nk ≤ p) : f_X8_kindAt Z S x p = some (.error "java/lang/IndexOutOfBoundsException") := by
  unfold f_X8_kindAt
  by_cases q : p < 0
  · rw [if_pos q]
  · rw [if_neg q, m_gd_t h.ox, h.r1, m_b1_s, m_gd_t h.opb, h.c6, if_neg (Int32.not_lt.mpr (hp.resolve_left q))]
theorem g_reqHum (Z : m_Z) (S : m_S) (x : Nat) (p : Int32) : f_X8_requireHumidity Z S x p = some (if 0 ≤ p ∧ p ≤ 1000 then .ok () else .error "java/lang/IllegalArgumentException") := by
  unfold f_X8_requireHumidity
  by_cases q : p < 0
  · rw [if_pos q, if_neg (fun z => absurd z.1 (Int32.not_le.mpr q))]
  · rw [if_neg q]
    by_cases q2 : p ≤ (1000 : Int32)
    · rw [if_pos q2, if_pos ⟨Int32.not_lt.mp q, q2⟩]
    · rw [if_neg q2, if_neg (fun z => q2 z.2)]
theorem g_reqHours (Z : m_Z) (S : m_S) (x : Nat) (p lo hi : Int32) : f_X8_requireHours Z S x p lo hi = some (if lo ≤ p ∧ p ≤ hi then .ok () else .error "java/lang/IllegalArgumentException") := by
  unfold f_X8_requireHours
  by_cases q : p < lo
  · rw [if_pos q, if_neg (fun z => absurd z.1 (Int32.not_le.mpr q))]
  · rw [if_neg q]
    by_cases q2 : p ≤ hi
    · rw [if_pos q2, if_pos ⟨Int32.not_lt.mp q, q2⟩]
    · rw [if_neg q2, if_neg (fun z => q2 z.2)]
variable {α β : Type} {cs : List (String × Int32)} {eq : α → β → Prop}
theorem q_fY0 (m : Nat) (T : m_S) (v : Int32) : q_fY m T (m_pI T m 0 v) := q_ag_I (q_ag_refl _ T) (fun q => q ⟨Nat.le_refl _, by omega⟩)
theorem q_zero (h : q_Rel Z x m N pb ns nk nc S T) : ∃ T0, m_pI T m 0 0 = T0 ∧ T0.1 m 0 = 0 ∧ q_fY m T T0 ∧ q_Rel Z x m N pb ns nk nc S T0 := ⟨_, rfl, pI_same _ _ _ _, q_fY0 m T 0, q_Rel_t h (by omega) (by omega) (by omega)⟩
theorem q_JR_ok {T0 : m_S} (h : q_Rel Z x m N pb ns nk nc S T0) (f : q_fY m T T0) (z : T0.1 m 0 = 0) {rc : Option (Except String α)} {rm : Option (β × m_S)} {a : α} {b : β} (hc : rc = some (.ok a)) (hm : rm = some (b, T0)) (e : eq a b) : q_JR Z x m (N + 1) cs eq S T rc rm :=
  ⟨T0, f, ⟨pb, ns, nk, nc, q_Rel_N h (Nat.le_succ _)⟩, Or.inl ⟨a, b, hc, hm, z, e⟩⟩
theorem q_JR_er {T0 : m_S} (h : q_Rel Z x m N pb ns nk nc S T0) (f : q_fY m T T0) {rc : Option (Except String α)} {rm : Option (β × m_S)} {s : String} {b : β} {k : Int32} (hc : rc = some (.error s)) (hm : rm = some (b, m_pI T0 m 0 k)) (e : (s, k) ∈ cs) : q_JR Z x m (N + 1) cs eq S T rc rm :=
  ⟨_, q_ag_trans f (q_fY0 m _ k), ⟨pb, ns, nk, nc, q_Rel_N (q_Rel_t h (by omega) (by omega) (by omega)) (Nat.le_succ _)⟩, Or.inr ⟨s, b, hc, hm, by rw [pI_same]; exact e⟩⟩
theorem q_JW_er {T0 : m_S} (h : q_Rel Z x m N pb ns nk nc S T0) (f : q_fY m T T0) {rc : Option (Except String α × m_S)} {rm : Option (β × m_S)} {s : String} {b : β} {k : Int32} (hc : rc = some (.error s, S)) (hm : rm = some (b, m_pI T0 m 0 k)) (e : (s, k) ∈ cs) : q_JW Z x m (N + 1) cs eq S T rc rm :=
  ⟨S, _, q_ag_refl _ S, q_ag_trans f (q_fY0 m _ k), ⟨pb, ns, nk, nc, q_Rel_N (q_Rel_t h (by omega) (by omega) (by omega)) (Nat.le_succ _)⟩, Or.inr ⟨s, b, hc, hm, by rw [pI_same]; exact e⟩⟩
theorem q_JW_ok {T0 S' T' : m_S} (fS : q_fX x S S') (f : q_fY m T T0) (f' : q_fY m T0 T') (h : q_Rel Z x m (N + 1) pb ns nk nc S' T') (z : T'.1 m 0 = 0) {rc : Option (Except String α × m_S)} {rm : Option (β × m_S)} {a : α} {b : β} (hc : rc = some (.ok a, S')) (hm : rm = some (b, T')) (e : eq a b) : q_JW Z x m (N + 1) cs eq S T rc rm :=
  ⟨S', T', fS, q_ag_trans f f', ⟨pb, ns, nk, nc, h⟩, Or.inl ⟨a, b, hc, hm, z, e⟩⟩
end AT
theorem q_M_p {Z : m_Z} {T : m_S} {m a k : Nat} {v : Int32} (h : q_M Z T.2.2 m) : q_M Z (m_pI T a k v).2.2 m := h
theorem nz0 : ¬ ¬ (0 : Int32) = 0 := fun q => q rfl
theorem z00 : (0 : Int32) = 0 := rfl
theorem z20 : ¬ (2 : Int32) = 0 := by decide
theorem z30 : ¬ (3 : Int32) = 0 := by decide
theorem m_jp_if {c : Prop} [Decidable c] {β : Type} (k : Int32 → β) : m_jp k (fun j => if c then j 0 else j 1) = k (if c then 0 else 1) := by
  show (if c then k 0 else k 1) = _
  split <;> rfl
theorem e_mayN {Z : m_Z} {T : m_S} {m : Nat} {c : Prop} [Decidable c] {pl : Int32} (h : m_ok Z m 9) (h0 : T.1 m 0 = 0) (hp : ¬ pl = 0) {β : Type} (k : Int32 → m_S → Option β) : m_bw (f_X9_may Z T m (if c then 0 else 1) pl) k = if c then k 0 (m_pI T m 0 pl) else k 1 T := by
  split
  · rw [e_may0 h h0 hp, m_bw_s]
  · rw [e_may1 h z10 h0, m_bw_s]
theorem e_isInN {Z : m_Z} {T : m_S} {p hi : Int32} {n : Nat} (e : hi = Int32.ofNat n) (hn : n < 999) : f_X9_isIn Z T p 0 hi = some (if 0 ≤ p ∧ p < Int32.ofNat (n + 1) then 1 else 0) := by
  have := e_isN (Z := Z) (T := T) (m := 0) (p := p) (n := n + 1) (by omega)
  rw [← this, e, ← io_one]
  congr 1
  rw [t_eq, t_sub (by rw [io_one, t_ofNat (by omega), i32_1]; omega) (by rw [io_one, t_ofNat (by omega), i32_1]; omega), io_one, t_ofNat (by omega), t_ofNat (by omega), i32_1]; omega
theorem io_nn {c n : Nat} (hc : c < n) (hn : n < 2147483648) : ¬ Int32.ofNat c < 0 := fun q => by rw [t_lt, t_ofNat (by omega), i32_0] at q; omega
