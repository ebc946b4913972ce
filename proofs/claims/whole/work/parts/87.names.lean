/-! names: one to one on both sides -/
def q_fo (b : Nat) (f : Nat → Nat) : Nat → Nat
  | 0 => 0
  | i + 1 => b * q_fo b f i + f i
theorem q_fo_inj {b : Nat} (hb : b = 27 ∨ b = 32) {f g : Nat → Nat} : ∀ i j, (∀ k, k < i → 1 ≤ f k ∧ f k ≤ 26) → (∀ k, k < j → 1 ≤ g k ∧ g k ≤ 26) → (q_fo b f i = q_fo b g j ↔ (i = j ∧ ∀ k, k < i → f k = g k)) := by
  intro i
  induction i with
  | zero =>
    intro j hf hg
    cases j with
    | zero => exact ⟨fun _ => ⟨rfl, fun k hk => absurd hk (Nat.not_lt_zero _)⟩, fun _ => rfl⟩
    | succ j =>
      refine ⟨fun e => ?_, fun e => absurd e.1 (by omega)⟩
      have := hg j (by omega)
      have e' : 0 = b * q_fo b g j + g j := e
      omega
  | succ i ih =>
    intro j hf hg
    have h1 := hf i (by omega)
    cases j with
    | zero =>
      refine ⟨fun e => ?_, fun e => absurd e.1 (by omega)⟩
      have e' : b * q_fo b f i + f i = 0 := e
      omega
    | succ j =>
      have h2 := hg j (by omega)
      have IH := ih j (fun k hk => hf k (by omega)) (fun k hk => hg k (by omega))
      have e0 : (q_fo b f (i + 1) = q_fo b g (j + 1)) ↔ (q_fo b f i = q_fo b g j ∧ f i = g j) := by
        show (b * q_fo b f i + f i = b * q_fo b g j + g j) ↔ _
        rcases hb with rfl | rfl <;> omega
      rw [e0, IH]
      constructor
      · rintro ⟨⟨e1, e2⟩, e3⟩
        subst e1
        refine ⟨rfl, fun k hk => ?_⟩
        by_cases q : k = i
        · rw [q]; exact e3
        · exact e2 k (by omega)
      · rintro ⟨e1, e2⟩
        have e1' : i = j := by omega
        subst e1'
        exact ⟨⟨rfl, fun k hk => e2 k (by omega)⟩, e2 i (by omega)⟩
theorem q_fo_lt {b : Nat} (hb : b ≤ 32) {f : Nat → Nat} : ∀ i, (∀ k, k < i → f k ≤ 26) → q_fo b f i < 32 ^ i := by
  intro i
  induction i with
  | zero => intro _; show 0 < 1; omega
  | succ i ih =>
    intro hf
    have h1 := ih (fun k hk => hf k (by omega))
    have h2 := hf i (by omega)
    have h3 : b * q_fo b f i ≤ 32 * q_fo b f i := Nat.mul_le_mul_right _ hb
    show b * q_fo b f i + f i < 32 ^ (i + 1)
    rw [Nat.pow_succ]
    omega
theorem q_fo_b {b : Nat} (hb : b ≤ 32) {f : Nat → Nat} {i : Nat} (hi : i ≤ 8) (hf : ∀ k, k < i → f k ≤ 26) : q_fo b f i < 1099511627776 := by
  have h1 := q_fo_lt hb i hf
  have h2 : 32 ^ i ≤ 32 ^ 8 := Nat.pow_le_pow_right (by omega) hi
  have h3 : (32 : Nat) ^ 8 = 1099511627776 := by decide
  omega
theorem l_ofNat {n : Nat} (h : n < 9223372036854775808) : (Int64.ofNat n).toInt = n := Int64.toInt_ofNat_of_lt h
theorem q_n32 {X : Nat} {c : Int32} (hX : X < 1099511627776) (hc : 97 ≤ c.toInt ∧ c.toInt ≤ 122) : Int64.ofNat X * 32 + ((c - 97) + 1).toInt64 = Int64.ofNat (32 * X + (c.toInt - 96).toNat) := by
  have k97 : (97 : Int32).toInt = 97 := rfl
  have k1 : (1 : Int32).toInt = 1 := rfl
  have k32 : (32 : Int64).toInt = 32 := rfl
  have h1 : (c - 97).toInt = c.toInt - 97 := by rw [t_sub (by omega) (by omega), k97]
  have h2 : ((c - 97) + 1).toInt = c.toInt - 96 := by rw [t_add (by omega) (by omega), h1, k1]; omega
  have hx : (Int64.ofNat X).toInt = X := l_ofNat (by omega)
  have h3 : (Int64.ofNat X * 32).toInt = X * 32 := by rw [l_mul (by rw [hx, k32]; omega) (by rw [hx, k32]; omega), hx, k32]
  have h4 : (((c - 97) + 1).toInt64).toInt = c.toInt - 96 := by rw [l_of, h2]
  rw [l_eq, l_add (by rw [h3, h4]; omega) (by rw [h3, h4]; omega), h3, h4, l_ofNat (by omega)]
  omega
theorem q_n27 {X : Nat} {c : Int32} (hX : X < 1099511627776) (hc : 97 ≤ c.toInt ∧ c.toInt ≤ 122) : (27 * Int64.ofNat X + c.toInt64) - 96 = Int64.ofNat (27 * X + (c.toInt - 96).toNat) := by
  have k27 : (27 : Int64).toInt = 27 := rfl
  have k96 : (96 : Int64).toInt = 96 := rfl
  have hx : (Int64.ofNat X).toInt = X := l_ofNat (by omega)
  have h3 : (27 * Int64.ofNat X).toInt = 27 * X := by rw [l_mul (by rw [hx, k27]; omega) (by rw [hx, k27]; omega), hx, k27]
  have h4 : (c.toInt64).toInt = c.toInt := l_of c
  have h5 : (27 * Int64.ofNat X + c.toInt64).toInt = 27 * X + c.toInt := by rw [l_add (by rw [h3, h4]; omega) (by rw [h3, h4]; omega), h3, h4]
  rw [l_eq, l_sub (by rw [h5, k96]; omega) (by rw [h5, k96]; omega), h5, k96, l_ofNat (by omega)]
  omega
/-- the letters of the word at st, 1 to 26 -/
def q_ltr (B : Nat → Int32) (st : Nat) (k : Nat) : Nat := ((B (st + k)).toInt - 96).toNat
theorem q_nm_fo {B : Nat → Int32} {st : Nat} : ∀ l, l ≤ 8 → (∀ k, k < l → 97 ≤ (B (st + k)).toInt ∧ (B (st + k)).toInt ≤ 122) → q_nm B st l = Int64.ofNat (q_fo 27 (q_ltr B st) l) := by
  intro l
  induction l with
  | zero => intro _ _; rfl
  | succ l ih =>
    intro h8 hl
    have e := ih (by omega) (fun k hk => hl k (by omega))
    show (27 * q_nm B st l + (B (st + l)).toInt64) - 96 = Int64.ofNat (27 * q_fo 27 (q_ltr B st) l + q_ltr B st l)
    rw [e, q_n27 (q_fo_b (by omega) (by omega) (fun k hk => by have := hl k (by omega); unfold q_ltr; omega)) (hl l (by omega))]
    rfl
theorem q_ltr_b {B : Nat → Int32} {st l : Nat} (hl : ∀ k, k < l → 97 ≤ (B (st + k)).toInt ∧ (B (st + k)).toInt ≤ 122) : ∀ k, k < l → 1 ≤ q_ltr B st k ∧ q_ltr B st k ≤ 26 := fun k hk => by
  have := hl k hk
  unfold q_ltr
  omega
theorem q_scan_cg {P Q : Nat → Bool} : ∀ d i, (∀ j, i ≤ j → j < d + i → P j = Q j) → q_scan P d i = q_scan Q d i := by
  intro d
  induction d with
  | zero => intro i _; rfl
  | succ d ih =>
    intro i h
    show (if P i = true then q_scan P d (i + 1) else i) = (if Q i = true then q_scan Q d (i + 1) else i)
    rw [h i (Nat.le_refl _) (by omega), ih (i + 1) (fun j j1 j2 => h j (by omega) (by omega))]
theorem lg_cmp0 {a b : Int64} : lg_cmp a b = 0 ↔ a = b := by
  unfold lg_cmp
  by_cases q1 : a > b
  · rw [if_pos q1]
    exact ⟨fun z => absurd z (by decide), fun z => by subst z; exact absurd (l_lt.mp q1) (by omega)⟩
  · rw [if_neg q1]
    by_cases q2 : a = b
    · rw [if_pos q2]; exact ⟨fun _ => q2, fun _ => rfl⟩
    · rw [if_neg q2]; exact ⟨fun z => absurd z (by decide), fun z => absurd z q2⟩
def q_ri (r cnt : Nat) : Int32 := if r < cnt then Int32.ofNat r else -1
/-- the class's search -/
theorem g_indexOf {Z : m_Z} {S : m_S} {ac N cnt : Nat} {w : Int64} (o : m_okn Z ac 12 N) (hc : cnt ≤ N) (hN : N ≤ 10) : f_X3_indexOf Z S ac (Int32.ofNat cnt) w = some (q_ri (q_scan (fun i => decide (¬ S.2.1 ac i = w)) cnt 0) cnt) := by
  have key : ∀ (j1 : Unit → Option Int32) (j3 : Int32 → Option Int32) (d i f : Nat), d + i = cnt → d < f → m_fx (F_X3_indexOf_3 Z S ac (Int32.ofNat cnt) w j1 j3) f (Int32.ofNat i) = if q_scan (fun i => decide (¬ S.2.1 ac i = w)) d i < cnt then j3 (Int32.ofNat (q_scan (fun i => decide (¬ S.2.1 ac i = w)) d i)) else j1 () := by
    intro j1 j3 d
    induction d with
    | zero =>
      intro i f h1 h2
      obtain ⟨f, rfl⟩ : ∃ g, f = g + 1 := ⟨f - 1, by omega⟩
      show _ = if i < cnt then j3 (Int32.ofNat i) else j1 ()
      rw [m_fx_s, if_neg (show ¬ i < cnt by omega)]
      unfold F_X3_indexOf_3
      rw [if_pos ((io_le (by omega) (by omega)).mpr (by omega))]
    | succ d ih =>
      intro i f h1 h2
      obtain ⟨f, rfl⟩ : ∃ g, f = g + 1 := ⟨f - 1, by omega⟩
      have ih' := ih (i + 1) f (by omega) (by omega)
      rw [m_fx_s]
      generalize m_fx (F_X3_indexOf_3 Z S ac (Int32.ofNat cnt) w j1 j3) f = lp at *
      unfold F_X3_indexOf_3
      rw [if_neg (fun z => absurd ((io_le (by omega) (by omega)).mp z) (by omega)), m_gd_t o.1, o.2, if_neg (fun z => absurd ((io_le (by omega) (by omega)).mp z) (by omega)), m_gd_t (io_in (by omega) (by omega)), io_tn (by omega)]
      by_cases q : S.2.1 ac i = w
      · rw [if_neg (fun z => z (lg_cmp0.mpr q)), q_scan_n (fun i => decide (¬ S.2.1 ac i = w)) d i (fun z => absurd q (of_decide_eq_true (p := ¬ S.2.1 ac i = w) z)), if_pos (by omega)]
      · rw [if_pos (fun z => q (lg_cmp0.mp z)), q_scan_s (fun i => decide (¬ S.2.1 ac i = w)) d i (decide_eq_true (p := ¬ S.2.1 ac i = w) q), m_lt_s, io_one]
        exact ih'
  unfold f_X3_indexOf
  simp only [m_jp_s]
  refine (key _ _ cnt 0 100000 (by omega) (by omega)).trans ?_
  unfold q_ri
  split <;> rfl
/-- the reference's -/
theorem e_search {Z : m_Z} {T : m_S} {m ar N cnt : Nat} (o : m_okn Z ar 12 N) (hc : cnt ≤ N) (hN : N ≤ 10) : (m_fx (F_X9_named_29 Z m ar (Int32.ofNat cnt) T (fun (_ : Unit) => some ((-1 : Int32), T)) (fun (v5 : Int32) => some (v5, T))) 100000 (0 : Int32)) = some (q_ri (q_scan (fun i => decide (¬ T.2.1 ar i = T.2.1 m 20)) cnt 0) cnt, T) := by
  have key : ∀ (j1 : Unit → Option (Int32 × m_S)) (j3 : Int32 → Option (Int32 × m_S)) (d i f : Nat), d + i = cnt → d < f → m_fx (F_X9_named_29 Z m ar (Int32.ofNat cnt) T j1 j3) f (Int32.ofNat i) = if q_scan (fun i => decide (¬ T.2.1 ar i = T.2.1 m 20)) d i < cnt then j3 (Int32.ofNat (q_scan (fun i => decide (¬ T.2.1 ar i = T.2.1 m 20)) d i)) else j1 () := by
    intro j1 j3 d
    induction d with
    | zero =>
      intro i f h1 h2
      obtain ⟨f, rfl⟩ : ∃ g, f = g + 1 := ⟨f - 1, by omega⟩
      show _ = if i < cnt then j3 (Int32.ofNat i) else j1 ()
      rw [m_fx_s, if_neg (show ¬ i < cnt by omega)]
      unfold F_X9_named_29
      rw [if_pos ((io_le (by omega) (by omega)).mpr (by omega))]
    | succ d ih =>
      intro i f h1 h2
      obtain ⟨f, rfl⟩ : ∃ g, f = g + 1 := ⟨f - 1, by omega⟩
      have ih' := ih (i + 1) f (by omega) (by omega)
      rw [m_fx_s]
      generalize m_fx (F_X9_named_29 Z m ar (Int32.ofNat cnt) T j1 j3) f = lp at *
      unfold F_X9_named_29
      rw [if_neg (fun z => absurd ((io_le (by omega) (by omega)).mp z) (by omega)), m_gd_t o.1, m_gd_t (q_inn o (by omega) (by omega)), io_tn (by omega)]
      by_cases q : T.2.1 ar i = T.2.1 m 20
      · rw [if_neg (fun z => z (lg_cmp0.mpr q)), q_scan_n (fun i => decide (¬ T.2.1 ar i = T.2.1 m 20)) d i (fun z => absurd q (of_decide_eq_true (p := ¬ T.2.1 ar i = T.2.1 m 20) z)), if_pos (by omega)]
      · rw [if_pos (fun z => q (lg_cmp0.mp z)), q_scan_s (fun i => decide (¬ T.2.1 ar i = T.2.1 m 20)) d i (decide_eq_true (p := ¬ T.2.1 ar i = T.2.1 m 20) q), m_lt_s, io_one]
        exact ih'
  refine (key _ _ cnt 0 100000 (by omega) (by omega)).trans ?_
  unfold q_ri
  split <;> rfl
section NAMES
variable {Z : m_Z} {x m pd n st : Nat} {B : Nat → Int32} {S0 T0 S T : m_S}
/-- the names so far, in both tables -/
def q_nt (ac ar cnt : Nat) (S T : m_S) : Prop := ∀ i, i < cnt → ∃ f l, l ≤ 8 ∧ (∀ k, k < l → 1 ≤ f k ∧ f k ≤ 26) ∧ S.2.1 ac i = Int64.ofNat (q_fo 32 f l) ∧ T.2.1 ar i = Int64.ofNat (q_fo 27 f l)
theorem l_inj {a b : Nat} (ha : a < 1099511627776) (hb : b < 1099511627776) : Int64.ofNat a = Int64.ofNat b ↔ a = b := ⟨fun e => by have := l_eq.mp e; rw [l_ofNat (by omega), l_ofNat (by omega)] at this; omega, fun e => by rw [e]⟩
theorem q_nt_scan {ac ar cnt l : Nat} {f : Nat → Nat} (h : q_nt ac ar cnt S T) (hl : l ≤ 8) (hf : ∀ k, k < l → 1 ≤ f k ∧ f k ≤ 26) {w : Int64} (h32 : w = Int64.ofNat (q_fo 32 f l)) (h27 : T.2.1 m 20 = Int64.ofNat (q_fo 27 f l)) : q_scan (fun i => decide (¬ S.2.1 ac i = w)) cnt 0 = q_scan (fun i => decide (¬ T.2.1 ar i = T.2.1 m 20)) cnt 0 := by
  refine q_scan_cg cnt 0 (fun j _ hj => ?_)
  obtain ⟨g, l', g1, g2, g3, g4⟩ := h j (by omega)
  have e1 : S.2.1 ac j = w ↔ T.2.1 ar j = T.2.1 m 20 := by
    rw [g3, g4, h32, h27, l_inj (q_fo_b (by omega) g1 (fun k hk => (g2 k hk).2)) (q_fo_b (by omega) hl (fun k hk => (hf k hk).2)), l_inj (q_fo_b (by omega) g1 (fun k hk => (g2 k hk).2)) (q_fo_b (by omega) hl (fun k hk => (hf k hk).2)), q_fo_inj (Or.inr rfl) l' l g2 hf, q_fo_inj (Or.inl rfl) l' l g2 hf]
  show decide (¬ S.2.1 ac j = w) = decide (¬ T.2.1 ar j = T.2.1 m 20)
  exact decide_eq_decide.mpr (not_congr e1)
/-- the name at the token -/
theorem q_here (h : q_P Z x m pd n B S0 T0 st S T) : (∃ f l, T.1 m 16 = 1 ∧ Int32.ofNat l ≤ 8 ∧ T.1 m 14 - T.1 m 15 = Int32.ofNat l ∧ l ≤ 8 ∧ (∀ k, k < l → 1 ≤ f k ∧ f k ≤ 26) ∧ f_X3_nameHere Z S (x + 1) = some (.ok (Int64.ofNat (q_fo 32 f l)), S) ∧ T.2.1 m 20 = Int64.ofNat (q_fo 27 f l)) ∨ ((¬ T.1 m 16 = 1 ∨ (T.1 m 16 = 1 ∧ ¬ T.1 m 14 - T.1 m 15 ≤ 8)) ∧ ∃ S' T', f_X3_nameHere Z S (x + 1) = some (.error "java/lang/IllegalArgumentException", S') ∧ f_X9_fails Z T m 1 = some ((), T') ∧ q_Er Z x m pd S0 T0 S' T' ∧ q_wr Z m T') := by
  obtain ⟨hF, ⟨tc, tm, hs, ⟨c1, c2, c3, c4⟩, m1, m2, m3, m4, m5⟩, e1, e2, e3, e4⟩ := id h
  have iN : ∀ a b : Nat, a < 10 → b < 10 → Int32.ofNat a = Int32.ofNat b → a = b := fun a b ha hb e => by have := t_eq.mp e; rw [t_ofNat (by omega), t_ofNat (by omega)] at this; omega
  have so4 : q_so B n st ≤ 4 := by unfold q_so; have := q_kd_b (B st); split <;> (try split) <;> omega
  obtain ⟨n9, o1, r0, o2, l1, ht⟩ := id tc
  obtain ⟨b1, b2, -⟩ := q_en_b (B := B) hs
  obtain ⟨S', T', g1, r1, hE, hw⟩ := q_P_fail h (c := 1) z10
  unfold f_X3_nameHere
  rw [m_gd_t hF.o1]
  simp only [m_jp_s]
  by_cases q : q_so B n st = 1
  · obtain ⟨s1, s2, s3⟩ := q_so1 hs q
    have t16 : T.1 m 16 = 1 := by rw [m3, q]; rfl
    have tl : T.1 m 14 - T.1 m 15 = Int32.ofNat (q_en B n st - st) := by rw [m2, m1, io_sub b1]
    rw [if_neg (show ¬ ¬ S.1 (x + 1) 4 = 1 from fun z => z (by rw [c3, q]; rfl)), show S.1 (x + 1) 6 - S.1 (x + 1) 5 = Int32.ofNat (q_en B n st - st) by rw [c2, c1, io_sub b1]]
    by_cases q8 : q_en B n st - st ≤ 8
    · have l8 : Int32.ofNat (q_en B n st - st) ≤ 8 := (io_le (b := 8) (by omega) (by omega)).mpr q8
      have ll : ∀ k, k < q_en B n st - st → 97 ≤ (B (st + k)).toInt ∧ (B (st + k)).toInt ≤ 122 := fun k hk => s3 (st + k) (by omega) (by omega)
      refine Or.inl ⟨q_ltr B st, q_en B n st - st, t16, l8, tl, q8, q_ltr_b ll, ?_, ?_⟩
      · rw [if_pos l8, c1]
        have key : ∀ (j5 : Int64 → Option (Except String Int64 × m_S)) (d i f : Nat), d + i = q_en B n st - st → d < f → m_fx (F_X3_nameHere_34 Z (x + 1) S j5) f (Int64.ofNat (q_fo 32 (q_ltr B st) i), Int32.ofNat (st + i)) = j5 (Int64.ofNat (q_fo 32 (q_ltr B st) (q_en B n st - st))) := by
          intro j5 d
          induction d with
          | zero =>
            intro i f h1 h2
            obtain ⟨f, rfl⟩ : ∃ g, f = g + 1 := ⟨f - 1, by omega⟩
            rw [m_fx_s]
            unfold F_X3_nameHere_34
            simp only []
            rw [if_pos (show S.1 (x + 1) 6 ≤ Int32.ofNat (st + i) from by rw [c2]; exact (io_le (by omega) (by omega)).mpr (by omega)), show i = q_en B n st - st by omega]
          | succ d ih =>
            intro i f h1 h2
            obtain ⟨f, rfl⟩ : ∃ g, f = g + 1 := ⟨f - 1, by omega⟩
            have ih' := ih (i + 1) f (by omega) (by omega)
            have hb := ht (st + i) (by omega)
            have hl := ll i (by omega)
            have hc : (B (st + i)).toInt8.toInt32 = B (st + i) := by
              rcases q_chx _ hb.1 with ⟨-, e⟩ | ⟨e, -⟩
              · exact e
              · omega
            rw [m_fx_s]
            generalize m_fx (F_X3_nameHere_34 Z (x + 1) S j5) f = lp at *
            unfold F_X3_nameHere_34
            simp only []
            rw [if_neg (show ¬ S.1 (x + 1) 6 ≤ Int32.ofNat (st + i) from by rw [c2]; exact fun z => absurd ((io_le (by omega) (by omega)).mp z) (by omega)), r0, m_b1_s, m_gd_t o2.1, m_gd_t (q_inn o2 (by omega) (by omega)), io_tn (by omega), hb.2, hc, q_n32 (q_fo_b (by omega) (by omega) (fun k hk => (q_ltr_b ll k (by omega)).2)) hl, io_one, m_lt_s, m_lt_s]
            exact ih'
        exact key _ (q_en B n st - st) 0 100000 (by omega) (by omega)
      · rw [m5 q, q_min_l q8]
        exact q_nm_fo _ q8 ll
    · have l8 : ¬ Int32.ofNat (q_en B n st - st) ≤ 8 := fun z => q8 ((io_le (b := 8) (by omega) (by omega)).mp z)
      refine Or.inr ⟨Or.inr ⟨t16, by rw [tl]; exact l8⟩, S', T', ?_, r1, hE, hw⟩
      rw [if_neg l8, g1, m_bx_e]
  · refine Or.inr ⟨Or.inl (by rw [m3]; exact fun z => q (iN _ 1 (by omega) (by omega) z)), S', T', ?_, r1, hE, hw⟩
    rw [if_pos (show ¬ S.1 (x + 1) 4 = 1 from by rw [c3]; exact fun z => q (iN _ 1 (by omega) (by omega) z)), g1, m_bx_e]
end NAMES
