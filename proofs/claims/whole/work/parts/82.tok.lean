/-! the text and its tokens -/
theorem q_chx (b : Int32) (h : 0 ≤ b.toInt ∧ b.toInt ≤ 255) : (b.toInt ≤ 127 ∧ b.toInt8.toInt32 = b) ∨ (128 ≤ b.toInt ∧ (b.toInt8.toInt32).toInt = b.toInt - 256) := by
  have e : (b.toInt8.toInt32).toInt = b.toInt.bmod (2 ^ 8) := by
    rw [Int8.toInt_toInt32, Int32.toInt_toInt8]
  have e2 : b.toInt.bmod (2 ^ 8) = if b.toInt ≤ 127 then b.toInt else b.toInt - 256 := by
    rw [Int.bmod_def]
    split <;> split <;> omega
  rw [e2] at e
  by_cases q : b.toInt ≤ 127
  · rw [if_pos q] at e
    exact Or.inl ⟨q, Int32.toInt_inj.mp e⟩
  · rw [if_neg q] at e
    exact Or.inr ⟨by omega, e⟩
theorem q_vx (v b : Int32) : ((10 : Int32) * v + b) - 48 = v * 10 + (b - 48) := by
  rw [Int32.sub_eq_add_neg, Int32.sub_eq_add_neg, Int32.add_assoc, Int32.mul_comm]
def q_scan (P : Nat → Bool) : Nat → Nat → Nat
  | 0, i => i
  | d + 1, i => if P i then q_scan P d (i + 1) else i
theorem q_scan_le (P : Nat → Bool) : ∀ d i, i ≤ q_scan P d i ∧ q_scan P d i ≤ d + i ∧ (∀ j, i ≤ j → j < q_scan P d i → P j = true) ∧ (q_scan P d i < d + i → P (q_scan P d i) = false) := by
  intro d
  induction d with
  | zero => intro i; exact ⟨Nat.le_refl _, by show i ≤ 0 + i; omega, fun j h1 h2 => absurd h2 (by show ¬ j < i; omega), fun h => absurd h (by show ¬ i < 0 + i; omega)⟩
  | succ d ih =>
    intro i
    obtain ⟨h1, h2, h3, h4⟩ := ih (i + 1)
    by_cases q : P i = true
    · have e : q_scan P (d + 1) i = q_scan P d (i + 1) := by show (if P i = true then _ else _) = _; rw [if_pos q]
      rw [e]
      refine ⟨by omega, by omega, fun j j1 j2 => ?_, fun h => h4 (by omega)⟩
      by_cases e2 : j = i
      · rw [e2]; exact q
      · exact h3 j (by omega) j2
    · have e : q_scan P (d + 1) i = i := by show (if P i = true then _ else _) = _; rw [if_neg q]
      rw [e]
      exact ⟨Nat.le_refl _, by omega, fun j j1 j2 => absurd j2 (by omega), fun _ => by simpa using q⟩
theorem q_scan_s (P : Nat → Bool) (d i : Nat) (h : P i = true) : q_scan P (d + 1) i = q_scan P d (i + 1) := by show (if P i = true then _ else _) = _; rw [if_pos h]
theorem q_scan_n (P : Nat → Bool) (d i : Nat) (h : ¬ P i = true) : q_scan P (d + 1) i = i := by show (if P i = true then _ else _) = _; rw [if_neg h]
def q_isL (b : Int32) : Bool := decide (97 ≤ b.toInt ∧ b.toInt ≤ 122)
def q_isD (b : Int32) : Bool := decide (48 ≤ b.toInt ∧ b.toInt ≤ 57)
def q_isB (b : Int32) : Bool := decide (b.toInt = 10 ∨ b.toInt = 32)
def q_kd (b : Int32) : Nat := if q_isL b = true then 1 else if q_isD b = true then 2 else if b.toInt = 59 then 3 else 4
theorem q_isL_t {b : Int32} : q_isL b = true ↔ 97 ≤ b.toInt ∧ b.toInt ≤ 122 := by unfold q_isL; exact decide_eq_true_iff
theorem q_isD_t {b : Int32} : q_isD b = true ↔ 48 ≤ b.toInt ∧ b.toInt ≤ 57 := by unfold q_isD; exact decide_eq_true_iff
theorem q_isB_t {b : Int32} : q_isB b = true ↔ b.toInt = 10 ∨ b.toInt = 32 := by unfold q_isB; exact decide_eq_true_iff
theorem q_chv {b : Int32} (h : 0 ≤ b.toInt ∧ b.toInt ≤ 255) : (b.toInt ≤ 127 ∧ b.toInt8.toInt32.toInt = b.toInt) ∨ (128 ≤ b.toInt ∧ b.toInt8.toInt32.toInt = b.toInt - 256) := by
  rcases q_chx b h with ⟨h1, h2⟩ | h1
  · exact Or.inl ⟨h1, by rw [h2]⟩
  · exact Or.inr h1
theorem g_blank {Z : m_Z} {S : m_S} {b : Int32} (h : 0 ≤ b.toInt ∧ b.toInt ≤ 255) : f_X3_isBlank Z S b.toInt8.toInt32 = some (if q_isB b = true then 1 else 0) := by
  have hc := q_chv h
  obtain ⟨c, hcc⟩ : ∃ y, y = b.toInt8.toInt32 := ⟨_, rfl⟩
  rw [← hcc] at hc ⊢
  have k10 : c = 10 ↔ c.toInt = 10 := t_eq
  have k32 : c = 32 ↔ c.toInt = 32 := t_eq
  unfold f_X3_isBlank
  by_cases q1 : b.toInt = 10
  · rw [if_pos (k10.mpr (by omega)), if_pos (q_isB_t.mpr (Or.inl q1))]
  · by_cases q2 : b.toInt = 32
    · rw [if_neg (fun e => by have := k10.mp e; omega), if_neg (fun e => e (k32.mpr (by omega))), if_pos (q_isB_t.mpr (Or.inr q2))]
    · rw [if_neg (fun e => by have := k10.mp e; omega), if_pos (fun e => by have := k32.mp e; omega), if_neg (fun e => by have := q_isB_t.mp e; omega)]
theorem g_tokOf {Z : m_Z} {S : m_S} {b : Int32} (h : 0 ≤ b.toInt ∧ b.toInt ≤ 255) : f_X3_tokenOf Z S b.toInt8.toInt32 = some (Int32.ofNat (q_kd b)) := by
  have hc := q_chv h
  obtain ⟨c, hcc⟩ : ∃ y, y = b.toInt8.toInt32 := ⟨_, rfl⟩
  rw [← hcc] at hc ⊢
  have k97 : c < 97 ↔ c.toInt < 97 := t_lt
  have k48 : c < 48 ↔ c.toInt < 48 := t_lt
  have k122 : (122 : Int32) < c ↔ 122 < c.toInt := t_lt
  have k57 : (57 : Int32) < c ↔ 57 < c.toInt := t_lt
  have k59 : c = 59 ↔ c.toInt = 59 := t_eq
  unfold f_X3_tokenOf q_kd
  rw [m_jp_s]
  by_cases L : 97 ≤ b.toInt ∧ b.toInt ≤ 122
  · rw [if_neg (fun e => by have := k97.mp e; omega), if_neg (fun e => by have := k122.mp e; omega), if_pos (q_isL_t.mpr L)]; rfl
  · rw [if_neg (fun e => L (q_isL_t.mp e))]
    have hA : (if c < 97 then (if c < (48 : Int32) then (if ¬ c = (59 : Int32) then some (4 : Int32) else some (3 : Int32)) else (if (57 : Int32) < c then (if ¬ c = (59 : Int32) then some (4 : Int32) else some (3 : Int32)) else some (2 : Int32))) else if (122 : Int32) < c then (if c < (48 : Int32) then (if ¬ c = (59 : Int32) then some (4 : Int32) else some (3 : Int32)) else (if (57 : Int32) < c then (if ¬ c = (59 : Int32) then some (4 : Int32) else some (3 : Int32)) else some (2 : Int32))) else some (1 : Int32)) = (if c < (48 : Int32) then (if ¬ c = (59 : Int32) then some (4 : Int32) else some (3 : Int32)) else (if (57 : Int32) < c then (if ¬ c = (59 : Int32) then some (4 : Int32) else some (3 : Int32)) else some (2 : Int32))) := by
      by_cases q1 : c < 97
      · rw [if_pos q1]
      · rw [if_neg q1, if_pos (k122.mpr (by have : ¬ c.toInt < 97 := fun e => q1 (k97.mpr e); omega))]
    refine Eq.trans hA ?_
    by_cases D : 48 ≤ b.toInt ∧ b.toInt ≤ 57
    · rw [if_neg (fun e => by have := k48.mp e; omega), if_neg (fun e => by have := k57.mp e; omega), if_pos (q_isD_t.mpr D)]; rfl
    · rw [if_neg (fun e => D (q_isD_t.mp e))]
      by_cases E : b.toInt = 59
      · rw [if_neg (fun e => by have := k48.mp e; omega), if_pos (k57.mpr (by omega)), if_neg (fun e => e (k59.mpr (by omega))), if_pos E]; rfl
      · rw [if_neg E]
        have n59 : ¬ c = 59 := fun e => by have := k59.mp e; omega
        by_cases q : c < 48
        · rw [if_pos q, if_pos n59]; rfl
        · rw [if_neg q, if_pos (k57.mpr (by have : ¬ c.toInt < 48 := fun e => q (k48.mpr e); omega)), if_pos n59]; rfl
theorem e_isL {Z : m_Z} {S : m_S} (v : Int32) : f_X9_isLetter Z S v = some (if q_isL v = true then 1 else 0) := by
  have k97 : v < 97 ↔ v.toInt < 97 := t_lt
  have k122 : (122 : Int32) < v ↔ 122 < v.toInt := t_lt
  unfold f_X9_isLetter
  by_cases q1 : v < 97
  · rw [if_pos q1, if_neg (fun e => by have := q_isL_t.mp e; have := k97.mp q1; omega)]
  · by_cases q2 : 122 < v
    · rw [if_neg q1, if_pos q2, if_neg (fun e => by have := q_isL_t.mp e; have := k122.mp q2; omega)]
    · rw [if_neg q1, if_neg q2, if_pos (q_isL_t.mpr ⟨by have : ¬ v.toInt < 97 := fun e => q1 (k97.mpr e); omega, by have : ¬ 122 < v.toInt := fun e => q2 (k122.mpr e); omega⟩)]
theorem e_isD {Z : m_Z} {S : m_S} (v : Int32) : f_X9_isDigit Z S v = some (if q_isD v = true then 1 else 0) := by
  have k48 : v < 48 ↔ v.toInt < 48 := t_lt
  have k57 : (57 : Int32) < v ↔ 57 < v.toInt := t_lt
  unfold f_X9_isDigit
  by_cases q1 : v < 48
  · rw [if_pos q1, if_neg (fun e => by have := q_isD_t.mp e; have := k48.mp q1; omega)]
  · by_cases q2 : 57 < v
    · rw [if_neg q1, if_pos q2, if_neg (fun e => by have := q_isD_t.mp e; have := k57.mp q2; omega)]
    · rw [if_neg q1, if_neg q2, if_pos (q_isD_t.mpr ⟨by have : ¬ v.toInt < 48 := fun e => q1 (k48.mpr e); omega, by have : ¬ 57 < v.toInt := fun e => q2 (k57.mpr e); omega⟩)]
/-- the class's text -/
def q_txc (Z : m_Z) (x n : Nat) (B : Nat → Int32) (S : m_S) : Prop := n ≤ 900 ∧ m_ok Z (x + 1) 3 ∧ S.2.2 (x + 1) 0 = some (x + 2) ∧ m_okn Z (x + 2) 10 900 ∧ S.1 (x + 1) 1 = Int32.ofNat n ∧ ∀ j, j < n → (0 ≤ (B j).toInt ∧ (B j).toInt ≤ 255) ∧ S.1 (x + 2) j = (B j).toInt8.toInt32
/-- the reference's -/
def q_txm (Z : m_Z) (m n : Nat) (B : Nat → Int32) (T : m_S) : Prop := n ≤ 900 ∧ q_M Z T.2.2 m ∧ T.1 m 13 = Int32.ofNat n ∧ ∀ j, j < n → (0 ≤ (B j).toInt ∧ (B j).toInt ≤ 255) ∧ T.1 (m + 11) j = B j
theorem q_txc_ag {Z : m_Z} {x n : Nat} {B : Nat → Int32} {S S' : m_S} (h : q_txc Z x n B S) (hS : q_ag (fun b k => (b = x + 1 ∧ k = 1) ∨ b = x + 2) S S') (hr : S'.2.2 (x + 1) 0 = S.2.2 (x + 1) 0) : q_txc Z x n B S' := by
  obtain ⟨h1, h2, h3, h4, h5, h6⟩ := h
  exact ⟨h1, h2, by rw [hr]; exact h3, h4, by rw [(hS _ _ (Or.inl ⟨rfl, rfl⟩)).1]; exact h5, fun j hj => ⟨(h6 j hj).1, by rw [(hS _ _ (Or.inr rfl)).1]; exact (h6 j hj).2⟩⟩
theorem q_txm_ag {Z : m_Z} {m n : Nat} {B : Nat → Int32} {T T' : m_S} (h : q_txm Z m n B T) (hT : q_ag (fun b k => (b = m ∧ k = 13) ∨ b = m + 11) T T') (hM : q_M Z T'.2.2 m) : q_txm Z m n B T' := by
  obtain ⟨h1, h2, h3, h4⟩ := h
  exact ⟨h1, hM, by rw [(hT _ _ (Or.inl ⟨rfl, rfl⟩)).1]; exact h3, fun j hj => ⟨(h4 j hj).1, by rw [(hT _ _ (Or.inr rfl)).1]; exact (h4 j hj).2⟩⟩
theorem e_at {Z : m_Z} {m n : Nat} {B : Nat → Int32} {T : m_S} (h : q_txm Z m n B T) (p : Nat) (hp : p < 2000000) : f_X9_at Z T m (Int32.ofNat p) = some (if p < n then B p else -1) := by
  obtain ⟨h1, h2, h3, h4⟩ := h
  unfold f_X9_at
  rw [m_gd_t h2.o]
  by_cases q : p < n
  · rw [if_neg (show ¬ T.1 m 13 ≤ Int32.ofNat p from by rw [h3]; exact fun z => absurd ((io_le (by omega) (by omega)).mp z) (by omega)), h2.text.1, m_b1_s, m_gd_t h2.text.2.1, m_gd_t (q_inn h2.text.2 (by omega) (by omega)), io_tn (by omega), (h4 p q).2, if_pos q]
  · rw [if_pos (show T.1 m 13 ≤ Int32.ofNat p from by rw [h3]; exact (io_le (by omega) (by omega)).mpr (by omega)), if_neg q]
theorem g_bl {Z : m_Z} {x n : Nat} {B : Nat → Int32} : ∀ (d i f : Nat) (S : m_S), d + i = n → d < f → S.1 (x + 1) 6 = Int32.ofNat i → q_txc Z x n B S → ∃ S', (∀ j47, m_fx (F_X3_readToken_0 Z (x + 1) j47) f S = j47 S') ∧ S'.1 (x + 1) 6 = Int32.ofNat (q_scan (fun j => q_isB (B j)) d i) ∧ q_ag (fun b k => ¬ (b = x + 1 ∧ k = 6)) S S' ∧ S'.2 = S.2 := by
  intro d
  induction d with
  | zero =>
    intro i f S h1 h2 h6 h
    obtain ⟨f, rfl⟩ : ∃ g, f = g + 1 := ⟨f - 1, by omega⟩
    obtain ⟨n9, o1, r0, o2, l1, ht⟩ := h
    refine ⟨S, fun j47 => ?_, h6, q_ag_refl _ _, rfl⟩
    rw [m_fx_s]
    unfold F_X3_readToken_0
    rw [m_gd_t o1, if_pos (show S.1 (x + 1) 1 ≤ S.1 (x + 1) 6 from by rw [l1, h6]; exact (io_le (by omega) (by omega)).mpr (by omega))]
  | succ d ih =>
    intro i f S h1 h2 h6 h
    obtain ⟨f, rfl⟩ : ∃ g, f = g + 1 := ⟨f - 1, by omega⟩
    obtain ⟨n9, o1, r0, o2, l1, ht⟩ := id h
    have hb := ht i (by omega)
    have hd : ¬ S.1 (x + 1) 1 ≤ S.1 (x + 1) 6 := by rw [l1, h6]; exact fun z => absurd ((io_le (by omega) (by omega)).mp z) (by omega)
    by_cases q : q_isB (B i) = true
    · obtain ⟨S1, hS1⟩ : ∃ y, y = m_pI S (x + 1) 6 (Int32.ofNat (i + 1)) := ⟨_, rfl⟩
      have a1 : q_ag (fun b k => ¬ (b = x + 1 ∧ k = 6)) S S1 := by rw [hS1]; exact q_ag_I (q_ag_refl _ _) (by omega)
      obtain ⟨S', e1, e2, e3, e4⟩ := ih (i + 1) f S1 (by omega) (by omega) (by rw [hS1]; exact pI_same _ _ _ _) (q_txc_ag h (q_ag_sub a1 (fun b k hb => by omega)) (by rw [hS1]; rfl))
      refine ⟨S', fun j47 => ?_, by rw [e2, q_scan_s _ _ _ q], q_ag_trans a1 e3, by rw [e4, hS1]; rfl⟩
      have e1' := e1 j47
      rw [m_fx_s]
      generalize m_fx (F_X3_readToken_0 Z (x + 1) j47) f = lp at *
      unfold F_X3_readToken_0
      rw [m_gd_t o1, if_neg hd, r0, m_b1_s, m_gd_t o2.1, h6, m_gd_t (q_inn o2 (by omega) (by omega)), io_tn (by omega), hb.2, g_blank hb.1, m_b1_s, if_pos q, if_neg z10, m_lt_s, io_one, ← hS1]
      exact e1'
    · refine ⟨S, fun j47 => ?_, by rw [q_scan_n _ _ _ q]; exact h6, q_ag_refl _ _, rfl⟩
      rw [m_fx_s]
      unfold F_X3_readToken_0
      rw [m_gd_t o1, if_neg hd, r0, m_b1_s, m_gd_t o2.1, h6, m_gd_t (q_inn o2 (by omega) (by omega)), io_tn (by omega), hb.2, g_blank hb.1, m_b1_s, if_neg q, if_pos z00]
theorem g_run {Z : m_Z} {x n kk : Nat} {B : Nat → Int32} (kk4 : kk ≤ 4) : ∀ (d i f : Nat) (S : m_S), d + i = n → d < f → S.1 (x + 1) 6 = Int32.ofNat i → S.1 (x + 1) 4 = Int32.ofNat kk → q_txc Z x n B S → ∃ S', (∀ j23, m_fx (F_X3_readToken_111 Z (x + 1) j23) f S = j23 S') ∧ S'.1 (x + 1) 6 = Int32.ofNat (q_scan (fun j => decide (q_kd (B j) = kk)) d i) ∧ q_ag (fun b k => ¬ (b = x + 1 ∧ k = 6)) S S' ∧ S'.2 = S.2 := by
  intro d
  induction d with
  | zero =>
    intro i f S h1 h2 h6 h4 h
    obtain ⟨f, rfl⟩ : ∃ g, f = g + 1 := ⟨f - 1, by omega⟩
    obtain ⟨n9, o1, r0, o2, l1, ht⟩ := h
    refine ⟨S, fun j47 => ?_, h6, q_ag_refl _ _, rfl⟩
    rw [m_fx_s]
    unfold F_X3_readToken_111
    rw [if_pos (show S.1 (x + 1) 1 ≤ S.1 (x + 1) 6 from by rw [l1, h6]; exact (io_le (by omega) (by omega)).mpr (by omega))]
  | succ d ih =>
    intro i f S h1 h2 h6 h4 h
    obtain ⟨f, rfl⟩ : ∃ g, f = g + 1 := ⟨f - 1, by omega⟩
    obtain ⟨n9, o1, r0, o2, l1, ht⟩ := id h
    have hb := ht i (by omega)
    have hd : ¬ S.1 (x + 1) 1 ≤ S.1 (x + 1) 6 := by rw [l1, h6]; exact fun z => absurd ((io_le (by omega) (by omega)).mp z) (by omega)
    have kb : q_kd (B i) ≤ 4 := by unfold q_kd; split <;> (try split) <;> (try split) <;> omega
    by_cases q : q_kd (B i) = kk
    · obtain ⟨S1, hS1⟩ : ∃ y, y = m_pI S (x + 1) 6 (Int32.ofNat (i + 1)) := ⟨_, rfl⟩
      have a1 : q_ag (fun b k => ¬ (b = x + 1 ∧ k = 6)) S S1 := by rw [hS1]; exact q_ag_I (q_ag_refl _ _) (by omega)
      obtain ⟨S', e1, e2, e3, e4⟩ := ih (i + 1) f S1 (by omega) (by omega) (by rw [hS1]; exact pI_same _ _ _ _) (by rw [(a1 _ _ (by omega)).1]; exact h4) (q_txc_ag h (q_ag_sub a1 (fun b k hb => by omega)) (by rw [hS1]; rfl))
      refine ⟨S', fun j47 => ?_, by rw [e2, q_scan_s _ _ _ (decide_eq_true_iff.mpr q)], q_ag_trans a1 e3, by rw [e4, hS1]; rfl⟩
      have e1' := e1 j47
      rw [m_fx_s]
      generalize m_fx (F_X3_readToken_111 Z (x + 1) j47) f = lp at *
      unfold F_X3_readToken_111
      rw [if_neg hd, r0, m_b1_s, m_gd_t o2.1, h6, m_gd_t (q_inn o2 (by omega) (by omega)), io_tn (by omega), hb.2, g_tokOf hb.1, m_b1_s, if_neg (show ¬ ¬ Int32.ofNat (q_kd (B i)) = S.1 (x + 1) 4 from by rw [h4, q]; exact fun z => z rfl), m_lt_s, io_one, ← hS1]
      exact e1'
    · refine ⟨S, fun j47 => ?_, by rw [q_scan_n _ _ _ (fun z => q (decide_eq_true_iff.mp z))]; exact h6, q_ag_refl _ _, rfl⟩
      rw [m_fx_s]
      unfold F_X3_readToken_111
      rw [if_neg hd, r0, m_b1_s, m_gd_t o2.1, h6, m_gd_t (q_inn o2 (by omega) (by omega)), io_tn (by omega), hb.2, g_tokOf hb.1, m_b1_s, if_pos (show ¬ Int32.ofNat (q_kd (B i)) = S.1 (x + 1) 4 from by rw [h4]; exact fun z => q (by have := t_eq.mp z; rw [t_ofNat (by omega), t_ofNat (by omega)] at this; omega))]
