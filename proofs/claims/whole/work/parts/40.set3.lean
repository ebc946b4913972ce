def q_d (p : Nat → Int32) : Nat → Int32 := fun i => p (6 + 2 * i)
def q_s (p : Nat → Int32) : Nat → Int32 := fun i => p (7 + 2 * i)
theorem q_line_same (a s d : Int32) : q_line a a s d = a := by
  unfold q_line
  rw [Int32.sub_self, Int32.zero_mul, Int32.zero_div, Int32.add_zero]
theorem io_modn {a n : Nat} (ha : a < 2147483648) (h0 : 0 < n) (hn : n < 2147483648) : Int32.ofNat a - Int32.ofNat a / Int32.ofNat n * Int32.ofNat n = Int32.ofNat (a % n) := by
  have e : Int32.ofNat a / Int32.ofNat n = Int32.ofNat (a / n) := by
    have : a / n ≤ a := Nat.div_le_self _ _
    rw [t_eq, t_div (by rw [t_ofNat hn]; omega), t_ofNat ha, t_ofNat hn, t_ofNat (by omega), d_pos (by omega)]
    omega
  have h := Nat.div_add_mod a n
  rw [Nat.mul_comm] at h
  rw [e, io_mul, io_sub (by omega)]
  exact congrArg _ (by omega)
theorem e_sel {Z : m_Z} {S : m_S} {m : Nat} {day : Int32} (h : q_M Z S.2.2 m) (j52 : Int32 → Option Int32) : ∀ (i fuel : Nat), i ≤ 12 → i < fuel → m_fx (F_X9_setOn_34 Z S m day j52) fuel (Int32.ofNat i + (-1 : Int32)) = j52 (match q_sel (q_d (S.1 (m + 1))) day i with | some k => Int32.ofNat k | none => -1) := by
  intro i
  induction i with
  | zero =>
    intro fuel h1 h2
    obtain ⟨u, rfl⟩ : ∃ u, fuel = u + 1 := ⟨fuel - 1, by omega⟩
    rw [m_fx_s]
    unfold F_X9_setOn_34
    rw [show Int32.ofNat 0 + (-1 : Int32) = -1 from by decide, if_pos (by decide)]
    rfl
  | succ i ih =>
    intro fuel h1 h2
    obtain ⟨u, rfl⟩ : ∃ u, fuel = u + 1 := ⟨fuel - 1, by omega⟩
    have e0 : Int32.ofNat (i + 1) + (-1 : Int32) = Int32.ofNat i := by
      show Int32.ofNat (i + 1) + -(1 : Int32) = _
      rw [← Int32.sub_eq_add_neg]
      exact io_sub (a := i + 1) (b := 1) (by omega)
    have e6 : (6 : Int32) + (2 : Int32) * Int32.ofNat i = Int32.ofNat (6 + 2 * i) := by
      show Int32.ofNat 6 + Int32.ofNat 2 * Int32.ofNat i = _
      rw [io_mul, io_add]
    have hn : ¬ Int32.ofNat i < 0 := fun q => absurd ((io_lt (b := 0) (by omega) (by omega)).mp q) (by omega)
    rw [m_fx_s, e0]
    generalize hlp : m_fx (F_X9_setOn_34 Z S m day j52) u = lp
    unfold F_X9_setOn_34
    rw [if_neg hn, h.p.1, m_b1_s, m_gd_t h.p.2.1, m_lt_s, e6, m_gd_t (q_inn h.p.2 (by omega) (by omega))]
    simp only [io_tn (show 6 + 2 * i < 2147483648 by omega), m_lt_s]
    unfold q_sel
    by_cases q : S.1 (m + 1) (6 + 2 * i) ≤ day
    · rw [if_pos q, if_pos (show q_d (S.1 (m + 1)) i ≤ day from q)]
    · rw [if_neg q, if_neg (show ¬ q_d (S.1 (m + 1)) i ≤ day from q), ← hlp]
      exact ih u (by omega) (by omega)
theorem e_set {Z : m_Z} {S : m_S} {m n : Nat} {day : Int32} (h : q_M Z S.2.2 m) (hn : S.1 (m + 1) 2 = Int32.ofNat n) (hw : q_ws (q_d (S.1 (m + 1))) (q_s (S.1 (m + 1))) n) : f_X9_setOn Z S m day = some (q_set (q_d (S.1 (m + 1))) (q_s (S.1 (m + 1))) n day) := by
  have n12 := hw.1
  have z2 : (2 : Int32).toNatClampNeg = 2 := rfl
  have z7 : (7 : Int32).toNatClampNeg = 7 := rfl
  have c2 : (2 : Int32) ≤ Int32.ofNat n ↔ 2 ≤ n := io_le (a := 2) (by omega) (by omega)
  have c0 : Int32.ofNat n = 0 ↔ n = 0 := by
    rw [show (0 : Int32) = Int32.ofNat 0 from rfl, t_eq, t_ofNat (by omega), t_ofNat (by omega)]; omega
  unfold f_X9_setOn
  rw [m_gd_t h.o, h.p.1, m_b1_s, m_gd_t h.p.2.1, m_gd_t (show m_in 2 (Z.2.2 (m + 1)) from q_inn (i := 2) h.p.2 (by omega) (by omega))]
  simp only [z2, z7, hn]
  by_cases n2 : 2 ≤ n
  · rw [if_pos (c2.mpr n2), m_lt_s]
    refine m_jp_i (fun j52 e52 => ?_)
    have hs := e_sel (Z := Z) (S := S) (m := m) (day := day) h j52 n 100000 n12 (by omega)
    have en : Int32.ofNat n + (-1 : Int32) = Int32.ofNat n - (1 : Int32) := by
      show Int32.ofNat n + -(1 : Int32) = _
      rw [← Int32.sub_eq_add_neg]
    rw [en] at hs
    refine hs.trans ?_
    rw [e52]
    have em : Int32.ofNat n - (1 : Int32) = Int32.ofNat (n - 1) := io_sub (b := 1) (by omega)
    generalize hv9 : (match q_sel (q_d (S.1 (m + 1))) day n with | some k => Int32.ofNat k | none => (-1 : Int32)) = v9
    generalize hf : (q_sel (q_d (S.1 (m + 1))) day n).getD (n - 1) = f
    have hfn : f < n := by
      rw [← hf]
      cases hq : q_sel (q_d (S.1 (m + 1))) day n with
      | none => show n - 1 < n; omega
      | some k => exact (q_sel_some hq).1
    obtain ⟨to, hto⟩ : ∃ to, to = if f = n - 1 then 0 else f + 1 := ⟨_, rfl⟩
    have htn : to < n := by rw [hto]; split <;> omega
    have hmod : (f + 1) % n = to := by
      rw [hto]
      by_cases q : f = n - 1
      · rw [if_pos q, q, show n - 1 + 1 = n by omega, Nat.mod_self]
      · rw [if_neg q, Nat.mod_eq_of_lt (by omega)]
    obtain ⟨w, hw9⟩ : ∃ w : Int32, w = if f = n - 1 then 365 else 0 := ⟨_, rfl⟩
    obtain ⟨z, hz⟩ : ∃ z : Int32, z = if 0 ≤ v9 then 0 else 365 := ⟨_, rfl⟩
    have hv : (if 0 ≤ v9 then v9 else Int32.ofNat n - (1 : Int32)) = Int32.ofNat f := by
      rw [← hv9, ← hf]
      cases hq : q_sel (q_d (S.1 (m + 1))) day n with
      | none => show (if 0 ≤ (-1 : Int32) then _ else _) = Int32.ofNat (n - 1); rw [if_neg (by decide), em]
      | some k =>
        have := (q_sel_some hq).1
        show (if 0 ≤ Int32.ofNat k then Int32.ofNat k else _) = Int32.ofNat k
        have c9 : (0 : Int32) ≤ Int32.ofNat k := (io_le (a := 0) (b := k) (by omega) (by omega)).mpr (by omega)
        rw [if_pos c9]
    refine m_jp_i (fun j10 e10 => ?_)
    have k10 : (if 0 ≤ v9 then j10 v9 else j10 (Int32.ofNat n - (1 : Int32))) = j10 (Int32.ofNat f) := by
      rw [← hv]
      by_cases q : 0 ≤ v9
      · rw [if_pos q, if_pos q]
      · rw [if_neg q, if_neg q]
    refine k10.trans ?_
    have ix : ∀ i, (6 : Int32) + (2 : Int32) * Int32.ofNat i = Int32.ofNat (6 + 2 * i) := fun i => by
      show Int32.ofNat 6 + Int32.ofNat 2 * Int32.ofNat i = _
      rw [io_mul, io_add]
    have iy : ∀ i, Int32.ofNat (6 + 2 * i) + (1 : Int32) = Int32.ofNat (7 + 2 * i) := fun i => by rw [io_one]; exact congrArg _ (by omega)
    rw [e10, m_gd_t (show ¬ Int32.ofNat n = 0 from fun q => by have := c0.mp q; omega), m_lt_s, io_one, io_modn (by omega) (by omega) (by omega), hmod, m_b1_s, m_gd_t h.p.2.1, m_lt_s, ix, m_gd_t (q_inn h.p.2 (by omega) (by omega))]
    refine m_jp_i (fun j21 e21 => ?_)
    have k21 : (if 0 ≤ v9 then j21 (0 : Int32) else j21 (365 : Int32)) = j21 z := by
      rw [hz]
      by_cases q : 0 ≤ v9
      · rw [if_pos q, if_pos q]
      · rw [if_neg q, if_neg q]
    refine k21.trans ?_
    rw [e21, m_lt_s, m_b1_s, m_gd_t h.p.2.1, m_lt_s, ix, m_gd_t (q_inn h.p.2 (by omega) (by omega)), m_lt_s, m_gd_t (q_inn h.p.2 (by omega) (by omega))]
    refine m_jp_i (fun j34 e34 => ?_)
    have k34 : (if ¬ Int32.ofNat to = 0 then j34 (0 : Int32) else j34 (365 : Int32)) = j34 w := by
      have ct : Int32.ofNat to = 0 ↔ f = n - 1 := by
        rw [show (0 : Int32) = Int32.ofNat 0 from rfl, t_eq, t_ofNat (by omega), t_ofNat (by omega), hto]
        by_cases q : f = n - 1
        · rw [if_pos q]; exact ⟨fun _ => q, fun _ => rfl⟩
        · rw [if_neg q]; exact ⟨fun q2 => by omega, fun q2 => absurd q2 q⟩
      rw [hw9]
      by_cases q : f = n - 1
      · rw [if_neg (fun k => k (ct.mpr q)), if_pos q]
      · rw [if_pos (fun k => q (ct.mp k)), if_neg q]
    refine k34.trans ?_
    rw [e34, m_lt_s, m_b1_s, m_gd_t h.p.2.1, m_lt_s, iy, m_gd_t (q_inn h.p.2 (by omega) (by omega)), m_lt_s, iy, m_gd_t (q_inn h.p.2 (by omega) (by omega)), io_tn (by omega), io_tn (by omega), io_tn (by omega), io_tn (by omega)]
    have sp : 1 ≤ ((S.1 (m + 1) (6 + 2 * to) - S.1 (m + 1) (6 + 2 * f)) + w).toInt := by
      rw [hto, hw9]
      by_cases q : f = n - 1
      · rw [if_pos q, if_pos q]; exact hw.span hfn
      · rw [if_neg q, if_neg q, Int32.add_zero]; exact hw.span2 (by omega)
    rw [e_line sp, m_b1_s]
    refine congrArg some ?_
    unfold q_set
    rw [if_neg (show ¬ n = 0 by omega)]
    cases hq : q_sel (q_d (S.1 (m + 1))) day n with
    | none =>
      rw [hq] at hf hv9
      have ef : f = n - 1 := hf.symm
      have e9 : v9 = -1 := hv9.symm
      subst ef
      have hz2 : z = 365 := by rw [hz, e9, if_neg (by decide)]
      rw [hto, hw9, if_pos rfl, if_pos rfl, hz2]
      rfl
    | some k =>
      rw [hq] at hf hv9
      have ef : k = f := hf
      have e9 : v9 = Int32.ofNat k := hv9.symm
      subst ef
      have c9 : (0 : Int32) ≤ Int32.ofNat k := (io_le (a := 0) (b := k) (by omega) (by omega)).mpr (by omega)
      have hz2 : z = 0 := by rw [hz, e9, if_pos c9]
      show _ = if k = n - 1 then _ else _
      rw [hto, hw9, hz2, Int32.add_zero]
      by_cases q : k = n - 1
      · rw [if_pos q, if_pos q, if_pos q]; rfl
      · rw [if_neg q, if_neg q, if_neg q, Int32.add_zero]; rfl
  · rw [if_neg (fun q => n2 (c2.mp q))]
    unfold q_set
    by_cases n0 : n = 0
    · rw [if_neg (fun q => q (c0.mpr n0)), if_pos n0]
    · rw [if_pos (fun q => n0 (c0.mp q)), if_neg n0, m_gd_t (show m_in 7 (Z.2.2 (m + 1)) from q_inn (i := 7) h.p.2 (by omega) (by omega))]
      have n1 : n = 1 := by omega
      subst n1
      cases hq : q_sel (q_d (S.1 (m + 1))) day 1 with
      | none => show _ = some (q_line (q_s _ 0) (q_s _ 0) _ _); rw [q_line_same]; rfl
      | some k =>
        have := (q_sel_some hq).1
        have k0 : k = 0 := by omega
        subst k0
        show _ = some (if 0 = 1 - 1 then q_line (q_s _ 0) (q_s _ 0) _ _ else _)
        rw [if_pos rfl, q_line_same]; rfl
