theorem g_set {Z : m_Z} {S : m_S} {pb n : Nat} {day : Int32} (g : m_ok Z pb 5) (r3 : S.2.2 pb 3 = some (pb + 1)) (g1 : m_okn Z (pb + 1) 11 12) (r4 : S.2.2 pb 4 = some (pb + 2)) (g2 : m_okn Z (pb + 2) 11 12) (hn : S.1 pb 2 = Int32.ofNat n) (hw : q_ws (S.1 (pb + 1)) (S.1 (pb + 2)) n) : f_X5_setPointOf Z S pb day = some (q_set (S.1 (pb + 1)) (S.1 (pb + 2)) n day) := by
  have n12 := hw.1
  unfold f_X5_setPointOf q_set
  rw [m_gd_t g, hn, m_lt_s]
  by_cases n0 : n = 0
  · subst n0
    rw [if_pos (show Int32.ofNat 0 - (1 : Int32) < 0 by decide), if_pos rfl]
  · rw [if_neg n0]
    have e1 : Int32.ofNat n - (1 : Int32) = Int32.ofNat (n - 1) := io_sub (b := 1) (by omega)
    have c1 : ¬ Int32.ofNat (n - 1) < 0 := fun h => absurd ((io_lt (b := 0) (by omega) (by omega)).mp h) (by omega)
    have c2 : Int32.ofNat (n - 1) < (12 : Int32) := (io_lt (b := 12) (by omega) (by omega)).mpr (by omega)
    rw [e1, if_neg c1, if_pos c2]
    refine m_jp_i (fun j37 e37 => ?_)
    have hs := g_sel (Z := Z) (S := S) (pb := pb) (n := n) (day := day) r3 g1 (by omega) n12 j37 n 0 100000 (n - 1) (by omega) (by omega) rfl
    refine hs.trans ?_
    rw [e37]
    generalize hf : (q_sel (S.1 (pb + 1)) day n).getD (n - 1) = f
    have hfn : f < n := by
      rw [← hf]
      cases hq : q_sel (S.1 (pb + 1)) day n with
      | none => show n - 1 < n; omega
      | some k => exact (q_sel_some hq).1
    -- the next season
    obtain ⟨to, hto⟩ : ∃ to, to = if f = n - 1 then 0 else f + 1 := ⟨_, rfl⟩
    have htn : to < n := by rw [hto]; split <;> omega
    obtain ⟨w, hw9⟩ : ∃ w : Int32, w = if f = n - 1 then 365 else 0 := ⟨_, rfl⟩
    obtain ⟨z, hz⟩ : ∃ z : Int32, z = if S.1 (pb + 1) f ≤ day then 0 else 365 := ⟨_, rfl⟩
    have ioe : Int32.ofNat f = Int32.ofNat (n - 1) ↔ f = n - 1 := by rw [t_eq, t_ofNat (by omega), t_ofNat (by omega)]; omega
    refine m_jp_i (fun j7 e7 => ?_)
    have k7 : (if ¬ Int32.ofNat f = Int32.ofNat (n - 1) then j7 (Int32.ofNat f + (1 : Int32)) else j7 (0 : Int32)) = j7 (Int32.ofNat to) := by
      rw [hto, io_one]
      by_cases q : f = n - 1
      · rw [if_neg (fun h => h (ioe.mpr q)), if_pos q]; rfl
      · rw [if_pos (fun h => q (ioe.mp h)), if_neg q]
    refine k7.trans ?_
    rw [e7, r3, m_b1_s, m_gd_t g1.1, m_gd_t (q_inn g1 (by omega) (by omega)), m_gd_t (q_inn g1 (by omega) (by omega))]
    refine m_jp_i (fun j14 e14 => ?_)
    have k14 : (if ¬ Int32.ofNat f = Int32.ofNat (n - 1) then j14 (0 : Int32) else j14 (365 : Int32)) = j14 w := by
      rw [hw9]
      by_cases q : f = n - 1
      · rw [if_neg (fun h => h (ioe.mpr q)), if_pos q]
      · rw [if_pos (fun h => q (ioe.mp h)), if_neg q]
    refine k14.trans ?_
    rw [e14, m_lt_s, m_b1_s, m_gd_t g1.1, m_gd_t (q_inn g1 (by omega) (by omega)), m_gd_t (q_inn g1 (by omega) (by omega))]
    refine m_jp_i (fun j23 e23 => ?_)
    have k23 : (if S.1 (pb + 1) (Int32.ofNat f).toNatClampNeg ≤ day then j23 (0 : Int32) else j23 (365 : Int32)) = j23 z := by
      rw [hz]
      simp only [io_tn (show f < 2147483648 by omega)]
      by_cases q : S.1 (pb + 1) f ≤ day
      · rw [if_pos q, if_pos q]
      · rw [if_neg q, if_neg q]
    refine k23.trans ?_
    rw [e23, m_lt_s, r4, m_b1_s, m_gd_t g2.1, m_gd_t (q_inn g2 (by omega) (by omega)), m_gd_t (q_inn g2 (by omega) (by omega)), io_tn (by omega), io_tn (by omega)]
    have sp : 1 ≤ ((S.1 (pb + 1) to - S.1 (pb + 1) f) + w).toInt := by
      rw [hto, hw9]
      by_cases q : f = n - 1
      · rw [if_pos q, if_pos q]; exact hw.span hfn
      · rw [if_neg q, if_neg q, Int32.add_zero]; exact hw.span2 (by omega)
    rw [g_line sp, m_b1_s]
    congr 1
    cases hq : q_sel (S.1 (pb + 1)) day n with
    | none =>
      rw [hq] at hf
      have ef : f = n - 1 := hf.symm
      subst ef
      have hz2 : z = 365 := by rw [hz, if_neg (q_sel_none hq _ hfn)]
      rw [hto, hw9, if_pos rfl, if_pos rfl, hz2]
    | some k =>
      rw [hq] at hf
      have ef : k = f := hf
      subst ef
      have hz2 : z = 0 := by rw [hz, if_pos (q_sel_some hq).2]
      show _ = if k = n - 1 then _ else _
      rw [hto, hw9, hz2, Int32.add_zero]
      by_cases q : k = n - 1
      · rw [if_pos q, if_pos q, if_pos q]
      · rw [if_neg q, if_neg q, if_neg q, Int32.add_zero]
