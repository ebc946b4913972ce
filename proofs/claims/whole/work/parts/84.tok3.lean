/-! one token, on both sides -/
theorem q_kd1 {b : Int32} : q_kd b = 1 ↔ q_isL b = true := by
  unfold q_kd
  by_cases q : q_isL b = true
  · rw [if_pos q]; exact ⟨fun _ => q, fun _ => rfl⟩
  · rw [if_neg q]; exact ⟨fun e => by split at e <;> (try split at e) <;> omega, fun e => absurd e q⟩
theorem q_kd2 {b : Int32} : q_kd b = 2 ↔ q_isD b = true := by
  unfold q_kd
  by_cases q : q_isL b = true
  · rw [if_pos q]; exact ⟨fun e => by omega, fun e => by have := q_isL_t.mp q; have := q_isD_t.mp e; omega⟩
  · rw [if_neg q]
    by_cases q2 : q_isD b = true
    · rw [if_pos q2]; exact ⟨fun _ => q2, fun _ => rfl⟩
    · rw [if_neg q2]; exact ⟨fun e => by split at e <;> omega, fun e => absurd e q2⟩
theorem q_kd_b (b : Int32) : 1 ≤ q_kd b ∧ q_kd b ≤ 4 := by unfold q_kd; split <;> (try split) <;> (try split) <;> omega
theorem q_kdL (B : Nat → Int32) : (fun j => decide (q_kd (B j) = 1)) = (fun j => q_isL (B j)) := funext fun j => by
  by_cases q : q_isL (B j) = true
  · rw [q, decide_eq_true_iff]; exact q_kd1.mpr q
  · rw [Bool.not_eq_true] at q; rw [q, decide_eq_false_iff_not]; exact fun e => by have := q_kd1.mp e; rw [q] at this; exact absurd this (by decide)
theorem q_kdD (B : Nat → Int32) : (fun j => decide (q_kd (B j) = 2)) = (fun j => q_isD (B j)) := funext fun j => by
  by_cases q : q_isD (B j) = true
  · rw [q, decide_eq_true_iff]; exact q_kd2.mpr q
  · rw [Bool.not_eq_true] at q; rw [q, decide_eq_false_iff_not]; exact fun e => by have := q_kd2.mp e; rw [q] at this; exact absurd this (by decide)
/-- where the token that starts at st ends, and its sort -/
def q_en (B : Nat → Int32) (n st : Nat) : Nat := if n ≤ st then n else if q_isL (B st) = true then q_scan (fun j => q_isL (B j)) (n - st) st else if q_isD (B st) = true then q_scan (fun j => q_isD (B j)) (n - st) st else st + 1
def q_so (B : Nat → Int32) (n st : Nat) : Nat := if n ≤ st then 0 else if q_kd (B st) = 2 ∧ 4 < q_en B n st - st then 4 else q_kd (B st)
def q_nx (B : Nat → Int32) (n p : Nat) : Nat := q_scan (fun j => q_isB (B j)) (n - p) p
theorem q_nx_b {B : Nat → Int32} {n p : Nat} (h : p ≤ n) : p ≤ q_nx B n p ∧ q_nx B n p ≤ n := by
  have := q_scan_le (fun j => q_isB (B j)) (n - p) p
  unfold q_nx
  omega
theorem q_en_b {B : Nat → Int32} {n st : Nat} (h : st ≤ n) : st ≤ q_en B n st ∧ q_en B n st ≤ n ∧ (st < n → st < q_en B n st) ∧ (st < n → q_isL (B st) = true → ∀ j, st ≤ j → j < q_en B n st → q_isL (B j) = true) ∧ (st < n → q_isD (B st) = true → ∀ j, st ≤ j → j < q_en B n st → q_isD (B j) = true) := by
  unfold q_en
  by_cases q : n ≤ st
  · rw [if_pos q]; exact ⟨h, Nat.le_refl _, fun z => absurd z (by omega), fun z => absurd z (by omega), fun z => absurd z (by omega)⟩
  · rw [if_neg q]
    obtain ⟨d, hd⟩ : ∃ d, n - st = d + 1 := ⟨n - st - 1, by omega⟩
    by_cases qL : q_isL (B st) = true
    · rw [if_pos qL]
      obtain ⟨h1, h2, h3, -⟩ := q_scan_le (fun j => q_isL (B j)) (n - st) st
      have h4 : st + 1 ≤ q_scan (fun j => q_isL (B j)) (n - st) st := by rw [hd, q_scan_s _ _ _ qL]; exact (q_scan_le (fun j => q_isL (B j)) d (st + 1)).1
      exact ⟨h1, by omega, fun _ => by omega, fun _ _ => h3, fun _ e => by have := q_isL_t.mp qL; have := q_isD_t.mp e; omega⟩
    · rw [if_neg qL]
      by_cases qD : q_isD (B st) = true
      · rw [if_pos qD]
        obtain ⟨h1, h2, h3, -⟩ := q_scan_le (fun j => q_isD (B j)) (n - st) st
        have h4 : st + 1 ≤ q_scan (fun j => q_isD (B j)) (n - st) st := by rw [hd, q_scan_s _ _ _ qD]; exact (q_scan_le (fun j => q_isD (B j)) d (st + 1)).1
        exact ⟨h1, by omega, fun _ => by omega, fun _ e => absurd e qL, fun _ _ => h3⟩
      · rw [if_neg qD]
        exact ⟨by omega, by omega, fun _ => by omega, fun _ e => absurd e qL, fun _ e => absurd e qD⟩
def q_tkc (x n : Nat) (B : Nat → Int32) (st : Nat) (S : m_S) : Prop := S.1 (x + 1) 5 = Int32.ofNat st ∧ S.1 (x + 1) 6 = Int32.ofNat (q_en B n st) ∧ S.1 (x + 1) 4 = Int32.ofNat (q_so B n st) ∧ (q_so B n st = 2 → S.1 (x + 1) 7 = q_vl B st (q_en B n st - st))
def q_tkm (m n : Nat) (B : Nat → Int32) (st : Nat) (T : m_S) : Prop := T.1 m 15 = Int32.ofNat st ∧ T.1 m 14 = Int32.ofNat (q_en B n st) ∧ T.1 m 16 = Int32.ofNat (q_so B n st) ∧ (q_so B n st = 2 → T.1 m 17 = q_vl B st (q_en B n st - st)) ∧ (q_so B n st = 1 → T.2.1 m 20 = q_nm B st (q_min (q_en B n st - st) 8))
theorem g_token {Z : m_Z} {x n p : Nat} {B : Nat → Int32} {S : m_S} (h : q_txc Z x n B S) (hp : p ≤ n) (h6 : S.1 (x + 1) 6 = Int32.ofNat p) : ∃ S', f_X3_readToken Z S (x + 1) = some ((), S') ∧ q_tkc x n B (q_nx B n p) S' ∧ q_ag (fun b k => ¬ (b = x + 1 ∧ 4 ≤ k ∧ k ≤ 7)) S S' ∧ S'.2 = S.2 := by
  obtain ⟨n9, o1, r0, o2, l1, ht⟩ := id h
  obtain ⟨S1, e1, e2, e3, e4⟩ := g_bl (n - p) p 100000 S (by omega) (by omega) h6 h
  have hb := q_nx_b (B := B) hp
  rw [show q_scan (fun j => q_isB (B j)) (n - p) p = q_nx B n p from rfl] at e2
  obtain ⟨st, hst⟩ : ∃ y, y = q_nx B n p := ⟨_, rfl⟩
  rw [← hst] at e2 hb ⊢
  obtain ⟨S3, hS3⟩ : ∃ y, y = m_pI S1 (x + 1) 5 (Int32.ofNat st) := ⟨_, rfl⟩
  obtain ⟨S5, hS5⟩ : ∃ y, y = m_pI S3 (x + 1) 7 0 := ⟨_, rfl⟩
  have a5 : q_ag (fun b k => ¬ (b = x + 1 ∧ 4 ≤ k ∧ k ≤ 7)) S S5 := by
    rw [hS5]; refine q_ag_I ?_ (by omega)
    rw [hS3]; exact q_ag_I (q_ag_sub e3 (fun b k hb => by omega)) (by omega)
  have s5r : S5.2 = S.2 := by rw [hS5, hS3]; exact e4
  have s55 : S5.1 (x + 1) 5 = Int32.ofNat st := by rw [hS5, pI_ne (by omega), hS3, pI_same]
  have s56 : S5.1 (x + 1) 6 = Int32.ofNat st := by rw [hS5, pI_ne (by omega), hS3, pI_ne (by omega)]; exact e2
  have s57 : S5.1 (x + 1) 7 = 0 := by rw [hS5, pI_same]
  have h5 : q_txc Z x n B S5 := q_txc_ag h (q_ag_sub a5 (fun b k hb => by omega)) (by rw [s5r])
  obtain ⟨-, -, r50, -, l51, ht5⟩ := id h5
  have head : f_X3_readToken Z S (x + 1) = (if S5.1 (x + 1) 5 < S5.1 (x + 1) 1 then m_b1 (S5.2.2 (x + 1) 0) (fun b8 => m_gd (m_ok Z b8 10) (m_gd (m_in (S5.1 (x + 1) 5) (Z.2.2 b8)) (m_b1 (f_X3_tokenOf Z S5 (S5.1 b8 (S5.1 (x + 1) 5).toNatClampNeg)) (fun v13 => m_lt (m_pI S5 (x + 1) 4 v13) (fun S14 => m_lt (m_pI S14 (x + 1) 6 ((S14.1 (x + 1) 5) + (1 : Int32))) (fun S16 => m_jp (fun (_ : Unit) => m_jp (fun (S19 : m_S) => (if ¬ (S19.1 (x + 1) 4) = (2 : Int32) then some ((), S19) else m_bw (f_X3_readValue Z S19 (x + 1)) (fun _u S22 => some ((), S22)))) (fun j23 => m_fx (F_X3_readToken_111 Z (x + 1) j23) 100000 S16)) (fun j18 => (if (S16.1 (x + 1) 4) = (1 : Int32) then j18 () else (if ¬ (S16.1 (x + 1) 4) = (2 : Int32) then (if ¬ (S16.1 (x + 1) 4) = (2 : Int32) then some ((), S16) else m_bw (f_X3_readValue Z S16 (x + 1)) (fun _u S44 => some ((), S44))) else j18 ()))))))))) else m_lt (m_pI S5 (x + 1) 4 (0 : Int32)) (fun S45 => some ((), S45))) := by
    unfold f_X3_readToken
    rw [m_jp_s, e1, m_gd_t o1, e2, ← hS3, m_lt_s, ← hS5, m_lt_s]
  rw [head]
  by_cases q : st < n
  · have hb5 := ht5 st q
    obtain ⟨k, hk⟩ : ∃ y, y = q_kd (B st) := ⟨_, rfl⟩
    have kb := q_kd_b (B st)
    rw [← hk] at kb
    obtain ⟨S14, hS14⟩ : ∃ y, y = m_pI S5 (x + 1) 4 (Int32.ofNat k) := ⟨_, rfl⟩
    have s145 : S14.1 (x + 1) 5 = Int32.ofNat st := by rw [hS14, pI_ne (by omega)]; exact s55
    obtain ⟨S16, hS16⟩ : ∃ y, y = m_pI S14 (x + 1) 6 (Int32.ofNat (st + 1)) := ⟨_, rfl⟩
    have a16 : q_ag (fun b k => ¬ (b = x + 1 ∧ (k = 4 ∨ k = 6))) S5 S16 := by
      rw [hS16]; refine q_ag_I ?_ (by omega)
      rw [hS14]; exact q_ag_I (q_ag_refl _ _) (by omega)
    have s16r : S16.2 = S.2 := by rw [hS16, hS14]; exact s5r
    have s165 : S16.1 (x + 1) 5 = Int32.ofNat st := by rw [(a16 _ _ (by omega)).1]; exact s55
    have s167 : S16.1 (x + 1) 7 = 0 := by rw [(a16 _ _ (by omega)).1]; exact s57
    have s166 : S16.1 (x + 1) 6 = Int32.ofNat (st + 1) := by rw [hS16, pI_same]
    have s164 : S16.1 (x + 1) 4 = Int32.ofNat k := by rw [hS16, pI_ne (by omega), hS14, pI_same]
    have h16 : q_txc Z x n B S16 := q_txc_ag h5 (q_ag_sub a16 (fun b k hb => by omega)) (by rw [s16r, s5r])
    have aS : q_ag (fun b k => ¬ (b = x + 1 ∧ 4 ≤ k ∧ k ≤ 7)) S S16 := q_ag_trans a5 (q_ag_sub a16 (fun b k hb => by omega))
    have nle : ¬ n ≤ st := by omega
    have iN : ∀ a b : Nat, a < 10 → b < 10 → Int32.ofNat a = Int32.ofNat b → a = b := fun a b ha hb e => by have := t_eq.mp e; rw [t_ofNat (by omega), t_ofNat (by omega)] at this; omega
    rw [if_pos (show S5.1 (x + 1) 5 < S5.1 (x + 1) 1 from by rw [s55, l51]; exact (io_lt (by omega) (by omega)).mpr q), r50, m_b1_s, m_gd_t o2.1, s55, m_gd_t (q_inn o2 (by omega) (by omega)), io_tn (by omega), hb5.2, g_tokOf hb5.1, m_b1_s, ← hk, ← hS14, m_lt_s, s145, io_one, ← hS16, m_lt_s, m_jp_s, s164]
    have dd : n - st = (n - (st + 1)) + 1 := by omega
    by_cases q1 : k = 1
    · obtain ⟨S', r1, r2, r3, r4⟩ := g_run (kk := 1) (by omega) (n - (st + 1)) (st + 1) 100000 S16 (by omega) (by omega) s166 (by rw [s164, q1]) h16
      have qL : q_isL (B st) = true := q_kd1.mp (by rw [← hk]; exact q1)
      have een : q_en B n st = q_scan (fun j => decide (q_kd (B j) = 1)) (n - (st + 1)) (st + 1) := by unfold q_en; rw [if_neg nle, if_pos qL, q_kdL, dd, q_scan_s _ _ _ qL]
      have eso : q_so B n st = 1 := by unfold q_so; rw [if_neg nle, if_neg (fun z => by omega), ← hk]; exact q1
      have s4 : S'.1 (x + 1) 4 = Int32.ofNat k := by rw [(r3 _ _ (by omega)).1]; exact s164
      refine ⟨S', ?_, ⟨by rw [(r3 _ _ (by omega)).1]; exact s165, by rw [een]; exact r2, by rw [eso, s4, q1], fun z => by omega⟩, q_ag_trans aS (q_ag_sub r3 (fun b k hb => by omega)), r4.trans s16r⟩
      rw [if_pos (show Int32.ofNat k = 1 by rw [q1]; rfl), m_jp_s, r1, if_pos (show ¬ S'.1 (x + 1) 4 = 2 from by rw [s4, q1]; decide)]
    · rw [if_neg (show ¬ Int32.ofNat k = 1 from fun z => q1 (iN k 1 (by omega) (by omega) z))]
      by_cases q2 : k = 2
      · obtain ⟨S', r1, r2, r3, r4⟩ := g_run (kk := 2) (by omega) (n - (st + 1)) (st + 1) 100000 S16 (by omega) (by omega) s166 (by rw [s164, q2]) h16
        have qD : q_isD (B st) = true := q_kd2.mp (by rw [← hk]; exact q2)
        have qL : ¬ q_isL (B st) = true := fun z => q1 (by rw [hk]; exact q_kd1.mpr z)
        have een : q_en B n st = q_scan (fun j => decide (q_kd (B j) = 2)) (n - (st + 1)) (st + 1) := by unfold q_en; rw [if_neg nle, if_neg qL, if_pos qD, q_kdD, dd, q_scan_s _ _ _ qD]
        rw [← een] at r2
        have s4 : S'.1 (x + 1) 4 = Int32.ofNat k := by rw [(r3 _ _ (by omega)).1]; exact s164
        have s5 : S'.1 (x + 1) 5 = Int32.ofNat st := by rw [(r3 _ _ (by omega)).1]; exact s165
        have s7 : S'.1 (x + 1) 7 = 0 := by rw [(r3 _ _ (by omega)).1]; exact s167
        obtain ⟨b1, b2, b3, b4, b5⟩ := q_en_b (B := B) (n := n) (st := st) (by omega)
        have h' : q_txc Z x n B S' := q_txc_ag h16 (q_ag_sub r3 (fun b k hb => by omega)) (by rw [r4])
        rw [if_neg (show ¬ ¬ Int32.ofNat k = 2 from fun z => z (by rw [q2]; rfl)), m_jp_s, r1, if_neg (show ¬ ¬ S'.1 (x + 1) 4 = 2 from fun z => z (by rw [s4, q2]; rfl))]
        unfold f_X3_readValue
        rw [m_gd_t o1, r2, s5, io_sub b1]
        by_cases q4 : q_en B n st - st ≤ 4
        · have eso : q_so B n st = 2 := by unfold q_so; rw [if_neg nle, if_neg (fun z => by omega), ← hk]; exact q2
          obtain ⟨S'', w1, w2, w3, w4⟩ := g_value (en := q_en B n st) (st := st) b2 (b5 q qD) (q_en B n st - st) st 100000 S' (by omega) (by omega) (Nat.le_refl _) r2 (by rw [s7, Nat.sub_self]; rfl) h'
          refine ⟨S'', ?_, ⟨by rw [(w3 _ _ (by omega)).1]; exact s5, by rw [(w3 _ _ (by omega)).1]; exact r2, by rw [eso, (w3 _ _ (by omega)).1, s4, q2], fun _ => w2⟩, q_ag_trans aS (q_ag_trans (q_ag_sub r3 (fun b k hb => by omega)) (q_ag_sub w3 (fun b k hb => by omega))), w4.trans (r4.trans s16r)⟩
          rw [if_pos (show Int32.ofNat (q_en B n st - st) ≤ 4 from (io_le (b := 4) (by omega) (by omega)).mpr q4), m_jp_s, w1, m_bw_s]
        · have eso : q_so B n st = 4 := by unfold q_so; rw [if_neg nle, if_pos ⟨by rw [← hk]; exact q2, by omega⟩]
          refine ⟨m_pI S' (x + 1) 4 4, ?_, ⟨by rw [pI_ne (by omega)]; exact s5, by rw [pI_ne (by omega)]; exact r2, by rw [eso, pI_same]; rfl, fun z => by omega⟩, q_ag_trans aS (q_ag_I (q_ag_sub r3 (fun b k hb => by omega)) (by omega)), r4.trans s16r⟩
          rw [if_neg (show ¬ Int32.ofNat (q_en B n st - st) ≤ 4 from fun z => q4 ((io_le (b := 4) (by omega) (by omega)).mp z)), m_lt_s, m_bw_s]
      · have qL : ¬ q_isL (B st) = true := fun z => q1 (by rw [hk]; exact q_kd1.mpr z)
        have qD : ¬ q_isD (B st) = true := fun z => q2 (by rw [hk]; exact q_kd2.mpr z)
        have een : q_en B n st = st + 1 := by unfold q_en; rw [if_neg nle, if_neg qL, if_neg qD]
        have eso : q_so B n st = k := by unfold q_so; rw [if_neg nle, if_neg (fun z => by omega), ← hk]
        refine ⟨S16, ?_, ⟨s165, by rw [een]; exact s166, by rw [eso]; exact s164, fun z => by omega⟩, aS, s16r⟩
        have n2 : ¬ Int32.ofNat k = 2 := fun z => q2 (iN k 2 (by omega) (by omega) z)
        rw [if_pos n2, if_pos n2]
  · have een : q_en B n st = n := by unfold q_en; rw [if_pos (by omega)]
    have eso : q_so B n st = 0 := by unfold q_so; rw [if_pos (by omega)]
    refine ⟨m_pI S5 (x + 1) 4 0, ?_, ⟨by rw [pI_ne (by omega)]; exact s55, by rw [pI_ne (by omega), een, s56]; exact congrArg Int32.ofNat (by omega), by rw [eso, pI_same]; rfl, fun z => by omega⟩, q_ag_I a5 (by omega), s5r⟩
    rw [if_neg (show ¬ S5.1 (x + 1) 5 < S5.1 (x + 1) 1 from by rw [s55, l51]; exact fun z => q ((io_lt (by omega) (by omega)).mp z)), m_lt_s]
theorem e_token {Z : m_Z} {m n p : Nat} {B : Nat → Int32} {T : m_S} (h : q_txm Z m n B T) (hp : p ≤ n) (h6 : T.1 m 14 = Int32.ofNat p) : ∃ T', f_X9_token Z T m = some ((), T') ∧ q_tkm m n B (q_nx B n p) T' ∧ q_ag (fun b k => ¬ (b = m ∧ ((14 ≤ k ∧ k ≤ 17) ∨ k = 20))) T T' ∧ T'.2.2 = T.2.2 := by
  have n9 := h.1
  obtain ⟨T1, e1, e2, e3, e4⟩ := e_bl (n - p) p 100000 T (by omega) (by omega) h6 h
  have hb := q_nx_b (B := B) hp
  rw [show q_scan (fun j => q_isB (B j)) (n - p) p = q_nx B n p from rfl] at e2
  obtain ⟨st, hst⟩ : ∃ y, y = q_nx B n p := ⟨_, rfl⟩
  rw [← hst] at e2 hb ⊢
  obtain ⟨T3, hT3⟩ : ∃ y, y = m_pI T1 m 15 (Int32.ofNat st) := ⟨_, rfl⟩
  have a3 : q_ag (fun b k => ¬ (b = m ∧ (k = 14 ∨ k = 15))) T T3 := by rw [hT3]; exact q_ag_I (q_ag_sub e3 (fun b k hb => by omega)) (by omega)
  have r3 : T3.2 = T.2 := by rw [hT3]; exact e4
  have h3 : q_txm Z m n B T3 := q_txm_ag h (q_ag_sub a3 (fun b k hb => by omega)) (by rw [r3]; exact h.2.1)
  have t14 : T3.1 m 14 = Int32.ofNat st := by rw [hT3, pI_ne (by omega)]; exact e2
  have t15 : T3.1 m 15 = Int32.ofNat st := by rw [hT3, pI_same]
  have ea := e_at h3 st (by omega)
  unfold f_X9_token
  rw [m_jp_s, e1, m_gd_t h.2.1.o, e2, ← hT3, m_lt_s, t14, ea, m_b1_s]
  by_cases q : st < n
  · have hB := (h.2.2.2 st q).1
    have nle : ¬ n ≤ st := by omega
    have k59 : B st = 59 ↔ (B st).toInt = 59 := t_eq
    rw [if_pos q, if_pos (show ¬ B st = -1 from fun z => by have := t_eq.mp z; rw [show (-1 : Int32).toInt = -1 from rfl] at this; omega), e_isL, m_b1_s]
    obtain ⟨b1, b2, b3, b4, b5⟩ := q_en_b (B := B) (n := n) (st := st) (by omega)
    by_cases qL : q_isL (B st) = true
    · rw [if_pos qL, if_neg z10]
      have een : q_en B n st = q_scan (fun j => q_isL (B j)) (n - st) st := by unfold q_en; rw [if_neg nle, if_pos qL]
      have k1 := q_kd1.mpr qL
      have eso : q_so B n st = 1 := by unfold q_so; rw [if_neg nle, if_neg (fun z => by omega)]; exact k1
      obtain ⟨T5, hT5⟩ : ∃ y, y = m_pJ T3 m 20 0 := ⟨_, rfl⟩
      have a5 : q_ag (fun b k => ¬ (b = m ∧ k = 20)) T3 T5 := by rw [hT5]; exact q_ag_J (q_ag_refl _ _) (by omega)
      have h5 : q_txm Z m n B T5 := q_txm_ag h3 (q_ag_sub a5 (fun b k hb => by omega)) (by rw [hT5]; exact h3.2.1)
      obtain ⟨T6, w1, w2, w3, w4, w5⟩ := e_word (st := st) (n - st) st 100000 T5 (by omega) (by omega) (Nat.le_refl _) (by rw [(a5 _ _ (by omega)).1]; exact t14) (by rw [(a5 _ _ (by omega)).1]; exact t15) (by rw [hT5, Nat.sub_self]; exact pJ_same _ _ _ _) h5
      rw [← een] at w2 w3
      rw [← hT5, m_lt_s, m_jp_s, w1, m_lt_s]
      refine ⟨m_pI T6 m 16 1, rfl, ⟨?_, ?_, ?_, fun z => by omega, fun _ => w3⟩, q_ag_I (q_ag_trans (q_ag_sub a3 (fun b k hb => by omega)) (q_ag_trans (q_ag_sub a5 (fun b k hb => by omega)) (q_ag_sub w4 (fun b k hb => by omega)))) (by omega), ?_⟩
      · rw [pI_ne (by omega), (w4 _ _ (by omega)).1, (a5 _ _ (by omega)).1]; exact t15
      · rw [pI_ne (by omega)]; exact w2
      · rw [eso, pI_same]; rfl
      · show T6.2.2 = _
        rw [w5, hT5]; show T3.2.2 = _; rw [r3]
    · rw [if_neg qL, if_pos z00, e_isD, m_b1_s]
      by_cases qD : q_isD (B st) = true
      · rw [if_pos qD, if_neg z10]
        have een : q_en B n st = q_scan (fun j => q_isD (B j)) (n - st) st := by unfold q_en; rw [if_neg nle, if_neg qL, if_pos qD]
        have k2 := q_kd2.mpr qD
        obtain ⟨T5, hT5⟩ : ∃ y, y = m_pI T3 m 17 0 := ⟨_, rfl⟩
        have a5 : q_ag (fun b k => ¬ (b = m ∧ k = 17)) T3 T5 := by rw [hT5]; exact q_ag_I (q_ag_refl _ _) (by omega)
        have h5 : q_txm Z m n B T5 := q_txm_ag h3 (q_ag_sub a5 (fun b k hb => by omega)) (by rw [hT5]; exact h3.2.1)
        obtain ⟨T6, w1, w2, w3, w4, w5⟩ := e_num (st := st) (n - st) st 100000 T5 (by omega) (by omega) (Nat.le_refl _) (by rw [(a5 _ _ (by omega)).1]; exact t14) (by rw [(a5 _ _ (by omega)).1]; exact t15) (by rw [hT5, Nat.sub_self]; exact pI_same _ _ _ _) h5
        rw [← een] at w2 w3
        have t15' : T6.1 m 15 = Int32.ofNat st := by rw [(w4 _ _ (by omega)).1, (a5 _ _ (by omega)).1]; exact t15
        have aa : q_ag (fun b k => ¬ (b = m ∧ ((14 ≤ k ∧ k ≤ 17) ∨ k = 20))) T T6 := q_ag_trans (q_ag_sub a3 (fun b k hb => by omega)) (q_ag_trans (q_ag_sub a5 (fun b k hb => by omega)) (q_ag_sub w4 (fun b k hb => by omega)))
        have r6 : T6.2.2 = T.2.2 := by rw [w5, hT5]; show T3.2.2 = _; rw [r3]
        rw [← hT5, m_lt_s, m_jp_s, w1, w2, t15', io_sub b1]
        by_cases q4 : q_en B n st - st ≤ 4
        · have eso : q_so B n st = 2 := by unfold q_so; rw [if_neg nle, if_neg (fun z => by omega)]; exact k2
          rw [if_pos (show Int32.ofNat (q_en B n st - st) ≤ 4 from (io_le (b := 4) (by omega) (by omega)).mpr q4), m_lt_s]
          refine ⟨m_pI T6 m 16 2, rfl, ⟨by rw [pI_ne (by omega)]; exact t15', by rw [pI_ne (by omega)]; exact w2, by rw [eso, pI_same]; rfl, fun _ => ?_, fun z => by omega⟩, q_ag_I aa (by omega), r6⟩
          rw [pI_ne (by omega), w3, q_min_l q4]
        · have eso : q_so B n st = 4 := by unfold q_so; rw [if_neg nle, if_pos ⟨k2, by omega⟩]
          rw [if_neg (show ¬ Int32.ofNat (q_en B n st - st) ≤ 4 from fun z => q4 ((io_le (b := 4) (by omega) (by omega)).mp z)), m_lt_s]
          exact ⟨m_pI T6 m 16 4, rfl, ⟨by rw [pI_ne (by omega)]; exact t15', by rw [pI_ne (by omega)]; exact w2, by rw [eso, pI_same]; rfl, fun z => by omega, fun z => by omega⟩, q_ag_I aa (by omega), r6⟩
      · have een : q_en B n st = st + 1 := by unfold q_en; rw [if_neg nle, if_neg qL, if_neg qD]
        obtain ⟨T5, hT5⟩ : ∃ y, y = m_pI T3 m 14 (Int32.ofNat (st + 1)) := ⟨_, rfl⟩
        have a5 : q_ag (fun b k => ¬ (b = m ∧ k = 14)) T3 T5 := by rw [hT5]; exact q_ag_I (q_ag_refl _ _) (by omega)
        have r5 : T5.2.2 = T.2.2 := by rw [hT5]; show T3.2.2 = _; rw [r3]
        have t155 : T5.1 m 15 = Int32.ofNat st := by rw [(a5 _ _ (by omega)).1]; exact t15
        have t145 : T5.1 m 14 = Int32.ofNat (st + 1) := by rw [hT5, pI_same]
        have aa : q_ag (fun b k => ¬ (b = m ∧ ((14 ≤ k ∧ k ≤ 17) ∨ k = 20))) T T5 := q_ag_trans (q_ag_sub a3 (fun b k hb => by omega)) (q_ag_sub a5 (fun b k hb => by omega))
        rw [if_neg qD, if_pos z00, io_one, ← hT5, m_lt_s]
        have ek : q_kd (B st) = if (B st).toInt = 59 then 3 else 4 := by unfold q_kd; rw [if_neg qL, if_neg qD]
        by_cases q5 : (B st).toInt = 59
        · have eso : q_so B n st = 3 := by unfold q_so; rw [if_neg nle, ek, if_pos q5, if_neg (fun z => by omega)]
          rw [if_neg (show ¬ ¬ B st = 59 from fun z => z (k59.mpr q5)), m_lt_s]
          exact ⟨m_pI T5 m 16 3, rfl, ⟨by rw [pI_ne (by omega)]; exact t155, by rw [pI_ne (by omega), een]; exact t145, by rw [eso, pI_same]; rfl, fun z => by omega, fun z => by omega⟩, q_ag_I aa (by omega), r5⟩
        · have eso : q_so B n st = 4 := by unfold q_so; rw [if_neg nle, ek, if_neg q5, if_neg (fun z => by omega)]
          rw [if_pos (show ¬ B st = 59 from fun z => q5 (k59.mp z)), m_lt_s]
          exact ⟨m_pI T5 m 16 4, rfl, ⟨by rw [pI_ne (by omega)]; exact t155, by rw [pI_ne (by omega), een]; exact t145, by rw [eso, pI_same]; rfl, fun z => by omega, fun z => by omega⟩, q_ag_I aa (by omega), r5⟩
  · have een : q_en B n st = n := by unfold q_en; rw [if_pos (by omega)]
    have eso : q_so B n st = 0 := by unfold q_so; rw [if_pos (by omega)]
    rw [if_neg q, if_neg (show ¬ ¬ (-1 : Int32) = -1 from fun z => z rfl), m_lt_s]
    refine ⟨m_pI T3 m 16 0, rfl, ⟨by rw [pI_ne (by omega)]; exact t15, by rw [pI_ne (by omega), een, t14]; exact congrArg Int32.ofNat (by omega), by rw [eso, pI_same]; rfl, fun z => by omega, fun z => by omega⟩, q_ag_I (q_ag_sub a3 (fun b k hb => by omega)) (by omega), ?_⟩
    show T3.2.2 = _; rw [r3]
