section LOAD
variable {Z : m_Z} {x m N pb pd ns nk nc : Nat} {S T S' T' : m_S}
theorem m_bw_bw {α β γ : Type} (o : Option (α × m_S)) (f : α → m_S → Option (β × m_S)) (k : β → m_S → Option γ) : m_bw o (fun a S => m_bw (f a S) k) = m_bw (m_bw o f) k := by
  match o with
  | some (a, S) => rfl
  | none => rfl
theorem q_Rel_ld (h : q_Rel Z x m N pb ns nk nc S T) (hd : (pd = x + 5 ∧ pb = x + 71) ∨ (pd = x + 71 ∧ pb = x + 5)) (aS : q_ag (fun b k => ¬ (b = x + 1 ∧ 1 ≤ k ∧ k ≤ 7) ∧ ¬ (b = x + 3) ∧ ¬ (b = x + 4) ∧ ¬ (pd ≤ b ∧ b < pd + 66)) S S') (rS : q_RS S'.2.2 x 0 341) (aT : q_ag (fun b k => ¬ (b = m ∧ (k = 0 ∨ (12 ≤ k ∧ k ≤ 20))) ∧ ¬ (b = m + 2) ∧ ¬ (b = m + 6) ∧ ¬ (b = m + 12) ∧ ¬ (b = m + 13)) T T') (rT : T'.2.2 = T.2.2) (l1 : S'.1 (x + 1) 1 = 0) (l2 : T'.1 m 12 = 0) (c1 : S'.1 (x + 1) 2 = T'.1 m 18) (c2 : S'.1 (x + 1) 3 = T'.1 m 19) : q_Rel Z x m (N + 1) pb ns nk nc S' T' := by
  have hp' : T'.1 (m + 1) = T.1 (m + 1) := funext fun k => (aT _ _ (by omega)).1
  have hpb := h.pbr
  obtain ⟨⟨b1, b2, b3, b4⟩, h2, h3, h4, h5, h6, -⟩ := h
  have n6 : nc ≤ 6 := h3.2.2.2.2.2.2
  refine ⟨⟨b1, b2, rS, by rw [rT]; exact b4⟩, ?_, ?_, ?_, ?_, fun s hs => ?_, 0, by omega, l1, l2, c1, c2, fun j hj => absurd hj (Nat.not_lt_zero _)⟩
  · unfold q_pbs
    rw [(aS x 1 (by omega)).2.2, (aS x 2 (by omega)).2.2]; exact h2
  · exact q_set9_ag h3 (fun b k hb => aS b k (by omega)) (fun k _ => by rw [hp'])
  · rw [hp']; exact q_Ks_ag h4 (fun b k hb => aS b k (by omega))
  · rw [hp']; exact q_sta_ag h5 n6 (fun b k hb => aS b k (by omega)) (fun k _ => (aT _ _ (by omega)).1) (fun k _ => (aT _ _ (by omega)).2.1) (Nat.le_succ _)
  · obtain ⟨⟨s1, s2⟩, s3⟩ := h6 s hs
    have e1 := (aT (m + 10) s (by omega)).1
    refine ⟨⟨?_, ?_⟩, fun q => ?_⟩
    · rw [(aS _ _ (by omega)).1, e1]; exact s1
    · rw [e1]; exact s2
    · rw [e1] at q
      rw [hp']
      exact q_sta_ag (s3 q) n6 (fun b k hb => aS b k (by omega)) (fun k _ => (aT _ _ (by omega)).1) (fun k _ => (aT _ _ (by omega)).2.1) (Nat.le_succ _)
theorem q_mp_p {p p' : Nat → Int32} {kd : Nat} (hp : ∀ k, k < 116 → p' k = p k) (h4 : kd < 4) (hw : q_wk p kd) (mass hum : Int32) : q_mp p' kd mass hum = q_mp p kd mass hum := by
  obtain ⟨w1, ⟨⟨w2, w2'⟩, w3, w4⟩, w5, w6⟩ := hw
  have nn : q_nn p' kd = q_nn p kd := by unfold q_nn; rw [hp _ (by omega)]
  unfold q_mp q_mo
  rw [nn, q_ct_congr (x := q_x p' kd) (y := q_y p' kd) (x' := q_x p kd) (y' := q_y p kd) (fun j hj => by unfold q_x q_y; exact ⟨hp _ (by omega), hp _ (by omega)⟩) (by omega)]
theorem q_wv_p {kb n v c : Nat} {S1 : m_S} {p p' a : Nat → Int32} (hw : q_wv p a n c) (hv : q_vit kb nk n S1 v p a c) (hK : q_Ks Z kb nk S p) (hc : c < 6) (hp : ∀ k, k < 116 → p' k = p k) : q_wv p' a n c := by
  obtain ⟨w0, w1, w2, n6, w3⟩ := hw
  refine ⟨by rw [hp _ (by omega)]; exact w0, w1, w2, n6, fun k hk => ?_⟩
  have kk := (hv.2.2.2.2.2.2.2 k hk).2.1.1
  have h4 := hK.1
  rw [q_mp_p hp (by omega) (hK.2 _ kk).2.2]
  exact w3 k hk
theorem J_load (h : q_Rel Z x m N pb ns nk nc S T) (hN : 30 ≤ N) : q_JW Z x m (N + 1) [("java/lang/IllegalArgumentException", 1)] (fun a b => a = b) S T (f_X8_load Z S x) (f_X9_load Z T m) := by
  have hM := h.M
  have hm := h.em
  obtain ⟨pd, hpd, hd, r2, r1⟩ : ∃ pd, (pd = x + 5 ∨ pd = x + 71) ∧ ((pd = x + 5 ∧ pb = x + 71) ∨ (pd = x + 71 ∧ pb = x + 5)) ∧ S.2.2 x 2 = some pd ∧ S.2.2 x 1 = some pb := by
    rcases h.pbs with ⟨p1, p2, p3⟩ | ⟨p1, p2, p3⟩
    · exact ⟨x + 71, Or.inr rfl, Or.inr ⟨rfl, p1⟩, p3, by rw [p1]; exact p2⟩
    · exact ⟨x + 5, Or.inl rfl, Or.inl ⟨rfl, p1⟩, p3, by rw [p1]; exact p2⟩
  obtain ⟨n, n9, d1, d2, d3, d4, d5⟩ := h.rd
  obtain ⟨T1, hT1⟩ : ∃ y, y = m_pI T m 0 0 := ⟨_, rfl⟩
  obtain ⟨T2, hT2⟩ : ∃ y, y = m_pI T1 m 13 (Int32.ofNat n) := ⟨_, rfl⟩
  obtain ⟨TA, hTA⟩ : ∃ y, y = m_pI T2 m 12 0 := ⟨_, rfl⟩
  obtain ⟨T6, hT6⟩ : ∃ y, y = m_pI (m_pI (m_pI TA m 14 0) m 18 0) m 19 (-1) := ⟨_, rfl⟩
  have aA : q_ag (fun b k => ¬ (b = m ∧ (k = 0 ∨ k = 12 ∨ k = 13))) T TA := by
    rw [hTA]; refine q_ag_I ?_ (by omega)
    rw [hT2]; refine q_ag_I ?_ (by omega)
    rw [hT1]; exact q_ag_I (q_ag_refl _ _) (by omega)
  have jA : TA.2 = T.2 := by rw [hTA, hT2, hT1]; rfl
  have a6 : q_ag (fun b k => ¬ (b = m ∧ (k = 14 ∨ k = 18 ∨ k = 19))) TA T6 := by rw [hT6]; exact q_ag_I (q_ag_I (q_ag_I (q_ag_refl _ _) (by omega)) (by omega)) (by omega)
  have j6 : T6.2 = T.2 := by rw [hT6]; exact jA
  obtain ⟨T7, ep, zt, zf, a7, j7⟩ := e_plain (T := T6) (m := m) (by rw [j6]; exact hM)
  have j7' : T7.2 = T.2 := j7.trans j6
  have aA7 : q_ag (fun b k => ¬ (b = m ∧ 14 ≤ k ∧ k ≤ 20) ∧ ¬ (b = m + 2) ∧ ¬ (b = m + 6) ∧ ¬ (b = m + 12) ∧ ¬ (b = m + 13)) TA T7 := q_ag_trans (q_ag_sub a6 (fun b k hb => by omega)) (q_ag_sub a7 (fun b k hb => by omega))
  have hF : q_F Z x m pd S TA S T7 := ⟨hm, hpd, h.zl, h.rs, by rw [j7']; exact h.rt, q_ag_refl _ _, aA7, by rw [j7', jA]⟩
  have t13 : T7.1 m 13 = Int32.ofNat n := by rw [(a7 _ _ (by omega)).1, (a6 _ _ (by omega)).1, hTA, pI_ne (by omega), hT2, pI_same]
  have t14 : T7.1 m 14 = 0 := by rw [(a7 _ _ (by omega)).1, hT6, pI_ne (by omega), pI_ne (by omega), pI_same]
  have t18 : T7.1 m 18 = 0 := by rw [(a7 _ _ (by omega)).1, hT6, pI_ne (by omega), pI_same]
  have t19 : T7.1 m 19 = -1 := by rw [(a7 _ _ (by omega)).1, hT6, pI_same]
  have A0 : TA.1 m 0 = 0 := by rw [hTA, pI_ne (by omega), hT2, pI_ne (by omega), hT1, pI_same]
  have A12 : TA.1 m 12 = 0 := by rw [hTA, pI_same]
  have aT7 : q_ag (fun b k => ¬ (b = m ∧ (k = 0 ∨ (12 ≤ k ∧ k ≤ 20))) ∧ ¬ (b = m + 2) ∧ ¬ (b = m + 6)) T T7 := q_ag_trans (q_ag_sub aA (fun b k hb => by omega)) (q_ag_trans (q_ag_sub a6 (fun b k hb => by omega)) (q_ag_sub a7 (fun b k hb => by omega)))
  have hE := q_readInto (n := n) (B := T.1 (m + 11)) hF ⟨n9, h.o1, h.r10, h.o2, d1, d5⟩ ⟨n9, by rw [j7']; exact hM, t13, fun j hj => ⟨(d5 j hj).1, (aT7 _ _ (by omega)).1⟩⟩ t14 t18 t19 zt zf
  have eL : f_X9_load Z T m = m_bw (m_bw (f_X9_token Z T7 m) (fun _u S17 => f_X9_reads Z S17 m)) (fun _u S19 => m_b1 (f_X9_isWrong Z S19 m) (fun v21 => m_jp (fun (v23 : Int32) => m_bw (f_X9_may Z S19 m v23 (1 : Int32)) (fun v26 S25 => (if ¬ v26 = 0 then m_bw (f_X9_takes Z S25 m) (fun _u S29 => m_b1 (S29.2.2 m 1) (fun b30 => m_gd (m_ok Z b30 11) (m_gd (m_in (5 : Int32) (Z.2.2 b30)) (some ((S29.1 b30 (5 : Int32).toNatClampNeg), S29))))) else some ((0 : Int32), S25)))) (fun j22 => (if ¬ v21 = 0 then j22 (0 : Int32) else j22 (1 : Int32))))) := by
    unfold f_X9_load
    rw [m_gd_t hM.o, ← hT1, m_lt_s, show T1.1 m 12 = Int32.ofNat n by rw [hT1, pI_ne (by omega)]; exact d2, ← hT2, m_lt_s, ← hTA, m_lt_s, m_lt_s, m_lt_s, ← hT6, m_lt_s, ep, m_bw_s]
    exact m_bw_bw _ _ _
  have eC : f_X8_load Z S x = m_bx (f_X3_readInto Z S (x + 1) pd) (fun _u S8 => m_b1 (S8.2.2 x 2) (fun b10 => m_b1 (S8.2.2 x 1) (fun b12 => m_lt (m_pR S8 x 2 (some b12)) (fun S14 => m_lt (m_pR S14 x 1 (some b10)) (fun S16 => m_b1 (S16.2.2 x 3) (fun b18 => m_b1 (S16.2.2 x 1) (fun b20 => m_gd (m_ok Z b18 6) (m_bw (f_X6_begin Z S16 b18 b20) (fun _u S24 => m_jp (fun (S25 : m_S) => m_b1 (S25.2.2 x 1) (fun b26 => m_gd (m_ok Z b26 5) (some ((.ok (S25.1 b26 8)), S25)))) (fun j29 => m_fx (F_X8_load_42 Z x j29) 100000 ((0 : Int32), S24))))))))))) := by
    unfold f_X8_load
    rw [m_gd_t h.ox, h.r0, m_b1_s, r2, m_b1_s, m_gd_t h.o1]
  rw [eL, eC]
  rcases hE with ⟨S', T', rc, rm, ⟨ns', nv', nk', nc', cnt, nq, hD, h30⟩, hF', l1, e18, e2, e3, e19⟩ | ⟨S', T', rc, rm, hF', c1, c2, l1, hne⟩
  · obtain ⟨-, -, -, rS', -, fS, fT, fTR⟩ := id hF'
    have hM' := hF'.M
    have T0' : T'.1 m 0 = 0 := by rw [(fT _ _ (by omega)).1]; exact A0
    obtain ⟨hs9, hnv, hK, ⟨hq1, hq2, hq3⟩, -, hcs, hz, hser⟩ := id hD
    have nc6 : nc' ≤ 6 := hs9.2.2.2.2.2.2
    have nk4 : nk' ≤ 4 := hK.1
    have o5 : m_ok Z pd 5 := hs9.1.1
    have h8 : S'.1 pd 8 = Int32.ofNat nc' := hs9.2.1.2.2.2.2.2.2.1
    have p5 : T'.1 (m + 2) 5 = Int32.ofNat nc' := hs9.2.1.2.2.2.2.2.2.2
    have u2 : S'.2.2 x 2 = some pd := by rw [(fS _ _ (by omega)).2.2]; exact r2
    have u1 : S'.2.2 x 1 = some pb := by rw [(fS _ _ (by omega)).2.2]; exact r1
    -- the class: the swap
    obtain ⟨S16, hS16⟩ : ∃ y, y = m_pR (m_pR S' x 2 (some pb)) x 1 (some pd) := ⟨_, rfl⟩
    have b16 : q_ag (fun b k => ¬ (b = x ∧ (k = 1 ∨ k = 2))) S' S16 := by rw [hS16]; exact q_ag_R (q_ag_R (q_ag_refl _ _) (by omega)) (by omega)
    have s161 : S16.2.2 x 1 = some pd := by rw [hS16, pR_same]
    have s162 : S16.2.2 x 2 = some pb := by rw [hS16, pR_ne (by omega), pR_same]
    have rS16 : q_RS S16.2.2 x 0 341 := fun q hq q1 q2 q3 => by rw [(b16 _ _ (by omega)).2.2]; exact rS' q hq q1 q2 q3
    have gSt : q_St Z S16.2.2 (x + 137) := q_St_of (s := 137) h.zl rS16 (Or.inl rfl)
    have cn8 : ∀ c, c < nc' → T'.1 (m + 6) (8 + 56 * c) = Int32.ofNat (cnt c) := fun c hc => by
      have := (hcs c hc).2.1.2.2.2.2.2.2.1
      rw [q_row_lo _ _ (by omega) (by omega)] at this
      exact this
    obtain ⟨S24, gb, ⟨g0, g1, g2⟩, g3, g4, g5, g6, g7⟩ := g_begin (S := S16) (sb := x + 137) (pd := pd) (nq := nq) (cnt := cnt) (kb := pd + 6) (nk := nk') (nc := nc') (p := T'.1 (m + 2)) (a := q_row (T'.1 (m + 2)) (T'.1 (m + 6))) gSt o5 (q_vpb_of h.zl rS16 hpd) (fun c hc => q_vref_of h.zl rS16 hpd hc) (by omega) nc6 (by rw [(b16 _ _ (by omega)).1]; exact h8) (by rw [(b16 _ _ (by omega)).1]; exact hq1) (fun c hc => ⟨q_vit_cp (hcs c hc).2.1 (fun k _ => (b16 _ _ (by omega)).1) (fun l hl => ⟨fun k _ _ => (b16 _ _ (by omega)).1, (b16 _ _ (by omega)).2.2⟩) (fun _ _ _ => rfl), (hcs c hc).1⟩)
    have rS24 : q_RS S24.2.2 x 0 341 := q_RS_R rS16 (fun j k' hj hne => by
      refine g7 (x + j) k' (fun ⟨c, k, q1, q2, q3⟩ => hne ?_)
      rw [show j = 143 + 10 * c + k by omega]; exact q_kcas q1 q2)
    have s241 : S24.2.2 x 1 = some pd := by rw [(g6 _ _ (by omega)).2.2]; exact s161
    have s242 : S24.2.2 x 2 = some pb := by rw [(g6 _ _ (by omega)).2.2]; exact s162
    have s245 : S24.2.2 x 5 = some (x + 202) := rS24.g (a := 0) (by decide +kernel)
    have bn : vp_nar .boolean (0 : Int32) = 0 := by decide
    obtain ⟨S25, ⟨z25, b25, r25⟩, gl⟩ := q_loopA (F := F_X8_load_42 Z x) (N := 2) (fun i U => (∀ j, j < i → U.1 (x + 202) j = 0) ∧ q_ag (fun b _ => ¬ b = x + 202) S24 U ∧ U.2 = S24.2) (by omega) (fun i U hi hU => by
      obtain ⟨x1, x2, x3⟩ := hU
      refine ⟨m_pI U (x + 202) i 0, ⟨fun j hj => ?_, q_ag_I x2 (by omega), x3⟩, fun _j lp => ?_⟩
      · by_cases e : j = i
        · rw [e, pI_same]
        · rw [pI_ne (by omega)]; exact x1 j (by omega)
      · unfold F_X8_load_42
        simp only [io_tn (show i < 2147483648 by omega)]
        rw [x3, s245, m_b1_s, m_gd_t h.o202.1, h.o202.2, if_neg (fun q => absurd ((io_le (by omega) (by omega)).mp q) (by omega)), m_gd_t (io_in (by omega) (by omega)), bn, m_lt_s, io_one, m_lt_s])
      (fun U hU _j lp => by
        unfold F_X8_load_42
        simp only []
        rw [hU.2.2, s245, m_b1_s, m_gd_t h.o202.1, h.o202.2, if_pos (Int32.le_refl _)]) S24 ⟨fun j hj => absurd hj (Nat.not_lt_zero _), q_ag_refl _ _, rfl⟩
    have aS : q_ag (fun b k => ¬ (b = x ∧ (k = 1 ∨ k = 2)) ∧ ¬ (x + 137 ≤ b ∧ b < x + 201) ∧ ¬ b = x + 202) S' S25 := q_ag_trans (q_ag_sub b16 (fun b k hb => by omega)) (q_ag_trans (q_ag_sub g6 (fun b k hb => by omega)) (q_ag_sub b25 (fun b k hb => by omega)))
    -- the reference
    have kdx : ∀ c k, c < nc' → k < cnt c → ∃ kd, T'.1 (m + 6) (12 + 56 * c + 4 * k + 1) = Int32.ofNat kd ∧ kd < 4 ∧ q_wk (T'.1 (m + 2)) kd := fun c k hc hk => by
      have v := ((hcs c hc).2.1.2.2.2.2.2.2.2 k hk).2.1
      have c5 := (hcs c hc).1
      rw [q_row_x (by omega)] at v
      exact ⟨_, v.2.1, by have := v.1; omega, (hK.2 _ v.1).2.2⟩
    obtain ⟨T5, et, t1, t2, t3, t4, t5, t6, ⟨t70, t71⟩, t8, t9⟩ := e_takes hM' nc6 p5 (fun c hc => ⟨(hcs c hc).1, cn8 c hc⟩) kdx
    have hM5 : q_M Z T5.2.2 m := by rw [t9]; exact hM'
    have T50 : T5.1 m 0 = 0 := by rw [(t8 _ _ (by omega)).1]; exact T0'
    have p55 : T5.1 (m + 1) 5 = Int32.ofNat nc' := by rw [t1 _ (by omega)]; exact p5
    have rcE : m_bx (f_X3_readInto Z S (x + 1) pd) (fun _u S8 => m_b1 (S8.2.2 x 2) (fun b10 => m_b1 (S8.2.2 x 1) (fun b12 => m_lt (m_pR S8 x 2 (some b12)) (fun S14 => m_lt (m_pR S14 x 1 (some b10)) (fun S16 => m_b1 (S16.2.2 x 3) (fun b18 => m_b1 (S16.2.2 x 1) (fun b20 => m_gd (m_ok Z b18 6) (m_bw (f_X6_begin Z S16 b18 b20) (fun _u S24 => m_jp (fun (S25 : m_S) => m_b1 (S25.2.2 x 1) (fun b26 => m_gd (m_ok Z b26 5) (some ((.ok (S25.1 b26 8)), S25)))) (fun j29 => m_fx (F_X8_load_42 Z x j29) 100000 ((0 : Int32), S24))))))))))) = some (.ok (Int32.ofNat nc'), S25) := by
      rw [rc, m_bx_s, u2, m_b1_s, u1, m_b1_s, m_lt_s, ← hS16, m_lt_s, show S16.2.2 x 3 = some (x + 137) from rS16.g (a := 0) (by decide +kernel), m_b1_s, s161, m_b1_s, m_gd_t gSt.1, gb, m_bw_s, m_jp_s, gl, r25, s241, m_b1_s, m_gd_t o5, (aS _ _ (by omega)).1, h8]
    have rmE : m_bw (m_bw (f_X9_token Z T7 m) (fun _u S17 => f_X9_reads Z S17 m)) (fun _u S19 => m_b1 (f_X9_isWrong Z S19 m) (fun v21 => m_jp (fun (v23 : Int32) => m_bw (f_X9_may Z S19 m v23 (1 : Int32)) (fun v26 S25 => (if ¬ v26 = 0 then m_bw (f_X9_takes Z S25 m) (fun _u S29 => m_b1 (S29.2.2 m 1) (fun b30 => m_gd (m_ok Z b30 11) (m_gd (m_in (5 : Int32) (Z.2.2 b30)) (some ((S29.1 b30 (5 : Int32).toNatClampNeg), S29))))) else some ((0 : Int32), S25)))) (fun j22 => (if ¬ v21 = 0 then j22 (0 : Int32) else j22 (1 : Int32))))) = some (Int32.ofNat nc', T5) := by
      rw [rm, m_bw_s, e_wrong0 hM' e18, m_b1_s, m_jp_c (d := (1 : Int32)) (fun j => if_neg nz0), e_may1 hM'.o z10 T0', m_bw_s, if_pos z10, et, m_bw_s, hM5.p.1, m_b1_s, m_gd_t hM5.p.2.1, m_gd_t (q_inl (wi := 5) (i := 5) rfl hM5.p.2 (by omega) (by omega)), tn5, p55]
    have aTT : q_ag (fun b _ => ¬ (m ≤ b ∧ b < m + 14)) T T5 := q_ag_trans (q_ag_sub aA (fun b k hb => by omega)) (q_ag_trans (q_ag_sub fT (fun b k hb => by omega)) (q_ag_sub t8 (fun b k hb => by omega)))
    have aSS : q_ag (fun b _ => ¬ (x ≤ b ∧ b < x + 341)) S S25 := q_ag_trans (q_ag_sub fS (fun b k hb => by omega)) (q_ag_sub aS (fun b k hb => by omega))
    have rowA : ∀ c, c < nc' → ∀ k, 4 + 56 * c ≤ k → k < 9 + 56 * c ∨ 12 + 56 * c ≤ k → k < 36 + 56 * c → T5.1 (m + 3) k = q_row (T'.1 (m + 2)) (T'.1 (m + 6)) k := fun c hc k k1 k2 k3 => t2 c hc k k1 k3 (by omega) (by omega)
    have rel : q_Rel Z x m (N + 1) pd ns' nk' nc' S25 T5 := by
      refine ⟨⟨hm, h.zl, by rw [r25]; exact rS24, by rw [t9, fTR, jA]; exact h.rt⟩, ?_, q_set9_ag hs9 (fun b k hb => aS b k (by omega)) t1, q_Ks_g hK (fun b k _ _ => (aS _ _ (by omega)).1) (fun b k _ _ => (aS _ _ (by omega)).2.2) (fun j _ _ => t1 j (by omega)), ⟨cnt, 0, by omega, fun c hc => (hcs c hc).1, ?_, ?_, ⟨?_, ?_⟩, ?_, ?_, ?_, ?_, fun c hc => ?_⟩, fun s hs => ⟨⟨?_, ?_⟩, fun q => ?_⟩, 0, by omega, ?_, ?_, ?_, ?_, fun j hj => absurd hj (Nat.not_lt_zero _)⟩
      · unfold q_pbs
        rw [r25, s241, s242]
        rcases hd with ⟨q1, q2⟩ | ⟨q1, q2⟩
        · exact Or.inl ⟨q1, by rw [q1], by rw [q2]⟩
        · exact Or.inr ⟨q1, by rw [q1], by rw [q2]⟩
      · rw [t4 2 (by omega), hq3 2 (by omega)]; exact ⟨Int.le_refl 0, by decide⟩
      · refine q_ser_ag2 hser (t4 3 (by omega)) (fun c k hc hk => ?_) (by omega)
        have := (hcs c hc).1
        rw [rowA c hc _ (by omega) (by omega) (by omega), q_row_x (by omega)]
      · rw [(b25 _ _ (by omega)).1]; exact g0
      · rw [t4 0 (by omega)]; exact hq3 0 (by omega)
      · rw [(b25 _ _ (by omega)).1, g1, t4 1 (by omega), hq3 1 (by omega)]
      · rw [(b25 _ _ (by omega)).1, g2, t4 2 (by omega), hq3 2 (by omega)]
      · rw [(b25 _ _ (by omega)).1, g3, t4 3 (by omega), hq2]
      · rw [(b25 _ _ (by omega)).1, g4]
      · obtain ⟨c5, dv, dw, d9⟩ := hcs c hc
        obtain ⟨z1, ⟨z2, z3, z4, z5, z6⟩, z7, z8, z9⟩ := q_bc_ag (S' := S25) (g5 c hc) (by omega) (fun b k hb => b25 b k (by omega))
        have v1 := q_vit_a (a' := T5.1 (m + 3)) z1 (by omega) (rowA c hc)
        have w1 := q_wv_a (a' := T5.1 (m + 3)) dw (rowA c hc)
        have sm := q_sum9 (Z := Z) v1 w1 (q_Ks_g (S' := S25) (p' := T'.1 (m + 2)) hK (fun b k _ _ => (aS _ _ (by omega)).1) (fun b k _ _ => (aS _ _ (by omega)).2.2) (fun _ _ _ => rfl))
        refine ⟨⟨by rw [t1 _ (by omega)]; exact v1.1, v1.2⟩, q_wv_p (S := S') w1 v1 hK (by omega) t1, ⟨?_, ?_, ?_, ?_, ?_⟩, ?_, ?_, ?_, fun j _ hj => absurd hj (Nat.not_lt_zero _)⟩
        · rw [z2, t5 c hc, v1.2.2.2.2.1, sm.1]
          have air := w1.2.2.1
          rw [l_eq, l_of, t_add (by omega) (by omega), l_add (by rw [l_of, l_of]; omega) (by rw [l_of, l_of]; omega), l_of, l_of]
        · rw [z3, t6 c 2 hc (by omega) (by omega)]
        · rw [z4, t6 c 3 hc (by omega) (by omega)]
        · rw [z5, t6 c 4 hc (by omega) (by omega)]
        · rw [z6]; exact (t6 c 0 hc (by omega) (by omega)).symm
        · rw [z7, t2 c hc _ (by omega) (by omega) (by omega) (by omega), q_row_lo _ _ (by omega) (by omega), d9]
        · rw [z8, (t3 c hc).1]
        · rw [z9, (t3 c hc).2]
      · have hs' : s = 0 ∨ s = 1 := by omega
        rcases hs' with rfl | rfl
        · rw [t70]; exact z25 0 (by omega)
        · rw [t71]; exact z25 1 (by omega)
      · have hs' : s = 0 ∨ s = 1 := by omega
        rcases hs' with rfl | rfl
        · exact Or.inl t70
        · exact Or.inl t71
      · have hs' : s = 0 ∨ s = 1 := by omega
        rcases hs' with rfl | rfl
        · exact absurd t70 q
        · exact absurd t71 q
      · rw [(aS _ _ (by omega)).1, l1]; rfl
      · rw [(t8 _ _ (by omega)).1, (fT _ _ (by omega)).1, A12]; rfl
      · rw [(aS _ _ (by omega)).1, e2, (t8 _ _ (by omega)).1, e18]
      · rw [(aS _ _ (by omega)).1, e3, (t8 _ _ (by omega)).1, e19]
    exact ⟨S25, T5, aSS, aTT, ⟨pd, ns', nk', nc', rel⟩, Or.inl ⟨_, _, rcE, rmE, T50, rfl⟩⟩
  · obtain ⟨-, -, -, rS', -, fS, fT, fTR⟩ := id hF'
    have hM' := hF'.M
    have T0' : T'.1 m 0 = 0 := by rw [(fT _ _ (by omega)).1]; exact A0
    obtain ⟨T8, hT8⟩ : ∃ y, y = m_pI T' m 0 1 := ⟨_, rfl⟩
    have b8 : q_ag (fun b k => ¬ (b = m ∧ k = 0)) T' T8 := by rw [hT8]; exact q_ag_I (q_ag_refl _ _) (by omega)
    have aT8 : q_ag (fun b k => ¬ (b = m ∧ (k = 0 ∨ (12 ≤ k ∧ k ≤ 20))) ∧ ¬ (b = m + 2) ∧ ¬ (b = m + 6) ∧ ¬ (b = m + 12) ∧ ¬ (b = m + 13)) T T8 := q_ag_trans (q_ag_sub aA (fun b k hb => by omega)) (q_ag_trans (q_ag_sub fT (fun b k hb => by omega)) (q_ag_sub b8 (fun b k hb => by omega)))
    refine ⟨S', T8, q_ag_sub fS (fun b k hb => by omega), q_ag_sub aT8 (fun b k hb => by omega), ⟨pb, ns, nk, nc, q_Rel_ld h hd fS rS' aT8 (by rw [hT8]; show T'.2.2 = _; rw [fTR, jA]) l1 ?_ ?_ ?_⟩, Or.inr ⟨"java/lang/IllegalArgumentException", 0, ?_, ?_, ?_⟩⟩
    · rw [(b8 _ _ (by omega)).1, (fT _ _ (by omega)).1]; exact A12
    · rw [(b8 _ _ (by omega)).1]; exact c1
    · rw [(b8 _ _ (by omega)).1]; exact c2
    · rw [rc, m_bx_e]
    · rw [rm, m_bw_s, e_wrong1 ⟨hM', hne⟩, m_b1_s, m_jp_c (d := (0 : Int32)) (fun j => if_pos z10), e_may0 hM'.o T0' z10, m_bw_s, if_neg nz0, hT8]
    · rw [hT8, pI_same]; simp
end LOAD
