/-! THE REFERENCE'S ROWS: m is the reference, its rows at m + 1 .. m + 13 -/
def q_M (Z : m_Z) (R : Nat → Nat → Option Nat) (m : Nat) : Prop := m_ok Z m 9 ∧ (R m 1 = some (m + 1) ∧ m_okn Z (m + 1) 11 116) ∧ (R m 2 = some (m + 2) ∧ m_okn Z (m + 2) 11 116) ∧ (R m 3 = some (m + 3) ∧ m_okn Z (m + 3) 11 340) ∧ (R m 4 = some (m + 4) ∧ m_okn Z (m + 4) 11 340) ∧ (R m 5 = some (m + 5) ∧ m_okn Z (m + 5) 11 680) ∧ (R m 6 = some (m + 6) ∧ m_okn Z (m + 6) 11 340) ∧ (R m 7 = some (m + 7) ∧ m_okn Z (m + 7) 12 30) ∧ (R m 8 = some (m + 8) ∧ m_okn Z (m + 8) 12 30) ∧ (R m 9 = some (m + 9) ∧ m_okn Z (m + 9) 12 60) ∧ (R m 10 = some (m + 10) ∧ m_okn Z (m + 10) 13 2) ∧ (R m 11 = some (m + 11) ∧ m_okn Z (m + 11) 11 900) ∧ (R m 21 = some (m + 12) ∧ m_okn Z (m + 12) 12 4) ∧ R m 22 = some (m + 13) ∧ m_okn Z (m + 13) 12 6
theorem q_M.o {Z : m_Z} {R : Nat → Nat → Option Nat} {m : Nat} (h : q_M Z R m) : m_ok Z m 9 := h.1
theorem q_M.p {Z : m_Z} {R : Nat → Nat → Option Nat} {m : Nat} (h : q_M Z R m) : R m 1 = some (m + 1) ∧ m_okn Z (m + 1) 11 116 := h.2.1
theorem q_M.told {Z : m_Z} {R : Nat → Nat → Option Nat} {m : Nat} (h : q_M Z R m) : R m 2 = some (m + 2) ∧ m_okn Z (m + 2) 11 116 := h.2.2.1
theorem q_M.a {Z : m_Z} {R : Nat → Nat → Option Nat} {m : Nat} (h : q_M Z R m) : R m 3 = some (m + 3) ∧ m_okn Z (m + 3) 11 340 := h.2.2.2.1
theorem q_M.beside {Z : m_Z} {R : Nat → Nat → Option Nat} {m : Nat} (h : q_M Z R m) : R m 4 = some (m + 4) ∧ m_okn Z (m + 4) 11 340 := h.2.2.2.2.1
theorem q_M.saved {Z : m_Z} {R : Nat → Nat → Option Nat} {m : Nat} (h : q_M Z R m) : R m 5 = some (m + 5) ∧ m_okn Z (m + 5) 11 680 := h.2.2.2.2.2.1
theorem q_M.fresh {Z : m_Z} {R : Nat → Nat → Option Nat} {m : Nat} (h : q_M Z R m) : R m 6 = some (m + 6) ∧ m_okn Z (m + 6) 11 340 := h.2.2.2.2.2.2.1
theorem q_M.b {Z : m_Z} {R : Nat → Nat → Option Nat} {m : Nat} (h : q_M Z R m) : R m 7 = some (m + 7) ∧ m_okn Z (m + 7) 12 30 := h.2.2.2.2.2.2.2.1
theorem q_M.besideL {Z : m_Z} {R : Nat → Nat → Option Nat} {m : Nat} (h : q_M Z R m) : R m 8 = some (m + 8) ∧ m_okn Z (m + 8) 12 30 := h.2.2.2.2.2.2.2.2.1
theorem q_M.savedL {Z : m_Z} {R : Nat → Nat → Option Nat} {m : Nat} (h : q_M Z R m) : R m 9 = some (m + 9) ∧ m_okn Z (m + 9) 12 60 := h.2.2.2.2.2.2.2.2.2.1
theorem q_M.isSaved {Z : m_Z} {R : Nat → Nat → Option Nat} {m : Nat} (h : q_M Z R m) : R m 10 = some (m + 10) ∧ m_okn Z (m + 10) 13 2 := h.2.2.2.2.2.2.2.2.2.2.1
theorem q_M.text {Z : m_Z} {R : Nat → Nat → Option Nat} {m : Nat} (h : q_M Z R m) : R m 11 = some (m + 11) ∧ m_okn Z (m + 11) 11 900 := h.2.2.2.2.2.2.2.2.2.2.2.1
theorem q_M.kindN {Z : m_Z} {R : Nat → Nat → Option Nat} {m : Nat} (h : q_M Z R m) : R m 21 = some (m + 12) ∧ m_okn Z (m + 12) 12 4 := h.2.2.2.2.2.2.2.2.2.2.2.2.1
theorem q_M.caseN {Z : m_Z} {R : Nat → Nat → Option Nat} {m : Nat} (h : q_M Z R m) : R m 22 = some (m + 13) ∧ m_okn Z (m + 13) 12 6 := h.2.2.2.2.2.2.2.2.2.2.2.2.2
theorem q_inn {Z : m_Z} {a c N i : Nat} (g : m_okn Z a c N) (h : i < N) (h2 : i < 2147483648) : m_in (Int32.ofNat i) (Z.2.2 a) := io_in h2 (by rw [g.2]; exact h)
theorem q_ix (c w : Nat) : ((4 : Int32) + ((56 : Int32) * Int32.ofNat c)) + Int32.ofNat w = Int32.ofNat (4 + 56 * c + w) := by
  show Int32.ofNat 4 + Int32.ofNat 56 * Int32.ofNat c + Int32.ofNat w = _
  rw [io_mul, io_add, io_add]
theorem q_ix2 (c k w : Nat) : ((((4 : Int32) + ((56 : Int32) * Int32.ofNat c)) + (8 : Int32)) + ((4 : Int32) * Int32.ofNat k)) + Int32.ofNat w = Int32.ofNat (4 + 56 * c + 8 + 4 * k + w) := by
  show Int32.ofNat 4 + Int32.ofNat 56 * Int32.ofNat c + Int32.ofNat 8 + Int32.ofNat 4 * Int32.ofNat k + Int32.ofNat w = _
  rw [io_mul, io_mul, io_add, io_add, io_add, io_add]
section MROWS
variable {Z : m_Z} {S : m_S} {m c w k : Nat} {wi : Int32}
theorem e_of (h : q_M Z S.2.2 m) (hw : wi = Int32.ofNat w) (hc : c < 6) (h2 : w < 56) : f_X9_of Z S m (Int32.ofNat c) wi = some (S.1 (m + 3) (4 + 56 * c + w)) := by
  subst hw
  unfold f_X9_of
  rw [m_gd_t h.o, h.a.1, m_b1_s, m_gd_t h.a.2.1, m_lt_s, q_ix, m_gd_t (q_inn h.a.2 (by omega) (by omega)), io_tn (by omega)]
theorem e_its (h : q_M Z S.2.2 m) (hw : wi = Int32.ofNat w) (hc : c < 6) (hk : k < 6) (h2 : w < 4) : f_X9_its Z S m (Int32.ofNat c) (Int32.ofNat k) wi = some (S.1 (m + 3) (12 + 56 * c + 4 * k + w)) := by
  subst hw
  unfold f_X9_its
  rw [m_gd_t h.o, h.a.1, m_b1_s, m_gd_t h.a.2.1, m_lt_s, q_ix2, m_gd_t (q_inn h.a.2 (by omega) (by omega)), io_tn (by omega)]
  exact congrArg (fun q => some (S.1 (m + 3) q)) (by omega)
theorem e_lays (h : q_M Z S.2.2 m) (hw : wi = Int32.ofNat w) (hc : c < 6) (h2 : w < 56) (v : Int32) : f_X9_lays Z S m (Int32.ofNat c) wi v = some ((), m_pI S (m + 3) (4 + 56 * c + w) v) := by
  subst hw
  unfold f_X9_lays
  rw [m_gd_t h.o, h.a.1, m_b1_s, m_gd_t h.a.2.1, q_ix, m_gd_t (q_inn h.a.2 (by omega) (by omega)), m_lt_s, io_tn (by omega)]
theorem e_cassettes (h : q_M Z S.2.2 m) (hw : wi = Int32.ofNat w) (hc : c < 6) (hk : k < 6) (h2 : w < 4) (v : Int32) : f_X9_cassettes Z S m (Int32.ofNat c) (Int32.ofNat k) wi v = some ((), m_pI S (m + 3) (12 + 56 * c + 4 * k + w) v) := by
  subst hw
  unfold f_X9_cassettes
  rw [m_gd_t h.o, h.a.1, m_b1_s, m_gd_t h.a.2.1, q_ix2, m_gd_t (q_inn h.a.2 (by omega) (by omega)), m_lt_s, io_tn (by omega)]
  exact congrArg (fun q => some ((), m_pI S (m + 3) q v)) (by omega)
theorem e_counts (h : q_M Z S.2.2 m) (hw : wi = Int32.ofNat w) (hc : c < 6) (h2 : w < 5) (v : Int64) : f_X9_counts Z S m (Int32.ofNat c) wi v = some ((), m_pJ S (m + 7) (5 * c + w) (S.2.1 (m + 7) (5 * c + w) + v)) := by
  subst hw
  have e : ((5 : Int32) * Int32.ofNat c) + Int32.ofNat w = Int32.ofNat (5 * c + w) := by
    show Int32.ofNat 5 * Int32.ofNat c + Int32.ofNat w = _
    rw [io_mul, io_add]
  unfold f_X9_counts
  rw [m_gd_t h.o, h.b.1, m_b1_s, m_lt_s, e, m_gd_t h.b.2.1, m_gd_t (q_inn h.b.2 (by omega) (by omega)), m_gd_t (q_inn h.b.2 (by omega) (by omega)), m_lt_s, io_tn (by omega)]
end MROWS
/-- a kind of the reference's row p -/
def q_x (p : Nat → Int32) (k : Nat) : Nat → Int32 := fun j => p (56 + 14 * k + 2 * j)
def q_y (p : Nat → Int32) (k : Nat) : Nat → Int32 := fun j => p (57 + 14 * k + 2 * j)
def q_nn (p : Nat → Int32) (k : Nat) : Nat := (p (55 + 14 * k)).toNatClampNeg
/-- .. as the document has it -/
def q_wk (p : Nat → Int32) (k : Nat) : Prop := p (55 + 14 * k) = Int32.ofNat (q_nn p k) ∧ q_iso (q_x p k) (q_y p k) (q_nn p k) ∧ 0 ≤ (p (54 + 14 * k)).toInt ∧ (p (54 + 14 * k)).toInt ≤ 1000
def q_mp (p : Nat → Int32) (k : Nat) (mass hum : Int32) : Int32 := q_mo (q_x p k) (q_y p k) (q_nn p k) mass hum
theorem e_content {Z : m_Z} {S : m_S} {m k : Nat} {hum : Int32} (h : q_M Z S.2.2 m) (hk : k < 4) (hw : q_wk (S.1 (m + 1)) k) : f_X9_contentOf Z S m (Int32.ofNat k) hum = some (q_ct (q_x (S.1 (m + 1)) k) (q_y (S.1 (m + 1)) k) (q_nn (S.1 (m + 1)) k) hum) := m_content h.o h.p.1 h.p.2 hk hw.1 (fun _ => rfl) (fun _ => rfl) hw.2.1
theorem e_would {Z : m_Z} {S : m_S} {m k : Nat} {mass hum : Int32} (h : q_M Z S.2.2 m) (hk : k < 4) (hw : q_wk (S.1 (m + 1)) k) : f_X9_wouldHave Z S m (Int32.ofNat k) mass hum = some (q_mp (S.1 (m + 1)) k mass hum) := by
  unfold f_X9_wouldHave
  rw [m_gd_t h.o, e_content h hk hw, m_b1_s]
  rfl
/-! THE CLASS'S OBJECTS -/
/-- a vitrine's cells lie one behind the other -/
def q_V (Z : m_Z) (R : Nat → Nat → Option Nat) (v : Nat) : Prop := m_ok Z v 7 ∧ (R v 6 = some (v + 1) ∧ m_okn Z (v + 1) 14 6) ∧ ∀ k, k < 6 → R (v + 1) k = some (v + 2 + k) ∧ m_ok Z (v + 2 + k) 0
/-- a kind's -/
def q_K (Z : m_Z) (R : Nat → Nat → Option Nat) (d : Nat) : Prop := m_ok Z d 1 ∧ (R d 3 = some (d + 1) ∧ m_okn Z (d + 1) 11 6) ∧ R d 4 = some (d + 2) ∧ m_okn Z (d + 2) 11 6
/-- the kind at d is number k of row p -/
def q_kin (S : m_S) (d : Nat) (p : Nat → Int32) (k : Nat) : Prop := S.1 d 0 = Int32.ofNat k ∧ S.1 d 1 = p (54 + 14 * k) ∧ S.1 d 2 = p (55 + 14 * k) ∧ ∀ j, j < q_nn p k → S.1 (d + 1) j = q_x p k j ∧ S.1 (d + 2) j = q_y p k j
theorem q_cg_congr {x y x' y' : Nat → Int32} {n : Nat} {hum : Int32} (h : ∀ j, j < n → x j = x' j ∧ y j = y' j) (h0 : 0 < n) : ∀ (d i : Nat), d + i = n → 0 < i → q_cg x y n hum d i = q_cg x' y' n hum d i
  | 0, i, _, _ => (h (n - 1) (by omega)).2
  | d + 1, i, h1, h2 => by
    unfold q_cg
    rw [(h i (by omega)).1, (h i (by omega)).2, (h (i - 1) (by omega)).1, (h (i - 1) (by omega)).2, q_cg_congr h h0 d (i + 1) (by omega) (by omega)]
theorem q_ct_congr {x y x' y' : Nat → Int32} {n : Nat} {hum : Int32} (h : ∀ j, j < n → x j = x' j ∧ y j = y' j) (h0 : 0 < n) : q_ct x y n hum = q_ct x' y' n hum := by
  unfold q_ct
  rw [(h 0 h0).1, (h 0 h0).2, q_cg_congr h h0 (n - 1) 1 (by omega) (by omega)]
theorem q_iso_congr {x y x' y' : Nat → Int32} {n : Nat} (h : ∀ j, j < n → x j = x' j ∧ y j = y' j) (hi : q_iso x' y' n) : q_iso x y n := by
  refine ⟨hi.1, fun j hj => ?_, fun j hj => ?_⟩
  · rw [(h j hj).1, (h j hj).2]; exact hi.2.1 j hj
  · rw [(h j (by omega)).1, (h j (by omega)).2, (h (j + 1) hj).1, (h (j + 1) hj).2]; exact hi.2.2 j hj
theorem g_content {Z : m_Z} {S : m_S} {d k : Nat} {p : Nat → Int32} {hum : Int32} (g : q_K Z S.2.2 d) (hr : q_kin S d p k) (hw : q_wk p k) : f_X1_contentAt Z S d hum = some (q_ct (q_x p k) (q_y p k) (q_nn p k) hum) := by
  rw [c_content g.1 g.2.1.1 g.2.2.1 g.2.1.2 g.2.2.2 (n := q_nn p k) (hr.2.2.1.trans hw.1) (q_iso_congr hr.2.2.2 hw.2.1), q_ct_congr hr.2.2.2 (by have := hw.2.1.1.1; omega)]
theorem g_would {Z : m_Z} {S : m_S} {d k : Nat} {p : Nat → Int32} {mass hum : Int32} (g : q_K Z S.2.2 d) (hr : q_kin S d p k) (hw : q_wk p k) : f_X1_moistureAt Z S d hum mass = some (q_mp p k mass hum) := by
  unfold f_X1_moistureAt
  rw [m_gd_t g.1, g_content g hr hw, m_b1_s]
  rfl
