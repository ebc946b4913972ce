/-! THE FLAT PICTURE: every cell of the system by its address: m_Z says which cells there are, of which kind, how long; m_S what they hold -/
abbrev m_S : Type := (Nat → Nat → Int32) × (Nat → Nat → Int64) × (Nat → Nat → Option Nat)
abbrev m_Z : Type := List Nat × (Nat → Nat) × (Nat → Nat)
abbrev m_E : Type := va_G × (Nat → ClassId) × (Nat → Nat) × (Nat → Nat)
def m_fs (c : Nat) (S : m_S) (a : Nat) : List Value := match c with
  | 0 => [.int (S.1 a 0), va_rf (S.2.2 a 1), .int (S.1 a 2), .int (S.1 a 3)]
  | 1 => [.int (S.1 a 0), .int (S.1 a 1), .int (S.1 a 2), va_rf (S.2.2 a 3), va_rf (S.2.2 a 4)]
  | 2 => [.long (S.2.1 a 0), .long (S.2.1 a 1), .long (S.2.1 a 2), .long (S.2.1 a 3), .int (S.1 a 4), .int (S.1 a 5), .int (S.1 a 6), .long (S.2.1 a 7), va_rf (S.2.2 a 8)]
  | 3 => [va_rf (S.2.2 a 0), .int (S.1 a 1), .int (S.1 a 2), .int (S.1 a 3), .int (S.1 a 4), .int (S.1 a 5), .int (S.1 a 6), .int (S.1 a 7), va_rf (S.2.2 a 8), va_rf (S.2.2 a 9)]
  | 4 => [.int (S.1 a 0), .int (S.1 a 1), .int (S.1 a 2)]
  | 5 => [.int (S.1 a 0), .int (S.1 a 1), .int (S.1 a 2), va_rf (S.2.2 a 3), va_rf (S.2.2 a 4), va_rf (S.2.2 a 5), .int (S.1 a 6), va_rf (S.2.2 a 7), .int (S.1 a 8), va_rf (S.2.2 a 9), .int (S.1 a 10)]
  | 6 => [va_rf (S.2.2 a 0), .int (S.1 a 1), .int (S.1 a 2), va_rf (S.2.2 a 3), va_rf (S.2.2 a 4)]
  | 7 => [.int (S.1 a 0), .int (S.1 a 1), .int (S.1 a 2), .int (S.1 a 3), .int (S.1 a 4), .int (S.1 a 5), va_rf (S.2.2 a 6)]
  | 8 => [va_rf (S.2.2 a 0), va_rf (S.2.2 a 1), va_rf (S.2.2 a 2), va_rf (S.2.2 a 3), va_rf (S.2.2 a 4), va_rf (S.2.2 a 5), va_rf (S.2.2 a 6), va_rf (S.2.2 a 7), va_rf (S.2.2 a 8)]
  | 9 => [.int (S.1 a 0), va_rf (S.2.2 a 1), va_rf (S.2.2 a 2), va_rf (S.2.2 a 3), va_rf (S.2.2 a 4), va_rf (S.2.2 a 5), va_rf (S.2.2 a 6), va_rf (S.2.2 a 7), va_rf (S.2.2 a 8), va_rf (S.2.2 a 9), va_rf (S.2.2 a 10), va_rf (S.2.2 a 11), .int (S.1 a 12), .int (S.1 a 13), .int (S.1 a 14), .int (S.1 a 15), .int (S.1 a 16), .int (S.1 a 17), .int (S.1 a 18), .int (S.1 a 19), .long (S.2.1 a 20), va_rf (S.2.2 a 21), va_rf (S.2.2 a 22), .int (S.1 a 23), .int (S.1 a 24), .int (S.1 a 25)]
  | _ => []
def m_ar (c : Nat) (S : m_S) (a n : Nat) : vp_A := match c with
  | 10 => (n, .inl (S.1 a))
  | 11 => (n, .inl (S.1 a))
  | 12 => (n, .inr (.inl (S.2.1 a)))
  | 13 => (n, .inl (S.1 a))
  | 19 => (n, .inr (.inr (.inr (.inl (fun j => (S.2.1 a j).toUInt64)))))
  | _ => (n, .inr (.inr (.inr (.inr (S.2.2 a)))))
def m_cell (cy : Nat → ClassId) (Z : m_Z) (S : m_S) (a : Nat) : va_E := if Z.2.1 a < 10 then .inr (Z.2.1 a, m_fs (Z.2.1 a) S a) else .inl (cy (Z.2.1 a), m_ar (Z.2.1 a) S a (Z.2.2 a))
def m_w (E : m_E) (Z : m_Z) (S : m_S) : va_W := va_pl Z.1 (m_cell E.2.1 Z S)
def m_tys (cy : Nat → ClassId) : List (ClassId × FieldType) := [(cy 10, .byte), (cy 11, .int), (cy 12, .long), (cy 13, .boolean), (cy 14, .object "MuseumCases$Cassette"), (cy 15, .object "MuseumCases$Kind"), (cy 16, .object "MuseumCases$Logbook"), (cy 17, .object "MuseumCases$State"), (cy 18, .object "MuseumCases$Vitrine"), (cy 19, .double)]
def m_pI (S : m_S) (a k : Nat) (v : Int32) : m_S := (fun b j => if b = a ∧ j = k then v else S.1 b j, S.2.1, S.2.2)
def m_pJ (S : m_S) (a k : Nat) (v : Int64) : m_S := (S.1, fun b j => if b = a ∧ j = k then v else S.2.1 b j, S.2.2)
def m_pR (S : m_S) (a k : Nat) (v : Option Nat) : m_S := (S.1, S.2.1, fun b j => if b = a ∧ j = k then v else S.2.2 b j)
abbrev m_ok (Z : m_Z) (a c : Nat) : Prop := a ∈ Z.1 ∧ Z.2.1 a = c
abbrev m_in (i : Int32) (n : Nat) : Prop := ¬ (i < 0 ∨ n ≤ i.toNatClampNeg)
/-- which cells a method may change: the system's, and those that come -/
def m_A (Z : m_Z) (sz : Nat) : Nat → Prop := fun q => q ∈ Z.1 ∨ sz ≤ q
/-! the pure side: what cannot go on is none -/
def m_gd {α : Type} (c : Prop) [Decidable c] (t : Option α) : Option α := if c then t else none
def m_b1 {α β : Type} (o : Option α) (k : α → Option β) : Option β := match o with | some a => k a | none => none
def m_bw {α β : Type} (o : Option (α × m_S)) (k : α → m_S → Option β) : Option β := match o with | some p => k p.1 p.2 | none => none
def m_bt {α β : Type} (o : Option (Except String α)) (k : α → Option (Except String β)) : Option (Except String β) := match o with
  | some (.ok a) => k a
  | some (.error e) => some (.error e)
  | none => none
def m_btw {α β : Type} (o : Option (Except String α)) (S : m_S) (k : α → Option (Except String β × m_S)) : Option (Except String β × m_S) := match o with
  | some (.ok a) => k a
  | some (.error e) => some (.error e, S)
  | none => none
def m_bx {α β : Type} (o : Option (Except String α × m_S)) (k : α → m_S → Option (Except String β × m_S)) : Option (Except String β × m_S) := match o with
  | some (.ok a, S) => k a S
  | some (.error e, S) => some (.error e, S)
  | none => none
/-- a name for what is used more than once -/
def m_lt {α β : Type} (v : α) (k : α → β) : β := k v
/-- a place that several roads lead to -/
def m_jp {α β : Type} (k : α) (b : α → β) : β := b k
/-- a loop -/
def m_fx {α β : Type} (F : (α → Option β) → α → Option β) : Nat → α → Option β
  | 0, _ => none
  | n + 1, a => F (m_fx F n) a
theorem m_gd_of {α : Type} {c : Prop} [Decidable c] {t : Option α} {r : α} (h : m_gd c t = some r) : c ∧ t = some r := by
  unfold m_gd at h
  by_cases q : c
  · rw [if_pos q] at h; exact ⟨q, h⟩
  · rw [if_neg q] at h; cases h
theorem m_b1_of {α β : Type} {o : Option α} {k : α → Option β} {r : β} (h : m_b1 o k = some r) : ∃ a, o = some a ∧ k a = some r := by
  cases o with
  | none => cases h
  | some a => exact ⟨a, rfl, h⟩
theorem m_bw_of {α β : Type} {o : Option (α × m_S)} {k : α → m_S → Option β} {r : β} (h : m_bw o k = some r) : ∃ a S, o = some (a, S) ∧ k a S = some r := by
  cases o with
  | none => cases h
  | some a => exact ⟨a.1, a.2, rfl, h⟩
theorem m_bt_of {α β : Type} {o : Option (Except String α)} {k : α → Option (Except String β)} {r : Except String β} (h : m_bt o k = some r) : (∃ a, o = some (.ok a) ∧ k a = some r) ∨ ∃ e, o = some (.error e) ∧ r = .error e := by
  match o, h with
  | some (.ok a), h => exact Or.inl ⟨a, rfl, h⟩
  | some (.error e), h => exact Or.inr ⟨e, rfl, (Option.some.inj h).symm⟩
  | none, h => cases h
theorem m_btw_of {α β : Type} {o : Option (Except String α)} {S : m_S} {k : α → Option (Except String β × m_S)} {r : Except String β × m_S} (h : m_btw o S k = some r) : (∃ a, o = some (.ok a) ∧ k a = some r) ∨ ∃ e, o = some (.error e) ∧ r = (.error e, S) := by
  match o, h with
  | some (.ok a), h => exact Or.inl ⟨a, rfl, h⟩
  | some (.error e), h => exact Or.inr ⟨e, rfl, (Option.some.inj h).symm⟩
  | none, h => cases h
theorem m_bx_of {α β : Type} {o : Option (Except String α × m_S)} {k : α → m_S → Option (Except String β × m_S)} {r : Except String β × m_S} (h : m_bx o k = some r) : (∃ a S, o = some (.ok a, S) ∧ k a S = some r) ∨ ∃ e S, o = some (.error e, S) ∧ r = (.error e, S) := by
  match o, h with
  | some (.ok a, S), h => exact Or.inl ⟨a, S, rfl, h⟩
  | some (.error e, S), h => exact Or.inr ⟨e, S, rfl, (Option.some.inj h).symm⟩
  | none, h => cases h
theorem m_lt_of {α β : Type} {v : α} {k : α → β} {r : β} (h : m_lt v k = r) : ∃ a, a = v ∧ k a = r := ⟨v, rfl, h⟩
theorem m_if1 {α : Type} {c : Prop} [Decidable c] {a b r : α} (h : (if c then a else b) = r) (hc : c) : a = r := by rw [if_pos hc] at h; exact h
theorem m_if0 {α : Type} {c : Prop} [Decidable c] {a b r : α} (h : (if c then a else b) = r) (hc : ¬ c) : b = r := by rw [if_neg hc] at h; exact h

def m_NF : List (String × Nat × String × String × String) := [("MuseumCases", 59, "MuseumCases$Reader", "length", "I"), ("MuseumCases", 89, "MuseumCases$Reader", "code", "I"), ("MuseumCases", 92, "MuseumCases$Reader", "codeAt", "I"), ("MuseumCases$Cassette", 29, "MuseumCases$Kind", "number", "I"), ("MuseumCases$Cassette", 37, "MuseumCases$Kind", "speed", "I"), ("MuseumCases$Vitrine", 65, "MuseumCases$Cassette", "serial", "I"), ("MuseumCases", 255, "MuseumCases$Cassette", "serial", "I"), ("MuseumCases", 263, "MuseumCases$Cassette", "mass", "I"), ("MuseumCases$Vitrine", 53, "MuseumCases$Cassette", "moisture", "I"), ("MuseumCases", 266, "MuseumCases$Cassette", "moisture", "I"), ("MuseumCases", 164, "MuseumCases$Vitrine", "volume", "I"), ("MuseumCases", 167, "MuseumCases$Vitrine", "leak", "I"), ("MuseumCases$Reader", 165, "MuseumCases$Vitrine", "low", "I"), ("MuseumCases", 181, "MuseumCases$Vitrine", "low", "I"), ("MuseumCases$Reader", 168, "MuseumCases$Vitrine", "high", "I"), ("MuseumCases", 184, "MuseumCases$Vitrine", "high", "I"), ("MuseumCases", 170, "MuseumCases$Vitrine", "air", "I"), ("MuseumCases$State", 66, "MuseumCases$Vitrine", "count", "I"), ("MuseumCases", 175, "MuseumCases$Vitrine", "count", "I"), ("MuseumCases", 251, "MuseumCases$Vitrine", "cassettes", "[LMuseumCases$Cassette;"), ("MuseumCases$Reader", 103, "MuseumCases$Setup", "persistence", "I"), ("MuseumCases$Room", 37, "MuseumCases$Setup", "persistence", "I"), ("MuseumCases$Reader", 106, "MuseumCases$Setup", "loadOfVisitor", "I"), ("MuseumCases$Room", 42, "MuseumCases$Setup", "loadOfVisitor", "I"), ("MuseumCases$Reader", 143, "MuseumCases$Setup", "kindCount", "I"), ("MuseumCases", 108, "MuseumCases$Setup", "kindCount", "I"), ("MuseumCases$Reader", 128, "MuseumCases$Setup", "kinds", "[LMuseumCases$Kind;"), ("MuseumCases", 372, "MuseumCases$Setup", "kinds", "[LMuseumCases$Kind;"), ("MuseumCases$State", 47, "MuseumCases$Setup", "caseCount", "I"), ("MuseumCases", 86, "MuseumCases$Setup", "caseCount", "I"), ("MuseumCases$Reader", 171, "MuseumCases$Setup", "caseCount", "I"), ("MuseumCases$State", 48, "MuseumCases$Setup", "vitrines", "[LMuseumCases$Vitrine;"), ("MuseumCases$Reader", 155, "MuseumCases$Setup", "vitrines", "[LMuseumCases$Vitrine;"), ("MuseumCases$State", 42, "MuseumCases$Setup", "cassetteCount", "I"), ("MuseumCases$Reader", 182, "MuseumCases$Setup", "cassetteCount", "I"), ("MuseumCases$State", 73, "MuseumCases$Room", "time", "I"), ("MuseumCases", 98, "MuseumCases$Room", "time", "I"), ("MuseumCases", 117, "MuseumCases$Room", "excess", "I"), ("MuseumCases", 124, "MuseumCases$Room", "groups", "I"), ("MuseumCases", 200, "MuseumCases$Logbook", "atLoading", "J"), ("MuseumCases$State", 80, "MuseumCases$Logbook", "leaked", "J"), ("MuseumCases", 204, "MuseumCases$Logbook", "leaked", "J"), ("MuseumCases", 207, "MuseumCases$Logbook", "cameIn", "J"), ("MuseumCases", 210, "MuseumCases$Logbook", "wentOut", "J"), ("MuseumCases", 187, "MuseumCases$Logbook", "unsafeHours", "I"), ("MuseumCases", 192, "MuseumCases$Logbook", "lowest", "I"), ("MuseumCases", 195, "MuseumCases$Logbook", "greatest", "I"), ("MuseumCases", 234, "MuseumCases$Logbook", "sumOfRecords", "J"), ("MuseumCases", 95, "MuseumCases$State", "room", "LMuseumCases$Room;"), ("MuseumCases", 114, "MuseumCases$State", "nextSerial", "I"), ("MuseumCases", 362, "MuseumCases$State", "vitrines", "[LMuseumCases$Vitrine;"), ("MuseumCases", 366, "MuseumCases$State", "logbooks", "[LMuseumCases$Logbook;")]
def m_NM : List (String × Nat × MethodName) := [("MuseumCases", 9, ⟨"MuseumCases$Reader", "<init>", "()V"⟩), ("MuseumCases$Setup", 52, ⟨"MuseumCases$Kind", "<init>", "()V"⟩), ("MuseumCases$Vitrine", 36, ⟨"MuseumCases$Cassette", "<init>", "()V"⟩), ("MuseumCases$State", 11, ⟨"MuseumCases$Room", "<init>", "()V"⟩), ("MuseumCases$State", 38, ⟨"MuseumCases$Logbook", "<init>", "()V"⟩), ("MuseumCases", 43, ⟨"MuseumCases$Room", "<init>", "()V"⟩), ("MuseumCases$Kind", 28, ⟨"MuseumCases", "onLine", "(IIII)I"⟩), ("MuseumCases$Setup", 54, ⟨"MuseumCases", "onLine", "(IIII)I"⟩)]
def m_SR : List (String × Nat × String × Nat) := [("MuseumCases", 65, "the text would exceed 900 bytes", 8), ("MuseumCases", 76, "the text is not so long", 9), ("MuseumCases$Reader", 94, "museum", 0), ("MuseumCases$Reader", 223, "the text has an error", 10), ("MuseumCases$Reader", 56, "season", 1), ("MuseumCases$Reader", 69, "visitors", 2), ("MuseumCases$Reader", 74, "kind", 3), ("MuseumCases$Reader", 137, "point", 6), ("MuseumCases$Reader", 80, "case", 4), ("MuseumCases$Reader", 163, "safe", 7), ("MuseumCases$Reader", 85, "cassette", 5), ("MuseumCases", 129, "what is 0 to 9", 11), ("MuseumCases", 132, "a day is 0 to 364", 12), ("MuseumCases", 138, "an hour of the day is 0 to 23", 13), ("MuseumCases", 370, "there is no such kind", 14), ("MuseumCases", 152, "a group has 1 to 999 visitors", 15), ("MuseumCases", 154, "all groups have at most 5000 visitors", 16), ("MuseumCases", 360, "there is no such case", 17), ("MuseumCases", 198, "what is 0 to 10", 18), ("MuseumCases", 216, "what is 0 to 4", 19), ("MuseumCases", 218, "hours are 0 to 23", 20), ("MuseumCases", 222, "not so many hours have passed", 21), ("MuseumCases", 380, "no hour has passed", 22), ("MuseumCases", 237, "the case has no moisture", 23), ("MuseumCases", 239, "a leak is 0 to 1000", 24), ("MuseumCases", 376, "a humidity is 0 to 1000", 25), ("MuseumCases", 244, "the greatest safe humidity is at least the lowest", 26), ("MuseumCases", 249, "there is no such cassette", 27), ("MuseumCases", 274, "no case has this cassette", 28), ("MuseumCases", 276, "a mass is 1 to 999", 29), ("MuseumCases", 282, "the case has 5 cassettes", 30), ("MuseumCases", 307, "it is there already, or the case has 5 cassettes", 31), ("MuseumCases", 378, "hours are out of range", 32), ("MuseumCases", 321, "the time would exceed 99999", 33), ("MuseumCases", 342, "the case would not come to rest", 34), ("MuseumCases", 350, "no mass keeps the case safe", 35), ("MuseumCases", 382, "a slot is 0 or 1", 36), ("MuseumCases", 358, "nothing is saved in this slot", 37), ("MuseumCasesModel", 188, "museum", 0), ("MuseumCasesModel", 190, "season", 1), ("MuseumCasesModel", 194, "visitors", 2), ("MuseumCasesModel", 198, "kind", 3), ("MuseumCasesModel", 178, "point", 6), ("MuseumCasesModel", 202, "case", 4), ("MuseumCasesModel", 183, "safe", 7), ("MuseumCasesModel", 207, "cassette", 5)]
def m_AOs : List String := ["MuseumCases$Kind", "MuseumCases$Vitrine", "MuseumCases$Cassette", "MuseumCases$Logbook", "MuseumCases$State"]
def m_len : List Nat := [6, 6, 8, 4, 4, 8, 5, 4]
def m_byt : List (List Int32) := [[109, 117, 115, 101, 117, 109], [115, 101, 97, 115, 111, 110], [118, 105, 115, 105, 116, 111, 114, 115], [107, 105, 110, 100], [99, 97, 115, 101], [99, 97, 115, 115, 101, 116, 116, 101], [112, 111, 105, 110, 116], [115, 97, 102, 101]]
def m_XS : List String := ["java/lang/IllegalStateException", "java/lang/IndexOutOfBoundsException", "java/lang/IllegalArgumentException", "java/util/NoSuchElementException"]
def m_DS : List MethodName := [⟨"java/lang/RuntimeException", "<init>", "(Ljava/lang/String;)V"⟩, ⟨"java/lang/Exception", "<init>", "(Ljava/lang/String;)V"⟩, ⟨"java/lang/Throwable", "<init>", "(Ljava/lang/String;)V"⟩]
def m_XN : List (String × String) := [("java/lang/IllegalStateException", "java/lang/IndexOutOfBoundsException"), ("java/lang/IllegalStateException", "java/lang/IllegalArgumentException"), ("java/lang/IllegalStateException", "java/util/NoSuchElementException"), ("java/lang/IndexOutOfBoundsException", "java/lang/IllegalStateException"), ("java/lang/IndexOutOfBoundsException", "java/lang/IllegalArgumentException"), ("java/lang/IndexOutOfBoundsException", "java/util/NoSuchElementException"), ("java/lang/IllegalArgumentException", "java/lang/IllegalStateException"), ("java/lang/IllegalArgumentException", "java/lang/IndexOutOfBoundsException"), ("java/lang/IllegalArgumentException", "java/util/NoSuchElementException"), ("java/util/NoSuchElementException", "java/lang/IllegalStateException"), ("java/util/NoSuchElementException", "java/lang/IndexOutOfBoundsException"), ("java/util/NoSuchElementException", "java/lang/IllegalArgumentException")]
/-- what a method takes as given of the launch's fixed cells and tables -/
def m_EV (E : m_E) (A : Nat → Prop) (U : State) (H : Heap) : Prop :=
  (∀ q ∈ m_NF, va_Nw (.fieldLinkNest q.1 q.2.1 q.2.2.1 q.2.2.2.1 q.2.2.2.2 "MuseumCases") U) ∧ (∀ q ∈ m_NM, va_Nw (.methodLinkNest q.1 q.2.1 q.2.2 "MuseumCases") U) ∧ (∀ C ∈ m_AOs, va_AO C U) ∧
  (vx_Zq Bundle.tN "UNASSIGNED_STACK" Bundle.steD A U H ∧ vx_Zq Bundle.tN "SUPPRESSED_SENTINEL" Bundle.listD A U H) ∧ (∀ q ∈ m_SR, vk_R q.1 q.2.1 q.2.2.1 (E.2.2.1 q.2.2.2) U) ∧ vk_S 8 m_len m_byt E.2.2.1 E.2.2.2 A U H ∧
  va_Z "java/lang/String" "COMPACT_STRINGS" "Z" (.int 1) A U H ∧ va_Zq "jdk/internal/util/Preconditions" "SIOOBE_FORMATTER" "Ljava/util/function/BiFunction;" A U H ∧
  (∀ C ∈ m_XS, va_Nw (.castable C C) U) ∧ (∀ q ∈ m_XN, va_Nc q.1 q.2 U) ∧ (∀ y ∈ m_DS, va_Nw (.declares y) U)
theorem m_EV.go {E : m_E} {A B : Nat → Prop} {s U : State} {H H1 : Heap} (h : m_EV E A s H) (hW : s.WarmedH U.vm) (hq : ∀ a : Nat, a < H.size → ¬ A a → H1[a]? = H[a]?) (hAB : ∀ q, B q → A q) : m_EV E B U H1 := by
  obtain ⟨h1, h2, h3, ⟨h4, h5⟩, h6, h7, h8, h9, h10, h11, h12⟩ := h
  have hv := hW.alike
  exact ⟨fun q m => (h1 q m).warmF hW, fun q m => (h2 q m).warmM hW, fun C m => (h3 C m).moved hv, ⟨((h4.kept hq).moved hv).narrow hAB, ((h5.kept hq).moved hv).narrow hAB⟩, fun q m => (h6 q m).warm hW, ((h7.kept hq).moved hv).narrow hAB, ((h8.kept hq).moved hv).narrow hAB, ((h9.kept hq).moved hv).narrow hAB, fun C m => (h10 C m).warmC hW, fun q m => (h11 q m).moved hv, fun y m => (h12 y m).warmD hW⟩
/-- a method's start -/
def m_pre (E : m_E) (args : List Value) (Z : m_Z) (S : m_S) (sz : Nat) : Array Value → State → Prop := va_Pc args (fun U => U.heap.size = sz ∧ va_P E.1 vwCl (m_w E Z S) U.heap ∧ va_D (fun _ => True) (m_w E Z S) ∧ va_K E.1 vwCl (m_tys E.2.1) U ∧ m_EV E (m_A Z sz) U U.heap)
/-- its end -/
def m_post (E : m_E) (v : Option Value) (Z : m_Z) (S : m_S) (sz : Nat) : Array Value → State → Outcome → State → Prop := fun _ st o t => (o = .returned v ∧ va_P E.1 vwCl (m_w E Z S) t.heap) ∧ va_F (m_A Z sz) st t
def m_XC (E : m_E) (X : String) (Z : m_Z) (S : m_S) (sz : Nat) : String → State → State → Prop := fun Y st t => (Y = X ∧ va_P E.1 vwCl (m_w E Z S) t.heap) ∧ va_F (m_A Z sz) st t
theorem m_pre.blind {E : m_E} {args : List Value} {Z : m_Z} {S : m_S} {sz : Nat} : FrameBlind (m_pre E args Z S sz) := fun a U g mk h => by
  obtain ⟨h0, h1, h2, h3, h4, h5⟩ := h
  have hv : (U.calling g mk a).vm = U.vm := rfl
  exact ⟨h0, h1, h2, h3, va_K.moved (u := U) (U := U.calling g mk a) (Vm.Alike.refl U.vm) h4, h5.go (by rw [hv]; exact State.WarmedH.refl U) (fun _ _ _ => rfl) (fun _ h => h)⟩
/-- a method's contract: it returns v and leaves S' -/
def m_Ct (l : Launch) (y : MethodName) (ws : List Cond) (rm : Room) (args : (Nat → Nat) → List Value) (Z : m_Z) (S : m_S) (v : Option Value) (S' : m_S) : Prop := ∀ (E : m_E) (sz : Nat), Met l y ws rm (m_pre E (args E.2.2.1) Z S sz) (m_post E v Z S' sz) 0 0 (m_A Z sz)
/-- .. or throws -/
def m_Cx (l : Launch) (y : MethodName) (ws : List Cond) (rm : Room) (mc ms : Nat) (args : (Nat → Nat) → List Value) (Z : m_Z) (S : m_S) (r : Except String (Option Value)) (S' : m_S) : Prop := ∀ (E : m_E) (sz : Nat), vx_Met l y ws rm (m_pre E (args E.2.2.1) Z S sz) (fun a st o t => ∃ v, r = .ok v ∧ m_post E v Z S' sz a st o t) (fun X st t => ∃ e, r = .error e ∧ m_XC E e Z S' sz X st t) mc ms (m_A Z sz)
/-! a walk's state -/
abbrev m_X : Type := Program × Launch × Env × Room × State × MethodId × Array Value × List Frame × Method × Code × m_E × (Nat → Prop) × (State → Prop)
def m_H (x : m_X) (l9 : Launch) (own : String) (cc : ByteArray) (nL : Nat) (rm : Room) : Prop := match x with
  | (p, l, e, R, s, m, args, below, meth, c, E, A, Q) => p.tables.exec = Jvm.exec ∧ c.code = cc ∧ c.maxLocals = nL ∧ s.vm.findClass own = some m.cls ∧ (∀ w ∈ m_ws, w.before args s = true) ∧ va_K E.1 vwCl (m_tys E.2.1) s ∧ (∀ q, s.heap.size ≤ q → A q) ∧ m_EV E A s s.heap ∧ meth.locks = false ∧ R = rm ∧ l.stackTraces = false ∧ l = l9
def m_G (x : m_X) (Z : m_Z) (S : m_S) (nL k n pc : Nat) (L : List (Nat × Value)) (st : List Value) : Prop := match x with
  | (p, l, e, R, s, m, args, below, meth, c, E, A, Q) => ∀ (H : Heap) (locs : List Loc) (ls : Array Slot), va_P E.1 vwCl (m_w E Z S) H → va_D A (m_w E Z S) → va_S A s.heap H locs → lv_has ls nL L → W p l e R s m args below meth c H locs k n Q (F0 m pc ls st)
/-- the address of a text -/
def m_K (x : m_X) : Nat → Nat := x.2.2.2.2.2.2.2.2.2.2.1.2.2.1
theorem m_D {A : Nat → Prop} {Z : m_Z} {f g : Nat → va_E} (h : va_D A (va_pl Z.1 f)) : va_D A (va_pl Z.1 g) := by
  have key : ∀ (i : Nat) (q : Nat × va_E), (va_pl Z.1 g)[i]? = some q → (va_pl Z.1 f)[i]? = some (q.1, f q.1) := by
    intro i q hi
    unfold va_pl at hi ⊢
    rw [List.getElem?_map] at hi ⊢
    cases hz : Z.1[i]? with
    | none => rw [hz] at hi; cases hi
    | some a => rw [hz] at hi; cases hi; rfl
  exact ⟨fun i j p q hp hq e => h.1 i j _ _ (key i p hp) (key j q hq) e, fun k q hk => h.2 k (q.1, f q.1) (key k q hk)⟩
theorem m_at {E : m_E} {Z : m_Z} {S : m_S} {a : Nat} (h : a ∈ Z.1) : ∃ i : Nat, (m_w E Z S)[i]? = some (a, m_cell E.2.1 Z S a) := by
  apply List.getElem?_of_mem
  exact List.mem_map.mpr ⟨a, h, rfl⟩
theorem m_cO {cy : Nat → ClassId} {Z : m_Z} {S : m_S} {a c : Nat} (h : Z.2.1 a = c) (hc : c < 10) : m_cell cy Z S a = .inr (c, m_fs c S a) := by
  subst h; unfold m_cell; rw [if_pos hc]
theorem m_cA {cy : Nat → ClassId} {Z : m_Z} {S : m_S} {a c : Nat} (h : Z.2.1 a = c) (hc : ¬ c < 10) : m_cell cy Z S a = .inl (cy c, m_ar c S a (Z.2.2 a)) := by
  subst h; unfold m_cell; rw [if_neg hc]
theorem m_set {E : m_E} {A : Nat → Prop} {Z : m_Z} {S S' : m_S} {a i : Nat} {v : va_E} (hD : va_D A (m_w E Z S)) (ha : a ∈ Z.1) (hi : (m_w E Z S)[i]? = some (a, m_cell E.2.1 Z S a)) (hv : v = m_cell E.2.1 Z S' a) (hs : ∀ b, b ≠ a → m_cell E.2.1 Z S' b = m_cell E.2.1 Z S b) : (m_w E Z S).set i (a, v) = m_w E Z S' := by
  have h := va_pl_set (X := []) (e := v) hD ha hi
  refine h.trans ?_
  show va_pl Z.1 _ = va_pl Z.1 _
  refine va_pl_congr (fun b => ?_)
  by_cases hb : b = a
  · subst hb; rw [va_up_self]; exact hv
  · rw [va_up_ne _ _ hb]; exact (hs b hb).symm
theorem m_fsI {c : Nat} {S : m_S} {a k b : Nat} {v : Int32} (h : b ≠ a) : m_fs c (m_pI S a k v) b = m_fs c S b := by
  unfold m_fs; split <;> simp [m_pI, h]
theorem m_fsJ {c : Nat} {S : m_S} {a k b : Nat} {v : Int64} (h : b ≠ a) : m_fs c (m_pJ S a k v) b = m_fs c S b := by
  unfold m_fs; split <;> simp [m_pJ, h]
theorem m_fsR {c : Nat} {S : m_S} {a k b : Nat} {v : Option Nat} (h : b ≠ a) : m_fs c (m_pR S a k v) b = m_fs c S b := by
  unfold m_fs; split <;> simp [m_pR, h]
theorem m_arI {c : Nat} {S : m_S} {a k b n : Nat} {v : Int32} (h : b ≠ a) : m_ar c (m_pI S a k v) b n = m_ar c S b n := by
  unfold m_ar; split <;> simp [m_pI, h]
theorem m_arJ {c : Nat} {S : m_S} {a k b n : Nat} {v : Int64} (h : b ≠ a) : m_ar c (m_pJ S a k v) b n = m_ar c S b n := by
  unfold m_ar; split <;> simp [m_pJ, h]
theorem m_arR {c : Nat} {S : m_S} {a k b n : Nat} {v : Option Nat} (h : b ≠ a) : m_ar c (m_pR S a k v) b n = m_ar c S b n := by
  unfold m_ar; split <;> simp [m_pR, h]
theorem m_cI {cy : Nat → ClassId} {Z : m_Z} {S : m_S} {a k : Nat} {v : Int32} (b : Nat) (h : b ≠ a) : m_cell cy Z (m_pI S a k v) b = m_cell cy Z S b := by unfold m_cell; rw [m_fsI h, m_arI h]
theorem m_cJ {cy : Nat → ClassId} {Z : m_Z} {S : m_S} {a k : Nat} {v : Int64} (b : Nat) (h : b ≠ a) : m_cell cy Z (m_pJ S a k v) b = m_cell cy Z S b := by unfold m_cell; rw [m_fsJ h, m_arJ h]
theorem m_cR {cy : Nat → ClassId} {Z : m_Z} {S : m_S} {a k : Nat} {v : Option Nat} (b : Nat) (h : b ≠ a) : m_cell cy Z (m_pR S a k v) b = m_cell cy Z S b := by unfold m_cell; rw [m_fsR h, m_arR h]

