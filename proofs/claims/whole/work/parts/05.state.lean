/-! STATE: what the class's objects hold. Array classes by number: cs 0 int, 1 byte, 2 boolean, 3 long, 4 Notice, 5 Move. -/
abbrev tyl (cs : Nat → ClassId) : List (ClassId × FieldType) := [(cs 0, .int), (cs 1, .byte), (cs 2, .boolean), (cs 3, .long), (cs 4, .object "PaperStates$Notice"), (cs 5, .object "PaperStates$Move")]
def NT (cs : Nat → ClassId) (L : List Nat) (f : Nat → va_E) (q q1 q2 q3 : Nat) (g : Int64) (fr to : Int32) (an ao dy : Nat → Int32) (ct : Int64) : Prop :=
  (q ∈ L ∧ q1 ∈ L ∧ q2 ∈ L ∧ q3 ∈ L) ∧ (f q = .inr (1, [.long g, .int fr, .int to, .ref q1, .ref q2, .ref q3, .long ct]) ∧ f q1 = .inl (cs 0, 6, .inl an) ∧ f q2 = .inl (cs 0, 6, .inl ao) ∧ f q3 = .inl (cs 0, 6, .inl dy)) ∧ (q1 ≠ q2 ∧ q1 ≠ q3 ∧ q2 ≠ q3)
def MV (cs : Nat → ClassId) (L : List Nat) (f : Nat → va_E) (q q1 : Nat) (no : Int32) (g : Int64) (dy : Int32) (cr : Nat → Int32) (cc : Nat) (st si mk : Int32) : Prop :=
  (q ∈ L ∧ q1 ∈ L) ∧ f q = .inr (0, [.int no, .long g, .int dy, .ref q1, .int (nI cc), .int st, .int si, .int mk]) ∧ f q1 = .inl (cs 0, 6, .inl cr)
def PP (cs : Nat → ClassId) (L : List Nat) (f : Nat → va_E) (q q1 : Nat) (n : Nat) (g : Nat → Int32) : Prop :=
  (q ∈ L ∧ q1 ∈ L) ∧ f q = .inr (2, [.ref q1, .int (nI n)]) ∧ f q1 = .inl (cs 1, 208, .inl g)
theorem pe_ne {f : Nat → va_E} {a b : Nat} {x y : va_E} (h1 : f a = x) (h2 : f b = y) (h : x ≠ y) : a ≠ b := fun e => h (by rw [← h1, ← h2, e])
theorem pe_ro {f : Nat → va_E} {a b : Nat} {x : Nat × List Value} {y : ClassId × vp_A} (h1 : f a = .inr x) (h2 : f b = .inl y) : a ≠ b := pe_ne h1 h2 (fun h => by cases h)
theorem vi_in {c : Int32} {n : Nat} (hn : n < 2 ^ 31) (h0 : ¬ c < 0) (h1 : ¬ nI n ≤ c) : vp_in c n := by
  rcases pk_ix c hn with h | h | ⟨j, hj, rfl⟩
  · exact absurd h h0
  · exact absurd h h1
  · exact vp_in_nI hj hn
theorem nI_of_ge {a b : Nat} (h : ¬ nI b ≤ nI a) (hb : a < 2 ^ 31) : a < b := Nat.lt_of_not_le fun z => h (nI_le z hb)
theorem nI_of_le {a b : Nat} (h : nI b ≤ nI a) (hb : b < 2 ^ 31) : b ≤ a := Nat.le_of_not_lt fun z => (nI_ge z hb) h
-- the notice's methods, as functions
def sp_covers (fr to d : Int32) : Int32 := if d < fr then 0 else if to < d then 0 else 1
def sp_cn (an : Nat → Int32) (x : Int32) : Nat → Nat
  | 0 => 0
  | k + 1 => sp_cn an x k + (if an k = x then 1 else 0)
def sp_state (an : Nat → Int32) (to t : Int32) : Int32 := if 0 < sp_cn an 3 6 then 2 else if to < t then 3 else if 0 < sp_cn an 2 6 then (if sp_cn an 1 6 = 0 then 1 else 0) else 0
def sp_sil (ao dy : Nat → Int32) (t : Int32) (an : Nat → Int32) : Nat → (Nat → Int32) × Nat
  | 0 => (an, 0)
  | k + 1 => if (sp_sil ao dy t an k).1 k = 1 then (if t - ao k ≤ dy k then sp_sil ao dy t an k else (upd (sp_sil ao dy t an k).1 k 2, (sp_sil ao dy t an k).2 + 1)) else sp_sil ao dy t an k
theorem sp_cn_le (an : Nat → Int32) (x : Int32) : ∀ k, sp_cn an x k ≤ k
  | 0 => Nat.le_refl 0
  | k + 1 => by
    have := sp_cn_le an x k
    unfold sp_cn
    split <;> omega
theorem sp_sil_le (ao dy : Nat → Int32) (t : Int32) (an : Nat → Int32) : ∀ k, (sp_sil ao dy t an k).2 ≤ k
  | 0 => Nat.le_refl 0
  | k + 1 => by
    have := sp_sil_le ao dy t an k
    unfold sp_sil
    split
    · split
      · omega
      · show (sp_sil ao dy t an k).2 + 1 ≤ k + 1
        omega
    · omega
