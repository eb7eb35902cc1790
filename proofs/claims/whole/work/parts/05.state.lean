/-! STATE: what the class's objects hold. Array classes by number: cs 0 int, 1 byte, 2 boolean, 3 long, 4 Notice, 5 Move. -/
abbrev tyl (cs : Nat → ClassId) : List (ClassId × FieldType) := [(cs 0, .int), (cs 1, .byte), (cs 2, .boolean), (cs 3, .long), (cs 4, .object "PaperStates$Notice"), (cs 5, .object "PaperStates$Move")]
def NT (cs : Nat → ClassId) (L : List Nat) (f : Nat → va_E) (q q1 q2 q3 : Nat) (g : Int64) (fr to : Int32) (an ao dy : Nat → Int32) (ct : Int64) : Prop :=
  (q ∈ L ∧ q1 ∈ L ∧ q2 ∈ L ∧ q3 ∈ L) ∧ (f q = .inr (1, [.long g, .int fr, .int to, .ref q1, .ref q2, .ref q3, .long ct]) ∧ f q1 = .inl (cs 0, 6, .inl an) ∧ f q2 = .inl (cs 0, 6, .inl ao) ∧ f q3 = .inl (cs 0, 6, .inl dy)) ∧ (q1 ≠ q2 ∧ q1 ≠ q3 ∧ q2 ≠ q3)
def MV (cs : Nat → ClassId) (L : List Nat) (f : Nat → va_E) (q q1 : Nat) (no : Int32) (g : Int64) (dy : Int32) (cr : Nat → Int32) (cc : Nat) (st si mk : Int32) : Prop :=
  (q ∈ L ∧ q1 ∈ L) ∧ f q = .inr (0, [.int no, .long g, .int dy, .ref q1, .int (nI cc), .int st, .int si, .int mk]) ∧ f q1 = .inl (cs 0, 6, .inl cr)
def PP (cs : Nat → ClassId) (L : List Nat) (f : Nat → va_E) (q q1 : Nat) (n : Nat) (g : Nat → Int32) : Prop :=
  (q ∈ L ∧ q1 ∈ L) ∧ f q = .inr (2, [.ref q1, .int (nI n)]) ∧ f q1 = .inl (cs 1, 208, .inl g)
theorem pe_ne {f : Nat → va_E} {a b : Nat} {x y : va_E} (h1 : f a = x) (h2 : f b = y) (h : x ≠ y) : a ≠ b := fun e => h (by rw [← h1, ← h2, e])
theorem pe_ro {f : Nat → va_E} {a b : Nat} {x : Nat × List Value} {y : ClassId × vp_A} (h1 : f a = .inr x) (h2 : f b = .inl y) : a ≠ b := pe_ne h1 h2 (fun h => by cases h)
theorem vi_in {c : Int32} {n : Nat} (hn : n < 2 ^ 31) (h0 : ¬ c < 0) (h1 : ¬ nI n ≤ c) : vp_in c n := by
  rcases pk_ix c hn with h | h | ⟨j, hj, rfl⟩
  · exact absurd h h0
  · exact absurd h h1
  · exact vp_in_nI hj hn
theorem nI_of_ge {a b : Nat} (h : ¬ nI b ≤ nI a) (hb : a < 2 ^ 31) : a < b := Nat.lt_of_not_le fun z => h (nI_le z hb)
theorem nI_of_le {a b : Nat} (h : nI b ≤ nI a) (hb : b < 2 ^ 31) : b ≤ a := Nat.le_of_not_lt fun z => (nI_ge z hb) h
-- the notice's methods, as functions
def sp_covers (fr to d : Int32) : Int32 := if d < fr then 0 else if to < d then 0 else 1
def sp_cn (an : Nat → Int32) (x : Int32) : Nat → Nat
  | 0 => 0
  | k + 1 => sp_cn an x k + (if an k = x then 1 else 0)
def sp_state (an : Nat → Int32) (to t : Int32) : Int32 := if 0 < sp_cn an 3 6 then 2 else if to < t then 3 else if 0 < sp_cn an 2 6 then (if sp_cn an 1 6 = 0 then 1 else 0) else 0
def sp_sil (ao dy : Nat → Int32) (t : Int32) (an : Nat → Int32) : Nat → (Nat → Int32) × Nat
  | 0 => (an, 0)
  | k + 1 => if (sp_sil ao dy t an k).1 k = 1 then (if t - ao k ≤ dy k then sp_sil ao dy t an k else (upd (sp_sil ao dy t an k).1 k 2, (sp_sil ao dy t an k).2 + 1)) else sp_sil ao dy t an k
theorem sp_cn_le (an : Nat → Int32) (x : Int32) : ∀ k, sp_cn an x k ≤ k
  | 0 => Nat.le_refl 0
  | k + 1 => by
    have := sp_cn_le an x k
    unfold sp_cn
    split <;> omega
theorem sp_sil_le (ao dy : Nat → Int32) (t : Int32) (an : Nat → Int32) : ∀ k, (sp_sil ao dy t an k).2 ≤ k
  | 0 => Nat.le_refl 0
  | k + 1 => by
    have := sp_sil_le ao dy t an k
    unfold sp_sil
    split
    · split
      · omega
      · show (sp_sil ao dy t an k).2 + 1 ≤ k + 1
        omega
    · omega
-- the move's methods, as functions
def sp_uses (st : Int32) : Int32 := if st = 4 then 0 else if st = 5 then 0 else 1
def sp_back (cr : Nat → Int32) (cc : Nat) (k : Int32) : Int32 := if k < 0 then -1 else if k < nI cc then cr (cc - 1 - k.toNatClampNeg) else -1
def sp_leads (j : Nat) : Int32 := ([1, -1, -1, -1, -1, -1, -1, 2, -1, -1, -1, -1, -1, -1, 3, -1, -1, -1, -1, 4, 4, -1, -1, -1, 5, -1, -1, -1, -1, -1] : List Int32).getD j (-1)
def sp_lets (j : Nat) : Int32 := ([116, 107, 118, 99, 114, 120] : List Int32).getD j 63
def sp_letter (st : Int32) : Int32 := if st < 0 then 63 else if st < 6 then sp_lets st.toNatClampNeg else 63
theorem bk_ix {cc : Nat} {k : Int32} (h6 : cc ≤ 6) (h0 : ¬ k < 0) (h1 : k < nI cc) : ∃ j, j < cc ∧ k = nI j ∧ k.toNatClampNeg = j ∧ nI cc - 1 - k = nI (cc - 1 - j) := by
  obtain ⟨j, hj, rfl⟩ := nI_of h0
  have hjc : j < cc := (nI_ltI hj (by omega)).mp h1
  refine ⟨j, hjc, rfl, nI_clamp hj, ?_⟩
  rw [show (1 : Int32) = nI 1 from rfl, pk_sub (by omega), pk_sub (by omega)]
/-- the static tables of the class, and the link by which the move reads one of them -/
def SX (tL tC : Nat) (A : Nat → Prop) (U : State) (H : Heap) : Prop := va_Z "PaperStates" "LEADS" "[I" (.ref tL) A U H ∧ va_T .int tL 30 (fun j => .int (sp_leads j)) A U H ∧ va_Z "PaperStates" "STATE_LETTERS" "[C" (.ref tC) A U H ∧ va_T .char tC 6 (fun j => .int (sp_lets j)) A U H ∧ va_Nw (.fieldLinkNest "PaperStates$Move" 39 "PaperStates" "STATE_LETTERS" "[C" "PaperStates") U
theorem SX.calling {tL tC : Nat} {A : Nat → Prop} (a : Array Value) (U : State) (g : JFrame) (mk : MethodId) (h : SX tL tC A U U.heap) : SX tL tC A (U.calling g mk a) (U.calling g mk a).heap :=
  ⟨va_Z.moved (u := U) (U := U.calling g mk a) (Vm.Alike.refl U.vm) h.1, va_T.moved (u := U) (U := U.calling g mk a) (Vm.Alike.refl U.vm) h.2.1, va_Z.moved (u := U) (U := U.calling g mk a) (Vm.Alike.refl U.vm) h.2.2.1, va_T.moved (u := U) (U := U.calling g mk a) (Vm.Alike.refl U.vm) h.2.2.2.1, va_Nw.same rfl rfl h.2.2.2.2⟩
theorem SX.px {tL tC : Nat} {A : Nat → Prop} : px_b (fun U => SX tL tC A U U.heap) := fun a U g mk h => SX.calling a U g mk h
/-- the tables at a call, of a caller that has written A alone -/
theorem SX.use {tL tC : Nat} {A B : Nat → Prop} {s : State} {H : Heap} {locs : List Loc} (h : SX tL tC A s s.heap) (hS : va_S A s.heap H locs) (hAB : ∀ q, B q → A q) : ∀ U : State, U.heap = H → s.WarmedH U.vm → SX tL tC B U U.heap := by
  intro U hU hW
  have hk : ∀ a : Nat, a < s.heap.size → ¬ A a → U.heap[a]? = s.heap[a]? := fun a h1 h2 => by rw [hU]; exact hS.2.1 a h1 h2
  exact ⟨((h.1.kept hk).moved hW.alike).narrow hAB, ((h.2.1.kept hk).moved hW.alike).narrow hAB, ((h.2.2.1.kept hk).moved hW.alike).narrow hAB, ((h.2.2.2.1.kept hk).moved hW.alike).narrow hAB, va_Nw.warmF hW h.2.2.2.2⟩
-- the paper: its length and its row
abbrev sp_P : Type := Nat × (Nat → Int32)
def sp_add (p : sp_P) (c : Int32) : sp_P := if p.1 < 208 then (p.1 + 1, upd p.2 p.1 c.toInt8.toInt32) else p
def sp_dig (v : Nat) : Nat → Bool → sp_P → sp_P
  | 0, _, p => p
  | k + 1, b, p => if b = true ∨ ¬ v / 10 ^ k % 10 = 0 ∨ k = 0 then sp_dig v k true (sp_add p (nI (48 + v / 10 ^ k % 10))) else sp_dig v k false p
def pp_f (cs : Nat → ClassId) (f : Nat → va_E) (q q1 : Nat) (p : sp_P) : Nat → va_E := va_up (va_up f q1 (.inl (cs 1, 208, .inl p.2))) q (.inr (2, [.ref q1, .int (nI p.1)]))
theorem sp_add_le (p : sp_P) (c : Int32) (h : p.1 ≤ 208) : (sp_add p c).1 ≤ 208 := by
  unfold sp_add
  split
  · show p.1 + 1 ≤ 208
    omega
  · exact h
theorem sp_dig_le (v : Nat) : ∀ (k : Nat) (b : Bool) (p : sp_P), p.1 ≤ 208 → (sp_dig v k b p).1 ≤ 208
  | 0, _, _, h => h
  | k + 1, b, p, h => by
    unfold sp_dig
    split
    · exact sp_dig_le v k _ _ (sp_add_le p _ h)
    · exact sp_dig_le v k _ _ h
theorem pp_PP {cs : Nat → ClassId} {L : List Nat} {f : Nat → va_E} {q q1 : Nat} (m0 : q ∈ L) (m1 : q1 ∈ L) (hne : q ≠ q1) (p : sp_P) : PP cs L (pp_f cs f q q1 p) q q1 p.1 p.2 :=
  ⟨⟨m0, m1⟩, va_up_self _ _ _, (va_up_ne _ _ hne.symm).trans (va_up_self _ _ _)⟩
theorem pp_pp {cs : Nat → ClassId} {f : Nat → va_E} {q q1 : Nat} (hne : q ≠ q1) (p p' : sp_P) : pp_f cs (pp_f cs f q q1 p) q q1 p' = pp_f cs f q q1 p' := by
  funext b
  unfold pp_f va_up
  by_cases h : b = q
  · simp [h]
  · by_cases h1 : b = q1 <;> simp [h, h1]
theorem pp_self {cs : Nat → ClassId} {L : List Nat} {f : Nat → va_E} {q q1 n : Nat} {g : Nat → Int32} (h : PP cs L f q q1 n g) : pp_f cs f q q1 (n, g) = f := by
  obtain ⟨-, e0, e1⟩ := h
  funext b
  unfold pp_f va_up
  by_cases h : b = q
  · simp [h, e0]
  · by_cases h1 : b = q1
    · subst h1; simp [h, e1]
    · simp [h, h1]
