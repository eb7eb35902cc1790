/-! THE CLASS'S METHODS as functions of its value -/
abbrev CST : Type := Int32 × Int32 × Nat × Nat × (Nat → NS) × (Nat → MS) × (Nat → Int32)
def PSx (cs : Nat → ClassId) (L : List Nat) (f : Nat → va_E) (ad : Nat → Nat) (x : CST) (pg : sp_P) : Prop := PS cs L f ad x.1 x.2.1 x.2.2.1 x.2.2.2.1 x.2.2.2.2.1 x.2.2.2.2.2.1 x.2.2.2.2.2.2 pg
abbrev n_gr (n : NS) : Int64 := n.1
abbrev n_to (n : NS) : Int32 := n.2.2.1
abbrev n_an (n : NS) : Nat → Int32 := n.2.2.2.1
abbrev n_ct (n : NS) : Int64 := n.2.2.2.2.2.2
abbrev m_no (m : MS) : Int32 := m.1
abbrev m_gr (m : MS) : Int64 := m.2.1
abbrev m_dy (m : MS) : Int32 := m.2.2.1
abbrev m_st (m : MS) : Int32 := m.2.2.2.2.2.1
abbrev m_si (m : MS) : Int32 := m.2.2.2.2.2.2.1
abbrev m_mk (m : MS) : Int32 := m.2.2.2.2.2.2.2
def sp_in (m : Nat) (p : Int32) : Int32 := if p < 0 then 0 else if nI m ≤ p then 0 else 1
theorem sp_in_cases {m : Nat} (hm : m < 2 ^ 31) (p : Int32) : (ix m p = none ∧ sp_in m p = 0) ∨ ∃ a, a < m ∧ p = nI a ∧ ix m p = some a ∧ sp_in m p = 1 := by
  rcases ix_cases hm p with ⟨h, h1 | h1⟩ | ⟨i, hi, e, h, h0, h1⟩
  · exact Or.inl ⟨h, if_pos h1⟩
  · refine Or.inl ⟨h, ?_⟩
    unfold sp_in
    split
    · rfl
    · exact if_pos (Int32.not_lt.mp h1)
  · refine Or.inr ⟨i, hi, e, h, ?_⟩
    unfold sp_in
    rw [if_neg h0, if_neg (Int32.not_le.mpr h1)]
def sC_state (t : Int32) (nN : Nat) (ns : Nat → NS) (n : Int32) : Int32 := match ix nN n with
  | none => -1
  | some i => sp_state (n_an (ns i)) (n_to (ns i)) t
def sC_mst (nM : Nat) (ms : Nat → MS) (n : Int32) : Int32 := match ix nM n with
  | none => -1
  | some j => m_st (ms j)
def sC_may (rt : Nat → Int32) (p e : Int32) : Int32 := match ix 8 p with
  | none => 0
  | some a => match ix 5 e with
    | none => 0
    | some b => if rt (a * 5 + b) = 0 then 0 else 1
def sC_next (e st : Int32) : Int32 := match ix 5 e with
  | none => -1
  | some b => match ix 6 st with
    | none => -1
    | some k => sp_leads (b * 6 + k)
def sC_can (t : Int32) (nN : Nat) (ns : Nat → NS) (m : MS) : Int32 := match ix nN (m_no m) with
  | none => 0
  | some i => if t < m_dy m then 0 else if sp_state (n_an (ns i)) (n_to (ns i)) t = 1 then 1 else 0
def sC_isl (t lm : Int32) (m : MS) : Int32 := if m_st m = 2 then (if t - m_si m ≤ lm then 0 else 1) else 0
def sC_gim (ms : Nat → MS) (n : Int32) : Nat → Int64
  | 0 => 0
  | k + 1 => if m_no (ms k) = n then (if sp_uses (m_st (ms k)) = 0 then sC_gim ms n k else sC_gim ms n k + m_gr (ms k)) else sC_gim ms n k
def sC_rec (ms : Nat → MS) (n : Int32) : Nat → Int64
  | 0 => 0
  | k + 1 => if m_no (ms k) = n then (if m_st (ms k) = 3 then sC_rec ms n k + m_gr (ms k) else sC_rec ms n k) else sC_rec ms n k
def sC_share (sum part whole : Int64) : Int64 := if whole < 1 then 0 else sum / whole * part + (sum - sum / whole * whole) * part / whole + (if (sum - sum / whole * whole) * part - (sum - sum / whole * whole) * part / whole * whole = 0 then 0 else 1)
def sC_left (nN nM : Nat) (ns : Nat → NS) (ms : Nat → MS) (n : Int32) : Int64 := match ix nN n with
  | none => -1
  | some i => n_gr (ns i) - sC_gim ms n nM
def sC_held (nN nM : Nat) (ns : Nat → NS) (ms : Nat → MS) (n : Int32) : Int64 := match ix nN n with
  | none => -1
  | some i => sC_share (n_ct (ns i)) (n_gr (ns i) - sC_rec ms n nM) (n_gr (ns i))
/-- the rest of the search from move m on, b seen before -/
def sC_lt (t lm : Int32) (ms : Nat → MS) (k : Int32) : Nat → Nat → Int32 → Int32
  | 0, _, _ => -1
  | r + 1, m, b => if sC_isl t lm (ms m) = 0 then sC_lt t lm ms k r (m + 1) b else if b = k then nI m else sC_lt t lm ms k r (m + 1) (b + 1)
def sC_back (nM : Nat) (ms : Nat → MS) (n k : Int32) : Int32 := match ix nM n with
  | none => -1
  | some j => sp_back (ms j).2.2.2.1 (ms j).2.2.2.2.1 k
theorem nb_01 {r : Int32} (h : r = 0 ∨ r = 1) : narrow .boolean (.int r) = .int r := by
  rcases h with h | h <;> rw [h] <;> rfl
theorem nar_may (rt : Nat → Int32) (p e : Int32) : sC_may rt p e = 0 ∨ sC_may rt p e = 1 := by
  unfold sC_may
  split
  · exact Or.inl rfl
  · split
    · exact Or.inl rfl
    · split
      · exact Or.inl rfl
      · exact Or.inr rfl
theorem rt_ix {a b : Nat} (ha : a < 8) (hb : b < 5) : nI a * 5 + nI b = nI (a * 5 + b) := by
  rw [show (5 : Int32) = nI 5 from rfl, pk_mul, nI_add]
theorem ld_ix {a b : Nat} (ha : a < 5) (hb : b < 6) : nI a * 6 + nI b = nI (a * 6 + b) := by
  rw [show (6 : Int32) = nI 6 from rfl, pk_mul, nI_add]
