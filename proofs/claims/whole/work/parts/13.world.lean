/-! THE CLASS'S WORLD: addresses by roles: 0 the object, 1 notices, 2 moves, 3 rights, 4 paper, 5 its row; of notice i 8+4i (the object), 9+4i answers, 10+4i askedOn, 11+4i daysOf; of move j 32+2j (the object), 33+2j carriers. -/
abbrev NS : Type := Int64 × Int32 × Int32 × (Nat → Int32) × (Nat → Int32) × (Nat → Int32) × Int64
abbrev MS : Type := Int32 × Int64 × Int32 × (Nat → Int32) × Nat × Int32 × Int32 × Int32
def ps_use (nN nM r : Nat) : Prop := r < 6 ∨ (8 ≤ r ∧ r < 8 + 4 * nN) ∨ (32 ≤ r ∧ r < 32 + 2 * nM)
def NTi (cs : Nat → ClassId) (L : List Nat) (f : Nat → va_E) (ad : Nat → Nat) (i : Nat) (n : NS) : Prop := NT cs L f (ad (8 + 4 * i)) (ad (9 + 4 * i)) (ad (10 + 4 * i)) (ad (11 + 4 * i)) n.1 n.2.1 n.2.2.1 n.2.2.2.1 n.2.2.2.2.1 n.2.2.2.2.2.1 n.2.2.2.2.2.2
def MVi (cs : Nat → ClassId) (L : List Nat) (f : Nat → va_E) (ad : Nat → Nat) (j : Nat) (m : MS) : Prop := MV cs L f (ad (32 + 2 * j)) (ad (33 + 2 * j)) m.1 m.2.1 m.2.2.1 m.2.2.2.1 m.2.2.2.2.1 m.2.2.2.2.2.1 m.2.2.2.2.2.2.1 m.2.2.2.2.2.2.2 ∧ m.2.2.2.2.1 ≤ 6
def ps_g (ad : Nat → Nat) (b w n : Nat) : Nat → Option Nat := fun i => if i < n then some (ad (b + w * i)) else none
def ps_0 (ad : Nat → Nat) (t lm : Int32) (nN nM : Nat) : va_E := .inr (3, [.ref (ad 1), .ref (ad 2), .ref (ad 3), .ref (ad 4), .int (nI nN), .int (nI nM), .int t, .int lm])
def PS (cs : Nat → ClassId) (L : List Nat) (f : Nat → va_E) (ad : Nat → Nat) (t lm : Int32) (nN nM : Nat) (ns : Nat → NS) (ms : Nat → MS) (rt : Nat → Int32) (pg : sp_P) : Prop :=
  (nN ≤ 6 ∧ nM ≤ 12) ∧ (∀ r, ps_use nN nM r → ad r ∈ L) ∧ (∀ r r', ps_use nN nM r → ps_use nN nM r' → ad r = ad r' → r = r') ∧
  f (ad 0) = ps_0 ad t lm nN nM ∧ f (ad 1) = .inl (cs 4, 6, .inr (.inr (.inr (.inr (ps_g ad 8 4 nN))))) ∧ f (ad 2) = .inl (cs 5, 12, .inr (.inr (.inr (.inr (ps_g ad 32 2 nM))))) ∧ f (ad 3) = .inl (cs 2, 40, .inl rt) ∧
  (PP cs L f (ad 4) (ad 5) pg.1 pg.2 ∧ pg.1 ≤ 208) ∧ (∀ i, i < nN → NTi cs L f ad i (ns i)) ∧ (∀ j, j < nM → MVi cs L f ad j (ms j))
section PSL
variable {cs : Nat → ClassId} {L : List Nat} {f : Nat → va_E} {ad : Nat → Nat} {t lm : Int32} {nN nM : Nat} {ns : Nat → NS} {ms : Nat → MS} {rt : Nat → Int32} {pg : sp_P}
theorem PS.nN6 (h : PS cs L f ad t lm nN nM ns ms rt pg) : nN ≤ 6 := h.1.1
theorem PS.nM12 (h : PS cs L f ad t lm nN nM ns ms rt pg) : nM ≤ 12 := h.1.2
theorem PS.mem (h : PS cs L f ad t lm nN nM ns ms rt pg) {r : Nat} (hr : ps_use nN nM r) : ad r ∈ L := h.2.1 r hr
theorem PS.ne (h : PS cs L f ad t lm nN nM ns ms rt pg) {r r' : Nat} (hr : ps_use nN nM r) (hr' : ps_use nN nM r') (hne : r ≠ r') : ad r ≠ ad r' := fun e => hne (h.2.2.1 r r' hr hr' e)
theorem PS.e0 (h : PS cs L f ad t lm nN nM ns ms rt pg) : f (ad 0) = .inr (3, [.ref (ad 1), .ref (ad 2), .ref (ad 3), .ref (ad 4), .int (nI nN), .int (nI nM), .int t, .int lm]) := h.2.2.2.1
theorem PS.e1 (h : PS cs L f ad t lm nN nM ns ms rt pg) : f (ad 1) = .inl (cs 4, 6, .inr (.inr (.inr (.inr (ps_g ad 8 4 nN))))) := h.2.2.2.2.1
theorem PS.e2 (h : PS cs L f ad t lm nN nM ns ms rt pg) : f (ad 2) = .inl (cs 5, 12, .inr (.inr (.inr (.inr (ps_g ad 32 2 nM))))) := h.2.2.2.2.2.1
theorem PS.e3 (h : PS cs L f ad t lm nN nM ns ms rt pg) : f (ad 3) = .inl (cs 2, 40, .inl rt) := h.2.2.2.2.2.2.1
theorem PS.pp (h : PS cs L f ad t lm nN nM ns ms rt pg) : PP cs L f (ad 4) (ad 5) pg.1 pg.2 := h.2.2.2.2.2.2.2.1.1
theorem PS.p8 (h : PS cs L f ad t lm nN nM ns ms rt pg) : pg.1 ≤ 208 := h.2.2.2.2.2.2.2.1.2
theorem PS.nt (h : PS cs L f ad t lm nN nM ns ms rt pg) {i : Nat} (hi : i < nN) : NTi cs L f ad i (ns i) := h.2.2.2.2.2.2.2.2.1 i hi
theorem PS.mv (h : PS cs L f ad t lm nN nM ns ms rt pg) {j : Nat} (hj : j < nM) : MVi cs L f ad j (ms j) := h.2.2.2.2.2.2.2.2.2 j hj
theorem pu_lo {nN nM r : Nat} (h : r < 6) : ps_use nN nM r := Or.inl h
theorem pu_n {nN nM i c : Nat} (hi : i < nN) (hc : c < 4) : ps_use nN nM (8 + c + 4 * i) := Or.inr (Or.inl ⟨by omega, by omega⟩)
theorem pu_m {nN nM j c : Nat} (hj : j < nM) (hc : c < 2) : ps_use nN nM (32 + c + 2 * j) := Or.inr (Or.inr ⟨by omega, by omega⟩)
/-- the same cells at the same roles: NT, MV go over -/
theorem NTi.kept {L' : List Nat} {f' : Nat → va_E} {ad' : Nat → Nat} {i : Nat} {n : NS} (h : NTi cs L f ad i n) (hL : ∀ a ∈ L, a ∈ L') (had : ∀ r, 8 + 4 * i ≤ r → r < 12 + 4 * i → ad' r = ad r) (hf : ∀ r, 8 + 4 * i ≤ r → r < 12 + 4 * i → f' (ad r) = f (ad r)) : NTi cs L' f' ad' i n := by
  unfold NTi at *
  rw [had _ (by omega) (by omega), had _ (by omega) (by omega), had _ (by omega) (by omega), had _ (by omega) (by omega)]
  obtain ⟨⟨a, b, c, d⟩, ⟨a1, b1, c1, d1⟩, x⟩ := h
  exact ⟨⟨hL _ a, hL _ b, hL _ c, hL _ d⟩, ⟨(hf _ (by omega) (by omega)).trans a1, (hf _ (by omega) (by omega)).trans b1, (hf _ (by omega) (by omega)).trans c1, (hf _ (by omega) (by omega)).trans d1⟩, x⟩
theorem MVi.kept {L' : List Nat} {f' : Nat → va_E} {ad' : Nat → Nat} {j : Nat} {m : MS} (h : MVi cs L f ad j m) (hL : ∀ a ∈ L, a ∈ L') (had : ∀ r, 32 + 2 * j ≤ r → r < 34 + 2 * j → ad' r = ad r) (hf : ∀ r, 32 + 2 * j ≤ r → r < 34 + 2 * j → f' (ad r) = f (ad r)) : MVi cs L' f' ad' j m := by
  unfold MVi at *
  rw [had _ (by omega) (by omega), had _ (by omega) (by omega)]
  obtain ⟨⟨⟨a, b⟩, a1, b1⟩, x⟩ := h
  exact ⟨⟨⟨hL _ a, hL _ b⟩, (hf _ (by omega) (by omega)).trans a1, (hf _ (by omega) (by omega)).trans b1⟩, x⟩
/-- one object's numbers change -/
theorem PS.main (h : PS cs L f ad t lm nN nM ns ms rt pg) (t' lm' : Int32) : PS cs L (va_up f (ad 0) (ps_0 ad t' lm' nN nM)) ad t' lm' nN nM ns ms rt pg := by
  have k : ∀ r, ps_use nN nM r → 0 < r → va_up f (ad 0) (ps_0 ad t' lm' nN nM) (ad r) = f (ad r) := fun r hr h0 => va_up_ne _ _ (h.ne hr (pu_lo (by decide)) (by omega))
  refine ⟨h.1, h.2.1, h.2.2.1, va_up_self _ _ _, (k 1 (pu_lo (by decide)) (by decide)).trans h.e1, (k 2 (pu_lo (by decide)) (by decide)).trans h.e2, (k 3 (pu_lo (by decide)) (by decide)).trans h.e3, ⟨⟨h.pp.1, (k 4 (pu_lo (by decide)) (by decide)).trans h.pp.2.1, (k 5 (pu_lo (by decide)) (by decide)).trans h.pp.2.2⟩, h.p8⟩, fun i hi => (h.nt hi).kept (fun _ z => z) (fun _ _ _ => rfl) (fun r h1 h2 => k r (Or.inr (Or.inl ⟨by omega, by omega⟩)) (by omega)), fun j hj => (h.mv hj).kept (fun _ z => z) (fun _ _ _ => rfl) (fun r h1 h2 => k r (Or.inr (Or.inr ⟨by omega, by omega⟩)) (by omega))⟩
theorem PS.rights (h : PS cs L f ad t lm nN nM ns ms rt pg) (rt' : Nat → Int32) : PS cs L (va_up f (ad 3) (.inl (cs 2, 40, .inl rt'))) ad t lm nN nM ns ms rt' pg := by
  have k : ∀ r, ps_use nN nM r → r ≠ 3 → va_up f (ad 3) (.inl (cs 2, 40, .inl rt')) (ad r) = f (ad r) := fun r hr h0 => va_up_ne _ _ (h.ne hr (pu_lo (by decide)) h0)
  refine ⟨h.1, h.2.1, h.2.2.1, (k 0 (pu_lo (by decide)) (by decide)).trans h.e0, (k 1 (pu_lo (by decide)) (by decide)).trans h.e1, (k 2 (pu_lo (by decide)) (by decide)).trans h.e2, va_up_self _ _ _, ⟨⟨h.pp.1, (k 4 (pu_lo (by decide)) (by decide)).trans h.pp.2.1, (k 5 (pu_lo (by decide)) (by decide)).trans h.pp.2.2⟩, h.p8⟩, fun i hi => (h.nt hi).kept (fun _ z => z) (fun _ _ _ => rfl) (fun r h1 h2 => k r (Or.inr (Or.inl ⟨by omega, by omega⟩)) (by omega)), fun j hj => (h.mv hj).kept (fun _ z => z) (fun _ _ _ => rfl) (fun r h1 h2 => k r (Or.inr (Or.inr ⟨by omega, by omega⟩)) (by omega))⟩
theorem PS.paper (h : PS cs L f ad t lm nN nM ns ms rt pg) (pg' : sp_P) (h8 : pg'.1 ≤ 208) : PS cs L (pp_f cs f (ad 4) (ad 5) pg') ad t lm nN nM ns ms rt pg' := by
  have k : ∀ r, ps_use nN nM r → r ≠ 4 → r ≠ 5 → pp_f cs f (ad 4) (ad 5) pg' (ad r) = f (ad r) := fun r hr h0 h1 => (va_up_ne _ _ (h.ne hr (pu_lo (by decide)) h0)).trans (va_up_ne _ _ (h.ne hr (pu_lo (by decide)) h1))
  refine ⟨h.1, h.2.1, h.2.2.1, (k 0 (pu_lo (by decide)) (by decide) (by decide)).trans h.e0, (k 1 (pu_lo (by decide)) (by decide) (by decide)).trans h.e1, (k 2 (pu_lo (by decide)) (by decide) (by decide)).trans h.e2, (k 3 (pu_lo (by decide)) (by decide) (by decide)).trans h.e3, ⟨pp_PP h.pp.1.1 h.pp.1.2 (h.ne (pu_lo (by decide)) (pu_lo (by decide)) (by decide)) pg', h8⟩, fun i hi => (h.nt hi).kept (fun _ z => z) (fun _ _ _ => rfl) (fun r h1 h2 => k r (Or.inr (Or.inl ⟨by omega, by omega⟩)) (by omega) (by omega)), fun j hj => (h.mv hj).kept (fun _ z => z) (fun _ _ _ => rfl) (fun r h1 h2 => k r (Or.inr (Or.inr ⟨by omega, by omega⟩)) (by omega) (by omega))⟩
/-- one notice changes: nothing but its own four cells -/
theorem PS.notice (h : PS cs L f ad t lm nN nM ns ms rt pg) {f' : Nat → va_E} {i : Nat} {n' : NS} (hi : i < nN) (hf : ∀ r, ps_use nN nM r → (r < 8 + 4 * i ∨ 12 + 4 * i ≤ r) → f' (ad r) = f (ad r)) (hN : NTi cs L f' ad i n') : PS cs L f' ad t lm nN nM (va_up ns i n') ms rt pg := by
  refine ⟨h.1, h.2.1, h.2.2.1, (hf 0 (pu_lo (by decide)) (by omega)).trans h.e0, (hf 1 (pu_lo (by decide)) (by omega)).trans h.e1, (hf 2 (pu_lo (by decide)) (by omega)).trans h.e2, (hf 3 (pu_lo (by decide)) (by omega)).trans h.e3, ⟨⟨h.pp.1, (hf 4 (pu_lo (by decide)) (by omega)).trans h.pp.2.1, (hf 5 (pu_lo (by decide)) (by omega)).trans h.pp.2.2⟩, h.p8⟩, fun k hk => ?_, fun j hj => (h.mv hj).kept (fun _ z => z) (fun _ _ _ => rfl) (fun r h1 h2 => hf r (Or.inr (Or.inr ⟨by omega, by omega⟩)) (by have := h.nN6; omega))⟩
  by_cases e : k = i
  · subst e
    rw [va_up_self]
    exact hN
  · rw [va_up_ne _ _ e]
    exact (h.nt hk).kept (fun _ z => z) (fun _ _ _ => rfl) (fun r h1 h2 => hf r (Or.inr (Or.inl ⟨by omega, by omega⟩)) (by omega))
theorem PS.move (h : PS cs L f ad t lm nN nM ns ms rt pg) {f' : Nat → va_E} {j : Nat} {m' : MS} (hj : j < nM) (hf : ∀ r, ps_use nN nM r → (r < 32 + 2 * j ∨ 34 + 2 * j ≤ r) → f' (ad r) = f (ad r)) (hM : MVi cs L f' ad j m') : PS cs L f' ad t lm nN nM ns (va_up ms j m') rt pg := by
  refine ⟨h.1, h.2.1, h.2.2.1, (hf 0 (pu_lo (by decide)) (by omega)).trans h.e0, (hf 1 (pu_lo (by decide)) (by omega)).trans h.e1, (hf 2 (pu_lo (by decide)) (by omega)).trans h.e2, (hf 3 (pu_lo (by decide)) (by omega)).trans h.e3, ⟨⟨h.pp.1, (hf 4 (pu_lo (by decide)) (by omega)).trans h.pp.2.1, (hf 5 (pu_lo (by decide)) (by omega)).trans h.pp.2.2⟩, h.p8⟩, fun i hi => (h.nt hi).kept (fun _ z => z) (fun _ _ _ => rfl) (fun r h1 h2 => hf r (Or.inr (Or.inl ⟨by omega, by omega⟩)) (by have := h.nN6; omega)), fun k hk => ?_⟩
  by_cases e : k = j
  · subst e
    rw [va_up_self]
    exact hM
  · rw [va_up_ne _ _ e]
    exact (h.mv hk).kept (fun _ z => z) (fun _ _ _ => rfl) (fun r h1 h2 => hf r (Or.inr (Or.inr ⟨by omega, by omega⟩)) (by omega))
/-- one more notice -/
theorem PS.more (h : PS cs L f ad t lm nN nM ns ms rt pg) {L' : List Nat} {f' : Nat → va_E} {q q1 q2 q3 : Nat} {n' : NS} (h6 : nN < 6) (hL : ∀ a ∈ L, a ∈ L') (hn : (q ∉ L ∧ q1 ∉ L ∧ q2 ∉ L ∧ q3 ∉ L) ∧ q ≠ q1 ∧ q ≠ q2 ∧ q ≠ q3)
    (hN : NT cs L' f' q q1 q2 q3 n'.1 n'.2.1 n'.2.2.1 n'.2.2.2.1 n'.2.2.2.2.1 n'.2.2.2.2.2.1 n'.2.2.2.2.2.2)
    (hf : ∀ r, ps_use nN nM r → 1 < r → f' (ad r) = f (ad r)) (h0 : f' (ad 0) = ps_0 ad t lm (nN + 1) nM) (h1 : f' (ad 1) = .inl (cs 4, 6, .inr (.inr (.inr (.inr (va_up (ps_g ad 8 4 nN) nN (some q))))))) :
    ∃ ad', ad' 0 = ad 0 ∧ PS cs L' f' ad' t lm (nN + 1) nM (va_up ns nN n') ms rt pg := by
  obtain ⟨⟨a0, a1, a2, a3⟩, b1, b2, b3⟩ := hn
  obtain ⟨⟨c0, c1, c2, c3⟩, ⟨d0, d1, d2, d3⟩, n12, n13, n23⟩ := hN
  refine ⟨fun r => if r = 8 + 4 * nN then q else if r = 9 + 4 * nN then q1 else if r = 10 + 4 * nN then q2 else if r = 11 + 4 * nN then q3 else ad r, by simp only [show ¬ 0 = 8 + 4 * nN by omega, show ¬ 0 = 9 + 4 * nN by omega, show ¬ 0 = 10 + 4 * nN by omega, show ¬ 0 = 11 + 4 * nN by omega, if_false], ?_⟩
  have hM12 := h.nM12
  generalize hA : (fun r => if r = 8 + 4 * nN then q else if r = 9 + 4 * nN then q1 else if r = 10 + 4 * nN then q2 else if r = 11 + 4 * nN then q3 else ad r) = A
  have A0 : A (8 + 4 * nN) = q := by rw [← hA]; simp
  have A1 : A (9 + 4 * nN) = q1 := by rw [← hA]; simp
  have A2 : A (10 + 4 * nN) = q2 := by rw [← hA]; simp
  have A3 : A (11 + 4 * nN) = q3 := by rw [← hA]; simp
  have Ar : ∀ r, (r < 8 + 4 * nN ∨ 12 + 4 * nN ≤ r) → A r = ad r := fun r hr => by
    rw [← hA]
    simp only [show ¬ r = 8 + 4 * nN by omega, show ¬ r = 9 + 4 * nN by omega, show ¬ r = 10 + 4 * nN by omega, show ¬ r = 11 + 4 * nN by omega, if_false]
  have cases4 : ∀ r, ps_use (nN + 1) nM r → ps_use nN nM r ∧ A r = ad r ∨ (r = 8 + 4 * nN ∧ A r = q) ∨ (r = 9 + 4 * nN ∧ A r = q1) ∨ (r = 10 + 4 * nN ∧ A r = q2) ∨ (r = 11 + 4 * nN ∧ A r = q3) := by
    intro r hr
    by_cases e0 : r = 8 + 4 * nN
    · exact Or.inr (Or.inl ⟨e0, by rw [e0, A0]⟩)
    by_cases e1 : r = 9 + 4 * nN
    · exact Or.inr (Or.inr (Or.inl ⟨e1, by rw [e1, A1]⟩))
    by_cases e2 : r = 10 + 4 * nN
    · exact Or.inr (Or.inr (Or.inr (Or.inl ⟨e2, by rw [e2, A2]⟩)))
    by_cases e3 : r = 11 + 4 * nN
    · exact Or.inr (Or.inr (Or.inr (Or.inr ⟨e3, by rw [e3, A3]⟩)))
    refine Or.inl ⟨?_, Ar r (by omega)⟩
    unfold ps_use at hr ⊢
    omega
  have mem : ∀ r, ps_use (nN + 1) nM r → A r ∈ L' := by
    intro r hr
    rcases cases4 r hr with ⟨u, e⟩ | ⟨-, e⟩ | ⟨-, e⟩ | ⟨-, e⟩ | ⟨-, e⟩ <;> rw [e]
    · exact hL _ (h.mem u)
    · exact c0
    · exact c1
    · exact c2
    · exact c3
  refine ⟨⟨by omega, h.nM12⟩, mem, ?_, ?_, ?_, ?_, ?_, ⟨?_, h.p8⟩, ?_, ?_⟩
  · intro r r' hr hr' e
    have fresh : ∀ x, (x = 8 + 4 * nN ∧ A x = q) ∨ (x = 9 + 4 * nN ∧ A x = q1) ∨ (x = 10 + 4 * nN ∧ A x = q2) ∨ (x = 11 + 4 * nN ∧ A x = q3) → A x ∉ L := by
      intro x hx
      rcases hx with ⟨-, e⟩ | ⟨-, e⟩ | ⟨-, e⟩ | ⟨-, e⟩ <;> rw [e] <;> assumption
    rcases cases4 r hr with ⟨u, e1⟩ | v <;> rcases cases4 r' hr' with ⟨u', e1'⟩ | v'
    · exact h.2.2.1 r r' u u' (by rw [← e1, ← e1']; exact e)
    · exact absurd (by rw [← e, e1]; exact h.mem u) (fresh r' v')
    · exact absurd (by rw [e, e1']; exact h.mem u') (fresh r v)
    · rcases v with ⟨u, e1⟩ | ⟨u, e1⟩ | ⟨u, e1⟩ | ⟨u, e1⟩ <;> rcases v' with ⟨u', e1'⟩ | ⟨u', e1'⟩ | ⟨u', e1'⟩ | ⟨u', e1'⟩ <;> rw [e1, e1'] at e <;> first
        | exact u.trans u'.symm
        | exact absurd e b1
        | exact absurd e b2
        | exact absurd e b3
        | exact absurd e n12
        | exact absurd e n13
        | exact absurd e n23
        | exact absurd e.symm b1
        | exact absurd e.symm b2
        | exact absurd e.symm b3
        | exact absurd e.symm n12
        | exact absurd e.symm n13
        | exact absurd e.symm n23
  · rw [Ar 0 (by omega), h0]
    unfold ps_0
    rw [Ar 1 (by omega), Ar 2 (by omega), Ar 3 (by omega), Ar 4 (by omega)]
  · have eg : va_up (ps_g ad 8 4 nN) nN (some q) = ps_g A 8 4 (nN + 1) := by
      funext k
      unfold ps_g va_up
      by_cases e : k = nN
      · subst e; simp [A0]
      · by_cases e2 : k < nN
        · simp [e, e2, show k < nN + 1 by omega, Ar (8 + 4 * k) (by omega)]
        · simp [e, e2, show ¬ k < nN + 1 by omega]
    rw [Ar 1 (by omega), h1, eg]
  · have eg : ps_g ad 32 2 nM = ps_g A 32 2 nM := by
      funext k
      unfold ps_g
      by_cases e2 : k < nM
      · simp [e2, Ar (32 + 2 * k) (by omega)]
      · simp [e2]
    rw [Ar 2 (by omega), hf 2 (pu_lo (by decide)) (by decide), h.e2, eg]
  · rw [Ar 3 (by omega), hf 3 (pu_lo (by decide)) (by decide), h.e3]
  · rw [Ar 4 (by omega), Ar 5 (by omega)]
    exact ⟨⟨hL _ h.pp.1.1, hL _ h.pp.1.2⟩, (hf 4 (pu_lo (by decide)) (by decide)).trans h.pp.2.1, (hf 5 (pu_lo (by decide)) (by decide)).trans h.pp.2.2⟩
  · intro i hi
    by_cases e : i = nN
    · subst e
      rw [va_up_self]
      unfold NTi
      rw [A0, A1, A2, A3]
      exact ⟨⟨c0, c1, c2, c3⟩, ⟨d0, d1, d2, d3⟩, n12, n13, n23⟩
    · rw [va_up_ne _ _ e]
      exact (h.nt (show i < nN by omega)).kept hL (fun r h1 h2 => Ar r (by omega)) (fun r h1 h2 => hf r (Or.inr (Or.inl ⟨by omega, by omega⟩)) (by omega))
  · intro j hj
    exact (h.mv hj).kept hL (fun r h1 h2 => Ar r (by omega)) (fun r h1 h2 => hf r (Or.inr (Or.inr ⟨by omega, by omega⟩)) (by omega))
/-- one more move -/
theorem PS.moreM (h : PS cs L f ad t lm nN nM ns ms rt pg) {L' : List Nat} {f' : Nat → va_E} {q q1 : Nat} {m' : MS} (h6 : nM < 12) (hL : ∀ a ∈ L, a ∈ L') (hn : q ∉ L ∧ q1 ∉ L ∧ q ≠ q1) (hc : m'.2.2.2.2.1 ≤ 6)
    (hM : MV cs L' f' q q1 m'.1 m'.2.1 m'.2.2.1 m'.2.2.2.1 m'.2.2.2.2.1 m'.2.2.2.2.2.1 m'.2.2.2.2.2.2.1 m'.2.2.2.2.2.2.2)
    (hf : ∀ r, ps_use nN nM r → r ≠ 0 → r ≠ 2 → f' (ad r) = f (ad r)) (h0 : f' (ad 0) = ps_0 ad t lm nN (nM + 1)) (h1 : f' (ad 2) = .inl (cs 5, 12, .inr (.inr (.inr (.inr (va_up (ps_g ad 32 2 nM) nM (some q))))))) :
    ∃ ad', ad' 0 = ad 0 ∧ PS cs L' f' ad' t lm nN (nM + 1) ns (va_up ms nM m') rt pg := by
  obtain ⟨a0, a1, b1⟩ := hn
  obtain ⟨⟨c0, c1⟩, d0, d1⟩ := hM
  refine ⟨fun r => if r = 32 + 2 * nM then q else if r = 33 + 2 * nM then q1 else ad r, by simp only [show ¬ 0 = 32 + 2 * nM by omega, show ¬ 0 = 33 + 2 * nM by omega, if_false], ?_⟩
  have hN6 := h.nN6
  generalize hA : (fun r => if r = 32 + 2 * nM then q else if r = 33 + 2 * nM then q1 else ad r) = A
  have A0 : A (32 + 2 * nM) = q := by rw [← hA]; simp
  have A1 : A (33 + 2 * nM) = q1 := by rw [← hA]; simp
  have Ar : ∀ r, (r < 32 + 2 * nM ∨ 34 + 2 * nM ≤ r) → A r = ad r := fun r hr => by
    rw [← hA]
    simp only [show ¬ r = 32 + 2 * nM by omega, show ¬ r = 33 + 2 * nM by omega, if_false]
  have cases4 : ∀ r, ps_use nN (nM + 1) r → ps_use nN nM r ∧ A r = ad r ∨ (r = 32 + 2 * nM ∧ A r = q) ∨ (r = 33 + 2 * nM ∧ A r = q1) := by
    intro r hr
    by_cases e0 : r = 32 + 2 * nM
    · exact Or.inr (Or.inl ⟨e0, by rw [e0, A0]⟩)
    by_cases e1 : r = 33 + 2 * nM
    · exact Or.inr (Or.inr ⟨e1, by rw [e1, A1]⟩)
    refine Or.inl ⟨?_, Ar r (by omega)⟩
    unfold ps_use at hr ⊢
    omega
  have mem : ∀ r, ps_use nN (nM + 1) r → A r ∈ L' := by
    intro r hr
    rcases cases4 r hr with ⟨u, e⟩ | ⟨-, e⟩ | ⟨-, e⟩ <;> rw [e]
    · exact hL _ (h.mem u)
    · exact c0
    · exact c1
  refine ⟨⟨h.nN6, by omega⟩, mem, ?_, ?_, ?_, ?_, ?_, ⟨?_, h.p8⟩, ?_, ?_⟩
  · intro r r' hr hr' e
    have fresh : ∀ x, (x = 32 + 2 * nM ∧ A x = q) ∨ (x = 33 + 2 * nM ∧ A x = q1) → A x ∉ L := by
      intro x hx
      rcases hx with ⟨-, e⟩ | ⟨-, e⟩ <;> rw [e] <;> assumption
    rcases cases4 r hr with ⟨u, e1⟩ | v <;> rcases cases4 r' hr' with ⟨u', e1'⟩ | v'
    · exact h.2.2.1 r r' u u' (by rw [← e1, ← e1']; exact e)
    · exact absurd (by rw [← e, e1]; exact h.mem u) (fresh r' v')
    · exact absurd (by rw [e, e1']; exact h.mem u') (fresh r v)
    · rcases v with ⟨u, e1⟩ | ⟨u, e1⟩ <;> rcases v' with ⟨u', e1'⟩ | ⟨u', e1'⟩ <;> rw [e1, e1'] at e <;> first
        | exact u.trans u'.symm
        | exact absurd e b1
        | exact absurd e.symm b1
  · rw [Ar 0 (by omega), h0]
    unfold ps_0
    rw [Ar 1 (by omega), Ar 2 (by omega), Ar 3 (by omega), Ar 4 (by omega)]
  · have eg : ps_g ad 8 4 nN = ps_g A 8 4 nN := by
      funext k
      unfold ps_g
      by_cases e2 : k < nN
      · simp [e2, Ar (8 + 4 * k) (by omega)]
      · simp [e2]
    rw [Ar 1 (by omega), hf 1 (pu_lo (by decide)) (by decide) (by decide), h.e1, eg]
  · have eg : va_up (ps_g ad 32 2 nM) nM (some q) = ps_g A 32 2 (nM + 1) := by
      funext k
      unfold ps_g va_up
      by_cases e : k = nM
      · subst e; simp [A0]
      · by_cases e2 : k < nM
        · simp [e, e2, show k < nM + 1 by omega, Ar (32 + 2 * k) (by omega)]
        · simp [e, e2, show ¬ k < nM + 1 by omega]
    rw [Ar 2 (by omega), h1, eg]
  · rw [Ar 3 (by omega), hf 3 (pu_lo (by decide)) (by decide) (by decide), h.e3]
  · rw [Ar 4 (by omega), Ar 5 (by omega)]
    exact ⟨⟨hL _ h.pp.1.1, hL _ h.pp.1.2⟩, (hf 4 (pu_lo (by decide)) (by decide) (by decide)).trans h.pp.2.1, (hf 5 (pu_lo (by decide)) (by decide) (by decide)).trans h.pp.2.2⟩
  · intro i hi
    exact (h.nt hi).kept hL (fun r h1 h2 => Ar r (by omega)) (fun r h1 h2 => hf r (Or.inr (Or.inl ⟨by omega, by omega⟩)) (by omega) (by omega))
  · intro j hj
    by_cases e : j = nM
    · subst e
      rw [va_up_self]
      unfold MVi
      rw [A0, A1]
      exact ⟨⟨⟨c0, c1⟩, d0, d1⟩, hc⟩
    · rw [va_up_ne _ _ e]
      exact (h.mv (show j < nM by omega)).kept hL (fun r h1 h2 => Ar r (by omega)) (fun r h1 h2 => hf r (Or.inr (Or.inr ⟨by omega, by omega⟩)) (by omega) (by omega))
end PSL
/-- the index that an int is, below m -/
def ix (m : Nat) (n : Int32) : Option Nat := if n < 0 then none else if n < nI m then some n.toNatClampNeg else none
theorem ix_cases {m : Nat} (hm : m < 2 ^ 31) (n : Int32) : (ix m n = none ∧ (n < 0 ∨ ¬ n < nI m)) ∨ ∃ i, i < m ∧ n = nI i ∧ ix m n = some i ∧ ¬ n < 0 ∧ n < nI m := by
  unfold ix
  by_cases h0 : n < 0
  · exact Or.inl ⟨if_pos h0, Or.inl h0⟩
  · by_cases h1 : n < nI m
    · obtain ⟨i, hi, rfl⟩ := nI_of h0
      refine Or.inr ⟨i, (nI_ltI hi hm).mp h1, rfl, ?_, h0, h1⟩
      rw [if_neg h0, if_pos h1, nI_clamp hi]
    · exact Or.inl ⟨by rw [if_neg h0, if_neg h1], Or.inr h1⟩
theorem ix_nI {m i : Nat} (hi : i < m) (hm : m < 2 ^ 31) : ix m (nI i) = some i := by
  unfold ix
  rw [if_neg (nI_pos (by omega)), if_pos (nI_lt hi hm), nI_clamp (by omega)]
