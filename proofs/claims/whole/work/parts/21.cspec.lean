/-! THE CLASS'S WRITING METHODS as functions of its value; what they do to the world -/
theorem va_up_same {α : Type} (f : Nat → α) (k : Nat) : va_up f k (f k) = f := by
  funext j
  by_cases h : j = k
  · rw [h, va_up_self]
  · rw [va_up_ne _ _ h]
def ns_ask (n : NS) (c d t : Int32) : Int32 × NS := if c < 0 then (0, n) else if 6 ≤ c then (0, n) else if n.2.2.2.1 c.toNatClampNeg = 0 then (1, (n.1, n.2.1, n.2.2.1, upd n.2.2.2.1 c.toNatClampNeg 1, upd n.2.2.2.2.1 c.toNatClampNeg t, upd n.2.2.2.2.2.1 c.toNatClampNeg d, n.2.2.2.2.2.2)) else (0, n)
def ns_ans (n : NS) (c y : Int32) : Int32 × NS := if c < 0 then (0, n) else if 6 ≤ c then (0, n) else if n.2.2.2.1 c.toNatClampNeg = 1 then (1, (n.1, n.2.1, n.2.2.1, upd n.2.2.2.1 c.toNatClampNeg (if y = 0 then 3 else 2), n.2.2.2.2.1, n.2.2.2.2.2.1, n.2.2.2.2.2.2)) else (0, n)
def ns_sil (n : NS) (t : Int32) : Nat × NS := ((sp_sil n.2.2.2.2.1 n.2.2.2.2.2.1 t n.2.2.2.1 6).2, (n.1, n.2.1, n.2.2.1, (sp_sil n.2.2.2.2.1 n.2.2.2.2.2.1 t n.2.2.2.1 6).1, n.2.2.2.2.1, n.2.2.2.2.2.1, n.2.2.2.2.2.2))
def ns_bank (n : NS) (c : Int64) : NS := (n.1, n.2.1, n.2.2.1, n.2.2.2.1, n.2.2.2.2.1, n.2.2.2.2.2.1, n.2.2.2.2.2.2 + c)
def ms_ent (m : MS) (s t : Int32) : MS := (m.1, m.2.1, m.2.2.1, m.2.2.2.1, m.2.2.2.2.1, s, t, m.2.2.2.2.2.2.2)
def ms_mark (m : MS) : MS := (m.1, m.2.1, m.2.2.1, m.2.2.2.1, m.2.2.2.2.1, m.2.2.2.2.2.1, m.2.2.2.2.2.2.1, 1)
def ms_addc (m : MS) (c : Int32) : Int32 × MS := if 6 ≤ m.2.2.2.2.1 then (-1, m) else if sp_back m.2.2.2.1 m.2.2.2.2.1 0 = c then (-1, m) else (nI (m.2.2.2.2.1 + 1), (m.1, m.2.1, m.2.2.1, upd m.2.2.2.1 m.2.2.2.2.1 c, m.2.2.2.2.1 + 1, m.2.2.2.2.2.1, m.2.2.2.2.2.2.1, m.2.2.2.2.2.2.2))
theorem ns_ask_01 (n : NS) (c d t : Int32) : (ns_ask n c d t).1 = 0 ∨ (ns_ask n c d t).1 = 1 := by
  unfold ns_ask
  split
  · exact Or.inl rfl
  · split
    · exact Or.inl rfl
    · split
      · exact Or.inr rfl
      · exact Or.inl rfl
theorem ns_ans_01 (n : NS) (c y : Int32) : (ns_ans n c y).1 = 0 ∨ (ns_ans n c y).1 = 1 := by
  unfold ns_ans
  split
  · exact Or.inl rfl
  · split
    · exact Or.inl rfl
    · split
      · exact Or.inr rfl
      · exact Or.inl rfl
section CSP
variable {cs : Nat → ClassId} {L : List Nat} {f : Nat → va_E} {ad : Nat → Nat} {t lm : Int32} {nN nM : Nat} {ns : Nat → NS} {ms : Nat → MS} {rt : Nat → Int32} {pg : sp_P}
theorem PS.ask (h : PS cs L f ad t lm nN nM ns ms rt pg) {i : Nat} (hi : i < nN) (c d t' : Int32) : (sp_ask f cs (ad (9 + 4 * i)) (ad (10 + 4 * i)) (ad (11 + 4 * i)) (ns i).2.2.2.1 (ns i).2.2.2.2.1 (ns i).2.2.2.2.2.1 c d t').1 = (ns_ask (ns i) c d t').1 ∧ PS cs L (sp_ask f cs (ad (9 + 4 * i)) (ad (10 + 4 * i)) (ad (11 + 4 * i)) (ns i).2.2.2.1 (ns i).2.2.2.2.1 (ns i).2.2.2.2.2.1 c d t').2 ad t lm nN nM (va_up ns i (ns_ask (ns i) c d t').2) ms rt pg := by
  have same : PS cs L f ad t lm nN nM (va_up ns i (ns i)) ms rt pg := by rw [va_up_same]; exact h
  unfold sp_ask ns_ask
  by_cases c1 : c < 0
  · rw [if_pos c1, if_pos c1]; exact ⟨rfl, same⟩
  rw [if_neg c1, if_neg c1]
  by_cases c2 : 6 ≤ c
  · rw [if_pos c2, if_pos c2]; exact ⟨rfl, same⟩
  rw [if_neg c2, if_neg c2]
  by_cases c3 : (ns i).2.2.2.1 c.toNatClampNeg = 0
  · rw [if_pos c3, if_pos c3]
    obtain ⟨⟨a, b, c', d'⟩, ⟨a1, b1, c1', d1⟩, n12, n13, n23⟩ := h.nt hi
    refine ⟨rfl, h.notice hi (fun r hr hb => ?_) ⟨⟨a, b, c', d'⟩, ⟨?_, ?_, ?_, va_up_self _ _ _⟩, n12, n13, n23⟩⟩
    · dsimp only
      rw [va_up_ne _ _ (h.ne hr (show ps_use nN nM (11 + 4 * i) from Or.inr (Or.inl ⟨by omega, by omega⟩)) (by omega)), va_up_ne _ _ (h.ne hr (show ps_use nN nM (10 + 4 * i) from Or.inr (Or.inl ⟨by omega, by omega⟩)) (by omega)), va_up_ne _ _ (h.ne hr (show ps_use nN nM (9 + 4 * i) from Or.inr (Or.inl ⟨by omega, by omega⟩)) (by omega))]
    · dsimp only
      rw [va_up_ne _ _ (pe_ro a1 d1), va_up_ne _ _ (pe_ro a1 c1'), va_up_ne _ _ (pe_ro a1 b1)]
      exact a1
    · dsimp only
      rw [va_up_ne _ _ n13, va_up_ne _ _ n12, va_up_self]
    · dsimp only
      rw [va_up_ne _ _ n23, va_up_self]
  · rw [if_neg c3, if_neg c3]; exact ⟨rfl, same⟩
theorem PS.an (h : PS cs L f ad t lm nN nM ns ms rt pg) {i : Nat} (hi : i < nN) (g : Nat → Int32) : PS cs L (va_up f (ad (9 + 4 * i)) (.inl (cs 0, 6, .inl g))) ad t lm nN nM (va_up ns i ((ns i).1, (ns i).2.1, (ns i).2.2.1, g, (ns i).2.2.2.2.1, (ns i).2.2.2.2.2.1, (ns i).2.2.2.2.2.2)) ms rt pg := by
  obtain ⟨⟨a, b, c', d'⟩, ⟨a1, b1, c1', d1⟩, n12, n13, n23⟩ := h.nt hi
  refine h.notice hi (fun r hr hb => va_up_ne _ _ (h.ne hr (show ps_use nN nM (9 + 4 * i) from Or.inr (Or.inl ⟨by omega, by omega⟩)) (by omega))) ⟨⟨a, b, c', d'⟩, ⟨?_, va_up_self _ _ _, ?_, ?_⟩, n12, n13, n23⟩
  · rw [va_up_ne _ _ (pe_ro a1 b1)]; exact a1
  · rw [va_up_ne _ _ n12.symm]; exact c1'
  · rw [va_up_ne _ _ n13.symm]; exact d1
theorem PS.ans (h : PS cs L f ad t lm nN nM ns ms rt pg) {i : Nat} (hi : i < nN) (c y : Int32) : (sp_answer f cs (ad (9 + 4 * i)) (ns i).2.2.2.1 c y).1 = (ns_ans (ns i) c y).1 ∧ PS cs L (sp_answer f cs (ad (9 + 4 * i)) (ns i).2.2.2.1 c y).2 ad t lm nN nM (va_up ns i (ns_ans (ns i) c y).2) ms rt pg := by
  have same : PS cs L f ad t lm nN nM (va_up ns i (ns i)) ms rt pg := by rw [va_up_same]; exact h
  unfold sp_answer ns_ans
  by_cases c1 : c < 0
  · rw [if_pos c1, if_pos c1]; exact ⟨rfl, same⟩
  rw [if_neg c1, if_neg c1]
  by_cases c2 : 6 ≤ c
  · rw [if_pos c2, if_pos c2]; exact ⟨rfl, same⟩
  rw [if_neg c2, if_neg c2]
  by_cases c3 : (ns i).2.2.2.1 c.toNatClampNeg = 1
  · rw [if_pos c3, if_pos c3]
    exact ⟨rfl, h.an hi _⟩
  · rw [if_neg c3, if_neg c3]; exact ⟨rfl, same⟩
theorem PS.sil (h : PS cs L f ad t lm nN nM ns ms rt pg) {i : Nat} (hi : i < nN) (t' : Int32) : PS cs L (va_up f (ad (9 + 4 * i)) (.inl (cs 0, 6, .inl (sp_sil (ns i).2.2.2.2.1 (ns i).2.2.2.2.2.1 t' (ns i).2.2.2.1 6).1))) ad t lm nN nM (va_up ns i (ns_sil (ns i) t').2) ms rt pg := h.an hi _
theorem PS.cents (h : PS cs L f ad t lm nN nM ns ms rt pg) {i : Nat} (hi : i < nN) (c : Int64) : PS cs L (va_up f (ad (8 + 4 * i)) (.inr (1, [.long (ns i).1, .int (ns i).2.1, .int (ns i).2.2.1, .ref (ad (9 + 4 * i)), .ref (ad (10 + 4 * i)), .ref (ad (11 + 4 * i)), .long ((ns i).2.2.2.2.2.2 + c)]))) ad t lm nN nM (va_up ns i (ns_bank (ns i) c)) ms rt pg := by
  obtain ⟨⟨a, b, c', d'⟩, ⟨a1, b1, c1', d1⟩, n12, n13, n23⟩ := h.nt hi
  refine h.notice hi (fun r hr hb => va_up_ne _ _ (h.ne hr (show ps_use nN nM (8 + 4 * i) from Or.inr (Or.inl ⟨by omega, by omega⟩)) (by omega))) ⟨⟨a, b, c', d'⟩, ⟨va_up_self _ _ _, ?_, ?_, ?_⟩, n12, n13, n23⟩
  · rw [va_up_ne _ _ (pe_ro a1 b1).symm]; exact b1
  · rw [va_up_ne _ _ (pe_ro a1 c1').symm]; exact c1'
  · rw [va_up_ne _ _ (pe_ro a1 d1).symm]; exact d1
/-- a move's own numbers change -/
theorem PS.mobj (h : PS cs L f ad t lm nN nM ns ms rt pg) {j : Nat} (hj : j < nM) (s' t' k' : Int32) : PS cs L (va_up f (ad (32 + 2 * j)) (.inr (0, [.int (ms j).1, .long (ms j).2.1, .int (ms j).2.2.1, .ref (ad (33 + 2 * j)), .int (nI (ms j).2.2.2.2.1), .int s', .int t', .int k']))) ad t lm nN nM ns (va_up ms j ((ms j).1, (ms j).2.1, (ms j).2.2.1, (ms j).2.2.2.1, (ms j).2.2.2.2.1, s', t', k')) rt pg := by
  obtain ⟨⟨⟨a, b⟩, a1, b1⟩, x⟩ := h.mv hj
  refine h.move hj (fun r hr hb => va_up_ne _ _ (h.ne hr (show ps_use nN nM (32 + 2 * j) from Or.inr (Or.inr ⟨by omega, by omega⟩)) (by omega))) ⟨⟨⟨a, b⟩, va_up_self _ _ _, ?_⟩, x⟩
  rw [va_up_ne _ _ (pe_ro a1 b1).symm]; exact b1
theorem PS.addc (h : PS cs L f ad t lm nN nM ns ms rt pg) {j : Nat} (hj : j < nM) (c : Int32) : (sp_addc f cs (ad (32 + 2 * j)) (ad (33 + 2 * j)) (ms j).1 (ms j).2.1 (ms j).2.2.1 (ms j).2.2.2.1 (ms j).2.2.2.2.1 (ms j).2.2.2.2.2.1 (ms j).2.2.2.2.2.2.1 (ms j).2.2.2.2.2.2.2 c).1 = (ms_addc (ms j) c).1 ∧ PS cs L (sp_addc f cs (ad (32 + 2 * j)) (ad (33 + 2 * j)) (ms j).1 (ms j).2.1 (ms j).2.2.1 (ms j).2.2.2.1 (ms j).2.2.2.2.1 (ms j).2.2.2.2.2.1 (ms j).2.2.2.2.2.2.1 (ms j).2.2.2.2.2.2.2 c).2 ad t lm nN nM ns (va_up ms j (ms_addc (ms j) c).2) rt pg := by
  have same : PS cs L f ad t lm nN nM ns (va_up ms j (ms j)) rt pg := by rw [va_up_same]; exact h
  unfold sp_addc ms_addc
  by_cases c1 : 6 ≤ (ms j).2.2.2.2.1
  · rw [if_pos c1, if_pos c1]; exact ⟨rfl, same⟩
  rw [if_neg c1, if_neg c1]
  by_cases c2 : sp_back (ms j).2.2.2.1 (ms j).2.2.2.2.1 0 = c
  · rw [if_pos c2, if_pos c2]; exact ⟨rfl, same⟩
  rw [if_neg c2, if_neg c2]
  obtain ⟨⟨⟨a, b⟩, a1, b1⟩, x⟩ := h.mv hj
  refine ⟨rfl, h.move hj (fun r hr hb => ?_) ⟨⟨⟨a, b⟩, va_up_self _ _ _, ?_⟩, (by show (ms j).2.2.2.2.1 + 1 ≤ 6; omega)⟩⟩
  · dsimp only
    rw [va_up_ne _ _ (h.ne hr (show ps_use nN nM (32 + 2 * j) from Or.inr (Or.inr ⟨by omega, by omega⟩)) (by omega)), va_up_ne _ _ (h.ne hr (show ps_use nN nM (33 + 2 * j) from Or.inr (Or.inr ⟨by omega, by omega⟩)) (by omega))]
  · dsimp only
    rw [va_up_ne _ _ (pe_ro a1 b1).symm, va_up_self]
end CSP
-- what the calls answer and leave
def sC_dn (a : Int32) (ns : Nat → NS) : Nat → Int32 × (Nat → NS)
  | 0 => (0, ns)
  | k + 1 => ((sC_dn a ns k).1 + nI (ns_sil ((sC_dn a ns k).2 k) a).1, va_up (sC_dn a ns k).2 k (ns_sil ((sC_dn a ns k).2 k) a).2)
def sC_day (x : CST) (a : Int32) : Int32 × CST := if a < x.1 then (-1, x) else if a ≤ 100000 then ((sC_dn a x.2.2.2.2.1 x.2.2.1).1, (a, x.2.1, x.2.2.1, x.2.2.2.1, (sC_dn a x.2.2.2.2.1 x.2.2.1).2, x.2.2.2.2.2.1, x.2.2.2.2.2.2)) else (-1, x)
def sC_notice (x : CST) (g : Int64) (fr to : Int32) : Int32 × CST := if 6 ≤ x.2.2.1 then (-1, x) else if g < 1 then (-1, x) else if g ≤ 1000000000 then (if fr < 0 then (-1, x) else if to < fr then (-1, x) else if to ≤ 100000 then (nI x.2.2.1, (x.1, x.2.1, x.2.2.1 + 1, x.2.2.2.1, va_up x.2.2.2.2.1 x.2.2.1 (g, fr, to, fun _ => 0, fun _ => 0, fun _ => 0, 0), x.2.2.2.2.2.1, x.2.2.2.2.2.2)) else (-1, x)) else (-1, x)
def sC_country (x : CST) (n c d : Int32) : Int32 × CST := match ix x.2.2.1 n with
  | none => (0, x)
  | some i => if d < 0 then (0, x) else if d ≤ 1000 then ((ns_ask (x.2.2.2.2.1 i) c d x.1).1, (x.1, x.2.1, x.2.2.1, x.2.2.2.1, va_up x.2.2.2.2.1 i (ns_ask (x.2.2.2.2.1 i) c d x.1).2, x.2.2.2.2.2.1, x.2.2.2.2.2.2)) else (0, x)
def sC_says (x : CST) (n c y : Int32) : Int32 × CST := match ix x.2.2.1 n with
  | none => (0, x)
  | some i => ((ns_ans (x.2.2.2.2.1 i) c y).1, (x.1, x.2.1, x.2.2.1, x.2.2.2.1, va_up x.2.2.2.2.1 i (ns_ans (x.2.2.2.2.1 i) c y).2, x.2.2.2.2.2.1, x.2.2.2.2.2.2))
def sC_move (x : CST) (n : Int32) (g : Int64) (d : Int32) : Int32 × CST := match ix x.2.2.1 n with
  | none => (-1, x)
  | some i => if 12 ≤ x.2.2.2.1 then (-1, x) else if 1 ≤ g then (if sp_covers (x.2.2.2.2.1 i).2.1 (x.2.2.2.2.1 i).2.2.1 d = 0 then (-1, x) else if x.1 + 3 ≤ d then (if sp_state (x.2.2.2.2.1 i).2.2.2.1 (x.2.2.2.2.1 i).2.2.1 x.1 = 1 then (if g ≤ (x.2.2.2.2.1 i).1 - sC_gim x.2.2.2.2.2.1 n x.2.2.2.1 then (nI x.2.2.2.1, (x.1, x.2.1, x.2.2.1, x.2.2.2.1 + 1, x.2.2.2.2.1, va_up x.2.2.2.2.2.1 x.2.2.2.1 (n, g, d, fun _ => 0, 0, 0, x.1, 0), x.2.2.2.2.2.2)) else (-3, x)) else (-2, x)) else (-1, x)) else (-1, x)
def sC_right (x : CST) (p e o : Int32) : Int32 × CST := match ix 8 p with
  | none => (0, x)
  | some a => match ix 5 e with
    | none => (0, x)
    | some b => (1, (x.1, x.2.1, x.2.2.1, x.2.2.2.1, x.2.2.2.2.1, x.2.2.2.2.2.1, upd x.2.2.2.2.2.2 (a * 5 + b) (vp_nar .boolean o)))
def sC_evR (x : CST) (j : Nat) (s : Int32) : Int32 × CST := (s, (x.1, x.2.1, x.2.2.1, x.2.2.2.1, x.2.2.2.2.1, va_up x.2.2.2.2.2.1 j (ms_ent (x.2.2.2.2.2.1 j) s x.1), x.2.2.2.2.2.2))
def sC_ev2 (x : CST) (j : Nat) (e s : Int32) : Int32 × CST := if e = 2 then (if m_mk (x.2.2.2.2.2.1 j) = 0 then (-5, x) else sC_evR x j s) else sC_evR x j s
def sC_event (x : CST) (m e p : Int32) : Int32 × CST := match ix x.2.2.2.1 m with
  | none => (-1, x)
  | some j => match ix 5 e with
    | none => (-1, x)
    | some _ => match ix 8 p with
      | none => (-1, x)
      | some _ => if sC_may x.2.2.2.2.2.2 p e = 0 then (-2, x) else if sC_next e (m_st (x.2.2.2.2.2.1 j)) = -1 then (-3, x) else if e = 0 then (if sC_can x.1 x.2.2.1 x.2.2.2.2.1 (x.2.2.2.2.2.1 j) = 0 then (-4, x) else sC_ev2 x j e (sC_next e (m_st (x.2.2.2.2.2.1 j)))) else sC_ev2 x j e (sC_next e (m_st (x.2.2.2.2.2.1 j)))
def sC_mark (x : CST) (m a b : Int32) : Int32 × CST := match ix x.2.2.2.1 m with
  | none => (0, x)
  | some j => if m_st (x.2.2.2.2.2.1 j) = 2 then (if m_mk (x.2.2.2.2.2.1 j) = 0 then (if a = b then (0, x) else if sC_may x.2.2.2.2.2.2 a 2 = 0 then (0, x) else if sC_may x.2.2.2.2.2.2 b 2 = 0 then (0, x) else (1, (x.1, x.2.1, x.2.2.1, x.2.2.2.1, x.2.2.2.2.1, va_up x.2.2.2.2.2.1 j (ms_mark (x.2.2.2.2.2.1 j)), x.2.2.2.2.2.2))) else (0, x)) else (0, x)
def sC_bank (x : CST) (n : Int32) (c : Int64) : Int32 × CST := match ix x.2.2.1 n with
  | none => (0, x)
  | some i => if c < 1 then (0, x) else if c ≤ 1000000000 then (if n_ct (x.2.2.2.2.1 i) + c ≤ 10000000000 then (1, (x.1, x.2.1, x.2.2.1, x.2.2.2.1, va_up x.2.2.2.2.1 i (ns_bank (x.2.2.2.2.1 i) c), x.2.2.2.2.2.1, x.2.2.2.2.2.2)) else (0, x)) else (0, x)
def sC_limit (x : CST) (d : Int32) : Int32 × CST := if d < 0 then (0, x) else if d ≤ 1000 then (1, (x.1, d, x.2.2.1, x.2.2.2.1, x.2.2.2.2.1, x.2.2.2.2.2.1, x.2.2.2.2.2.2)) else (0, x)
def sC_carrier (x : CST) (m c : Int32) : Int32 × CST := match ix x.2.2.2.1 m with
  | none => (-1, x)
  | some j => if m_st (x.2.2.2.2.2.1 j) = 1 then (if c < 0 then (-1, x) else if c < 100 then ((ms_addc (x.2.2.2.2.2.1 j) c).1, (x.1, x.2.1, x.2.2.1, x.2.2.2.1, x.2.2.2.2.1, va_up x.2.2.2.2.2.1 j (ms_addc (x.2.2.2.2.2.1 j) c).2, x.2.2.2.2.2.2)) else (-1, x)) else (-1, x)
