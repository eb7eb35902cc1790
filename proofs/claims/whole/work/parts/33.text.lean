/-! The printed paper: its text, as both write it -/
def tC_head (t : Int32) (i : Nat) (n : NS) : List Int32 := tx_head i n.1.toNatClampNeg n.2.1.toNatClampNeg n.2.2.1.toNatClampNeg (sp_state n.2.2.2.1 n.2.2.1 t).toNatClampNeg
def tC_moves (ms : Nat → MS) (n : Int32) : Nat → List Int32
  | 0 => []
  | k + 1 => tC_moves ms n k ++ (if (ms k).1 = n then tx_move k (ms k).2.1.toNatClampNeg (sp_letter (ms k).2.2.2.2.2.1) else [])
def tC_text (t : Int32) (nM : Nat) (ns : Nat → NS) (ms : Nat → MS) (n : Int32) (i : Nat) : List Int32 := tC_head t i (ns i) ++ tC_moves ms n nM
def sC_print (t : Int32) (nN nM : Nat) (ns : Nat → NS) (ms : Nat → MS) (row : Nat → Int32) (n k : Int32) : Int32 := match ix nN n with
  | none => -1
  | some i => if k < 0 then -1 else sp_byte (sp_adds (0, row) (tC_text t nM ns ms n i)).1 (sp_adds (0, row) (tC_text t nM ns ms n i)).2 k
def tR_head (t : Int32) (A : RA) (B : RB) (i : Nat) : List Int32 := tx_head i (B 1 i).toNatClampNeg (A 2 i).toNatClampNeg (A 3 i).toNatClampNeg (sR_stt A t i).toNatClampNeg
def tR_moves (A : RA) (B : RB) (n : Int32) : Nat → List Int32
  | 0 => []
  | k + 1 => tR_moves A B n k ++ (if A 9 k = n then tx_move k (B 10 k).toNatClampNeg (sR_let (A 12 k)) else [])
def sR_print (t : Int32) (nN nM : Nat) (A : RA) (B : RB) (n k : Int32) : Int32 := match ix nN n with
  | none => -1
  | some i => if k < 0 then -1 else (sR_puts (k, -1) (tR_head t A B i ++ tR_moves A B n nM)).2
theorem sp_adds_app (p : sp_P) (a b : List Int32) : sp_adds p (a ++ b) = sp_adds (sp_adds p a) b := List.foldl_append
theorem sR_puts_app (p : sR_P) (a b : List Int32) : sR_puts p (a ++ b) = sR_puts (sR_puts p a) b := List.foldl_append
theorem sp_dig_tx (v : Nat) : ∀ (k : Nat) (b : Bool) (p : sp_P), sp_dig v k b p = sp_adds p (tx_num v k b)
  | 0, _, _ => rfl
  | k + 1, b, p => by
    unfold sp_dig tx_num
    by_cases c : b = true ∨ ¬ v / 10 ^ k % 10 = 0 ∨ k = 0
    · rw [if_pos c, if_pos c, sp_dig_tx v k]; rfl
    · rw [if_neg c, if_neg c, sp_dig_tx v k]
theorem sp_adds_le : ∀ (l : List Int32) (p : sp_P), p.1 ≤ 208 → (sp_adds p l).1 ≤ 208
  | [], _, h => h
  | c :: l, p, h => sp_adds_le l (sp_add p c) (sp_add_le p c h)
-- lengths
theorem tx_len (v : Nat) : ∀ (k : Nat) (b : Bool), (tx_num v k b).length ≤ k
  | 0, _ => Nat.le_refl _
  | k + 1, b => by
    unfold tx_num
    split
    · exact Nat.succ_le_succ (tx_len v k true)
    · exact Nat.le_succ_of_le (tx_len v k false)
theorem tx_lenD {v d : Nat} (h0 : 1 ≤ d) (hv : v < 10 ^ d) : ∀ k, d ≤ k → (tx_num v k false).length ≤ d
  | 0, h => by omega
  | k + 1, h => by
    by_cases e : d = k + 1
    · rw [e]; exact tx_len v _ _
    · have hk : d ≤ k := by omega
      have hz : v / 10 ^ k = 0 := Nat.div_eq_of_lt (Nat.lt_of_lt_of_le hv (Nat.pow_le_pow_right (by decide) hk))
      unfold tx_num
      rw [if_neg (by rw [hz]; simp; omega)]
      exact tx_lenD h0 hv k hk
theorem tx_nlen {v d : Nat} (h0 : 1 ≤ d) (h1 : d ≤ 10) (hv : v < 10 ^ d) : (tx_n v).length ≤ d := tx_lenD h0 hv 10 h1
-- bytes
def tx_ok (l : List Int32) : Prop := ∀ c ∈ l, c.toInt8.toInt32 = c
theorem tx_ok_app {a b : List Int32} (ha : tx_ok a) (hb : tx_ok b) : tx_ok (a ++ b) := fun c hc => (List.mem_append.mp hc).elim (ha c) (hb c)
theorem tx_ok_cons {c : Int32} {l : List Int32} (h : c.toInt8.toInt32 = c) (hl : tx_ok l) : tx_ok (c :: l) := fun d hd => (List.mem_cons.mp hd).elim (fun e => by rw [e]; exact h) (hl d)
theorem tx_ok_nil : tx_ok [] := fun c hc => absurd hc (List.not_mem_nil)
theorem byte_ok : ∀ n, n < 128 → (nI n).toInt8.toInt32 = nI n := by decide +kernel
theorem tx_num_ok (v : Nat) : ∀ (k : Nat) (b : Bool), tx_ok (tx_num v k b)
  | 0, _ => tx_ok_nil
  | k + 1, b => by
    unfold tx_num
    split
    · exact tx_ok_cons (byte_ok _ (by have := Nat.mod_lt (v / 10 ^ k) (show 0 < 10 by decide); omega)) (tx_num_ok v k true)
    · exact tx_num_ok v k false
theorem tx_n_ok (v : Nat) : tx_ok (tx_n v) := tx_num_ok v 10 false
theorem tx_head_ok (i g a b s : Nat) : tx_ok (tx_head i g a b s) :=
  tx_ok_app (tx_ok_app (tx_ok_app (tx_ok_app (tx_n_ok i) (tx_ok_cons (by decide) (tx_n_ok g))) (tx_ok_cons (by decide) (tx_n_ok a))) (tx_ok_cons (by decide) (tx_n_ok b))) (tx_ok_cons (by decide) (tx_n_ok s))
theorem tx_move_ok (j g : Nat) {l : Int32} (h : l.toInt8.toInt32 = l) : tx_ok (tx_move j g l) :=
  tx_ok_app (tx_ok_app (tx_ok_cons (by decide) (tx_n_ok j)) (tx_ok_cons (by decide) (tx_n_ok g))) (tx_ok_cons h tx_ok_nil)
theorem tx_head_len {i g a b s : Nat} (h1 : i < 10) (h2 : g < 10 ^ 10) (h3 : a < 10 ^ 6) (h4 : b < 10 ^ 6) (h5 : s < 10) : (tx_head i g a b s).length ≤ 28 := by
  have e1 := tx_nlen (v := i) (d := 1) (by decide) (by decide) (by omega)
  have e2 := tx_nlen (v := g) (d := 10) (by decide) (by decide) h2
  have e3 := tx_nlen (v := a) (d := 6) (by decide) (by decide) h3
  have e4 := tx_nlen (v := b) (d := 6) (by decide) (by decide) h4
  have e5 := tx_nlen (v := s) (d := 1) (by decide) (by decide) (by omega)
  unfold tx_head
  simp only [List.length_append, List.length_cons]
  omega
theorem tx_move_len {j g : Nat} {l : Int32} (h1 : j < 100) (h2 : g < 10 ^ 10) : (tx_move j g l).length ≤ 15 := by
  have e1 := tx_nlen (v := j) (d := 2) (by decide) (by decide) (by omega)
  have e2 := tx_nlen (v := g) (d := 10) (by decide) (by decide) h2
  unfold tx_move
  simp only [List.length_append, List.length_cons, List.length_nil]
  omega
-- the row
theorem adds_row : ∀ (l : List Int32) (n : Nat) (row : Nat → Int32), n + l.length ≤ 208 → tx_ok l → (sp_adds (n, row) l).1 = n + l.length ∧ ∀ k, (sp_adds (n, row) l).2 k = if n ≤ k ∧ k < n + l.length then l.getD (k - n) 0 else row k
  | [], n, row, _, _ => ⟨rfl, fun k => by rw [if_neg (by simp only [List.length_nil]; omega)]; rfl⟩
  | c :: l, n, row, h, ho => by
    have hl : (c :: l).length = l.length + 1 := rfl
    have e : sp_adds (n, row) (c :: l) = sp_adds (n + 1, upd row n c) l := by
      show sp_adds (sp_add (n, row) c) l = _
      unfold sp_add
      rw [if_pos (show n < 208 by omega), ho c (List.mem_cons_self ..)]
    obtain ⟨h1, h2⟩ := adds_row l (n + 1) (upd row n c) (by omega) (fun d hd => ho d (List.mem_cons_of_mem _ hd))
    rw [e]
    refine ⟨by rw [h1]; omega, fun k => ?_⟩
    rw [h2 k]
    by_cases c1 : k = n
    · subst c1
      rw [if_neg (by omega), if_pos (by omega), Nat.sub_self]
      simp [upd]
    · by_cases c2 : n ≤ k ∧ k < n + (c :: l).length
      · rw [if_pos c2, if_pos (by omega), show k - n = (k - (n + 1)) + 1 by omega]
        rfl
      · rw [if_neg c2, if_neg (by omega)]
        simp [upd, c1]
-- the count down
theorem puts_neg : ∀ (l : List Int32) (k : Nat) (v : Int32), k + l.length < 1000 → (sR_puts (0 - nI (k + 1), v) l).2 = v
  | [], _, _, _ => rfl
  | c :: l, k, v, h => by
    have hl : (c :: l).length = l.length + 1 := rfl
    have hne : ¬ (0 - nI (k + 1) : Int32) = 0 := fun z => by
      have z1 : (0 : Int32) = nI (k + 1) := by
        have := Int32.sub_eq_iff_eq_add.mp z
        rw [Int32.zero_add] at this
        exact this
      have := (nI_eq (a := 0) (b := k + 1) (by decide) (by omega)).mp z1
      omega
    show (sR_puts (sR_put (0 - nI (k + 1), v) c) l).2 = v
    unfold sR_put
    rw [if_neg hne]
    have e : (0 - nI (k + 1) : Int32) - 1 = 0 - nI (k + 2) := by rw [Int32.sub_sub, ← nI_1 (k + 1)]
    dsimp only
    rw [e]
    exact puts_neg l (k + 1) v (by omega)
theorem puts_at : ∀ (l : List Int32) (r : Nat) (v : Int32), r < 2 ^ 31 → l.length < 1000 → (sR_puts (nI r, v) l).2 = if r < l.length then l.getD r 0 else v
  | [], r, v, _, _ => by rw [if_neg (by simp only [List.length_nil]; omega)]; rfl
  | c :: l, r, v, hr, h => by
    have hl : (c :: l).length = l.length + 1 := rfl
    show (sR_puts (sR_put (nI r, v) c) l).2 = _
    unfold sR_put
    by_cases e : r = 0
    · subst e
      rw [if_pos (show nI 0 = 0 from rfl), if_pos (by omega)]
      have e1 : (nI 0 - 1 : Int32) = 0 - nI (0 + 1) := rfl
      dsimp only
      rw [e1]
      exact puts_neg l 0 c (by omega)
    · have hne : ¬ nI r = 0 := fun z => e ((nI_eq (b := 0) hr (by decide)).mp z)
      rw [if_neg hne]
      have e1 : (nI r - 1 : Int32) = nI (r - 1) := nI_sb (a := r) (b := 1) (by omega)
      dsimp only
      rw [e1, puts_at l (r - 1) v (by omega) (by omega)]
      by_cases c1 : r - 1 < l.length
      · rw [if_pos c1, if_pos (by omega)]
        obtain ⟨q, rfl⟩ : ∃ q, r = q + 1 := ⟨r - 1, by omega⟩
        rfl
      · rw [if_neg c1, if_neg (by omega)]
theorem text_eq {l : List Int32} {row : Nat → Int32} (hl : l.length ≤ 208) (ho : tx_ok l) {k : Int32} (hk : ¬ k < 0) : sp_byte (sp_adds (0, row) l).1 (sp_adds (0, row) l).2 k = (sR_puts (k, -1) l).2 := by
  obtain ⟨h1, h2⟩ := adds_row l 0 row (by omega) ho
  obtain ⟨r, hr, rfl⟩ := nI_of hk
  rw [puts_at l r (-1) hr (by omega), h1]
  unfold sp_byte
  rw [if_neg hk, nI_clamp hr]
  by_cases c1 : r < l.length
  · rw [if_pos c1, if_pos (nI_lt (by omega) (by omega)), h2 r, if_pos (by omega)]; rfl
  · rw [if_neg c1, if_neg (nI_nlt (by omega) hr)]
theorem let_eq : ∀ s, s < 6 → sp_letter (nI s) = sR_let (nI s) ∧ (sR_let (nI s)).toInt8.toInt32 = sR_let (nI s) := by decide +kernel
section TXT
variable {t lm : Int32} {nN nM : Nat} {ns : Nat → NS} {ms : Nat → MS} {rt : Nat → Int32} {A : RA} {B : RB}
theorem tmv_eq (hR : REL t nN nM ns ms rt A B) (n : Int32) : ∀ k, k ≤ nM → tC_moves ms n k = tR_moves A B n k ∧ (tR_moves A B n k).length ≤ 15 * k ∧ tx_ok (tR_moves A B n k)
  | 0, _ => ⟨rfl, Nat.le_refl _, tx_ok_nil⟩
  | k + 1, hk => by
    obtain ⟨i1, i2, i3⟩ := tmv_eq hR n k (by omega)
    have hM := hR.1.2.1
    obtain ⟨⟨z1, -⟩, ⟨z2, g, z2', z2''⟩, -, -, ⟨z5, s, hs, z5'⟩, -⟩ := hR.2.2.1 k (by omega)
    obtain ⟨l1, l2⟩ := let_eq s (by omega)
    unfold tC_moves tR_moves
    rw [i1, z1, z2, z5, z5', l1]
    refine ⟨rfl, ?_, ?_⟩
    · have := tx_move_len (j := k) (g := (ms k).2.1.toNatClampNeg) (l := sR_let (nI s)) (by omega) (by rw [z2', lN_cl (by omega)]; omega)
      rw [List.length_append]
      split
      · omega
      · rw [List.length_nil]; omega
    · refine tx_ok_app i3 ?_
      split
      · exact tx_move_ok _ _ l2
      · exact tx_ok_nil
theorem state_lt (an : Nat → Int32) (to t : Int32) : ∃ s : Nat, s < 4 ∧ sp_state an to t = nI s := by
  unfold sp_state
  split
  · exact ⟨2, by decide, rfl⟩
  · split
    · exact ⟨3, by decide, rfl⟩
    · split
      · split
        · exact ⟨1, by decide, rfl⟩
        · exact ⟨0, by decide, rfl⟩
      · exact ⟨0, by decide, rfl⟩
theorem eq_print (hR : REL t nN nM ns ms rt A B) (row : Nat → Int32) (n k : Int32) : sC_print t nN nM ns ms row n k = sR_print t nN nM A B n k := by
  unfold sC_print sR_print
  have hN := hR.1.1
  have hM := hR.1.2.1
  rcases ix_cases (m := nN) (by omega) n with ⟨h, -⟩ | ⟨i, hi, -, h, -⟩ <;> rw [h]
  dsimp only
  by_cases c1 : k < 0
  · rw [if_pos c1, if_pos c1]
  rw [if_neg c1, if_neg c1]
  obtain ⟨⟨g, z1, z1', z1''⟩, z2, ⟨a, b, z3, z3', z3'', z3'''⟩, z4, z5, -, -, -⟩ := hR.2.1 i hi
  obtain ⟨m1, m2, m3⟩ := tmv_eq hR n nM (Nat.le_refl _)
  obtain ⟨s, hs, es⟩ := state_lt (ns i).2.2.2.1 (ns i).2.2.1 t
  have hh : tC_head t i (ns i) = tR_head t A B i := by
    unfold tC_head tR_head
    rw [z2, z4, z5, (hR.2.1 i hi).state]
  have hl : (tR_head t A B i).length ≤ 28 := by
    unfold tR_head
    rw [z2, z4, z5, (hR.2.1 i hi).state, es, z1, z3, z3', lN_cl (by omega), nI_clamp (by omega), nI_clamp (by omega), nI_clamp (by omega)]
    exact tx_head_len (by omega) (by omega) (by omega) (by omega) (by omega)
  unfold tC_text
  rw [hh, m1]
  exact text_eq (l := tR_head t A B i ++ tR_moves A B n nM) (by rw [List.length_append]; omega) (tx_ok_app (by unfold tR_head; exact tx_head_ok _ _ _ _ _) m3) c1
end TXT
-- the reference's digits
theorem tx_skip {v p : Nat} (hv : v < 10 ^ (p + 1)) (h0 : p = 0 ∨ 10 ^ p ≤ v) : ∀ k, p + 1 ≤ k → tx_num v k false = tx_num v (p + 1) true
  | 0, h => by omega
  | k + 1, h => by
    by_cases e : p = k
    · subst e
      unfold tx_num
      rw [if_pos (Or.inl rfl), if_pos]
      rcases h0 with h0 | h0
      · exact Or.inr (Or.inr h0)
      · refine Or.inr (Or.inl ?_)
        have h1 : 1 ≤ v / 10 ^ p := (Nat.le_div_iff_mul_le (Nat.pow_pos (by decide))).mpr (by omega)
        have h2 : v / 10 ^ p < 10 := (Nat.div_lt_iff_lt_mul (Nat.pow_pos (by decide))).mpr (by rw [Nat.mul_comm]; rw [Nat.pow_succ] at hv; exact (Nat.mul_comm _ _) ▸ hv)
        omega
    · have hz : v / 10 ^ k = 0 := Nat.div_eq_of_lt (Nat.lt_of_lt_of_le hv (Nat.pow_le_pow_right (by decide) (by omega)))
      rw [← tx_skip hv h0 k (by omega)]
      conv => lhs; unfold tx_num
      rw [if_neg (by rw [hz]; simp; omega)]
