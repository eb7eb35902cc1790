/-! THE RELATION between the class's value and the reference's, and that both answer alike -/
/-- one country of one notice -/
def RELc (t : Int32) (A : RA) (k : Nat) (a o d : Int32) : Prop :=
  (A 5 k = 0 ∧ a = 0) ∨ (A 5 k = 1 ∧ A 7 k = o ∧ A 6 k = d ∧ (∃ p q tt : Nat, o = nI p ∧ d = nI q ∧ t = nI tt ∧ p ≤ tt ∧ tt ≤ 100000 ∧ q ≤ 1000) ∧ ((A 8 k = 1 ∧ a = 2) ∨ (A 8 k = 2 ∧ a = 3) ∨ (A 8 k = 0 ∧ a = if t - o ≤ d then 1 else 2)))
def RELn (t : Int32) (A : RA) (B : RB) (i : Nat) (n : NS) : Prop :=
  (∃ g : Nat, n.1 = lN g ∧ 1 ≤ g ∧ g ≤ 1000000000) ∧ B 1 i = n.1 ∧ (∃ a b : Nat, n.2.1 = nI a ∧ n.2.2.1 = nI b ∧ a ≤ 100000 ∧ b ≤ 100000) ∧ A 2 i = n.2.1 ∧ A 3 i = n.2.2.1 ∧ (∃ c : Nat, n.2.2.2.2.2.2 = lN c ∧ c ≤ 10000000000) ∧ B 4 i = n.2.2.2.2.2.2 ∧
  ∀ c, c < 6 → RELc t A (6 * i + c) (n.2.2.2.1 c) (n.2.2.2.2.1 c) (n.2.2.2.2.2.1 c)
def RELm (nN : Nat) (A : RA) (B : RB) (j : Nat) (m : MS) : Prop :=
  (A 9 j = m.1 ∧ ∃ i, i < nN ∧ m.1 = nI i) ∧ (B 10 j = m.2.1 ∧ ∃ g : Nat, m.2.1 = lN g ∧ g ≤ 1000000000) ∧ A 11 j = m.2.2.1 ∧ (A 15 j = nI m.2.2.2.2.1 ∧ m.2.2.2.2.1 ≤ 6 ∧ ∀ k, k < m.2.2.2.2.1 → A 16 (6 * j + k) = m.2.2.2.1 k) ∧ (A 12 j = m.2.2.2.2.2.1 ∧ ∃ s : Nat, s ≤ 5 ∧ m.2.2.2.2.2.1 = nI s) ∧ A 13 j = m.2.2.2.2.2.2.1 ∧ A 14 j = m.2.2.2.2.2.2.2
/-- the grams that a notice's moves use, and those recovered -/
def sG (ms : Nat → MS) (n : Int32) : Nat → Nat
  | 0 => 0
  | k + 1 => sG ms n k + (if (ms k).1 = n then (if sp_uses (ms k).2.2.2.2.2.1 = 0 then 0 else (ms k).2.1.toNatClampNeg) else 0)
def sH (ms : Nat → MS) (n : Int32) : Nat → Nat
  | 0 => 0
  | k + 1 => sH ms n k + (if (ms k).1 = n then (if (ms k).2.2.2.2.2.1 = 3 then (ms k).2.1.toNatClampNeg else 0) else 0)
def REL (t : Int32) (nN nM : Nat) (ns : Nat → NS) (ms : Nat → MS) (rt : Nat → Int32) (A : RA) (B : RB) : Prop :=
  (nN ≤ 6 ∧ nM ≤ 12 ∧ ∃ tt : Nat, tt ≤ 100000 ∧ t = nI tt) ∧ (∀ i, i < nN → RELn t A B i (ns i)) ∧ (∀ j, j < nM → RELm nN A B j (ms j)) ∧ (∀ k, k < 40 → rt k = A 17 k) ∧
  ((∀ k, 6 * nN ≤ k → A 5 k = 0) ∧ (∀ i, nN ≤ i → B 4 i = 0) ∧ (∀ j, nM ≤ j → A 14 j = 0 ∧ A 15 j = 0)) ∧ (∀ i, i < nN → sG ms (nI i) nM ≤ (ns i).1.toNatClampNeg)
def RX (x : CST) (y : RST) : Prop := (y.1 = x.1 ∧ y.2.1 = x.2.1 ∧ y.2.2.1 = x.2.2.1 ∧ y.2.2.2.1 = x.2.2.2.1) ∧ REL x.1 x.2.2.1 x.2.2.2.1 x.2.2.2.2.1 x.2.2.2.2.2.1 x.2.2.2.2.2.2 y.2.2.2.2.1 y.2.2.2.2.2
def AG (r : Int32 × CST) (r' : Int32 × RST) : Prop := r.1 = r'.1 ∧ RX r.2 r'.2
theorem lN_tI {n : Nat} (h : n < 2 ^ 63) : (lN n).toInt = (n : Int) := Int64.toInt_ofNat_of_lt h
theorem lN_cl {n : Nat} (h : n < 2 ^ 63) : (lN n).toNatClampNeg = n := by
  show (lN n).toInt.toNat = n
  rw [lN_tI h]; rfl
theorem lN_of {x : Int64} (h : ¬ x < 0) : ∃ j : Nat, j < 2 ^ 63 ∧ x = lN j := by
  rw [Int64.lt_iff_toInt_lt] at h
  have h0 : (0 : Int64).toInt = 0 := by decide
  have hx := Int64.toInt_lt x
  refine ⟨x.toInt.toNat, by omega, Int64.toInt_inj.mp ?_⟩
  rw [lN_tI (by omega)]
  omega
theorem rA_eq (A : RA) (r k : Nat) (x : Int32) (r' k' : Nat) : rA A r k x r' k' = if r' = r then (if k' = k then x else A r k') else A r' k' := by
  unfold rA va_up upd
  by_cases h : r' = r <;> simp [h]
theorem rB_eq (B : RB) (r k : Nat) (x : Int64) (r' k' : Nat) : rB B r k x r' k' = if r' = r then (if k' = k then x else B r k') else B r' k' := by
  unfold rB va_up vp_updL
  by_cases h : r' = r <;> simp [h]
theorem rA_o {A : RA} {r k : Nat} {x : Int32} {r' k' : Nat} (h : r' ≠ r ∨ k' ≠ k) : rA A r k x r' k' = A r' k' := by
  rw [rA_eq]
  by_cases h1 : r' = r
  · have h2 : ¬ k' = k := by omega
    rw [if_pos h1, if_neg h2, h1]
  · rw [if_neg h1]
theorem rA_s {A : RA} {r k : Nat} {x : Int32} : rA A r k x r k = x := by rw [rA_eq]; simp
theorem rB_o {B : RB} {r k : Nat} {x : Int64} {r' k' : Nat} (h : r' ≠ r ∨ k' ≠ k) : rB B r k x r' k' = B r' k' := by
  rw [rB_eq]
  by_cases h1 : r' = r
  · have h2 : ¬ k' = k := by omega
    rw [if_pos h1, if_neg h2, h1]
  · rw [if_neg h1]
theorem rB_s {B : RB} {r k : Nat} {x : Int64} : rB B r k x r k = x := by rw [rB_eq]; simp
theorem RELc.kept {t : Int32} {A A' : RA} {k : Nat} {a o d : Int32} (h : RELc t A k a o d) (hA : ∀ r, 5 ≤ r → r ≤ 8 → A' r k = A r k) : RELc t A' k a o d := by
  unfold RELc at *
  rw [hA 5 (by decide) (by decide), hA 6 (by decide) (by decide), hA 7 (by decide) (by decide), hA 8 (by decide) (by decide)]
  exact h
theorem RELn.kept {t : Int32} {A A' : RA} {B B' : RB} {i : Nat} {n : NS} (h : RELn t A B i n) (h2 : A' 2 i = A 2 i) (h3 : A' 3 i = A 3 i) (b1 : B' 1 i = B 1 i) (b4 : B' 4 i = B 4 i) (hA : ∀ r, 5 ≤ r → r ≤ 8 → ∀ c, c < 6 → A' r (6 * i + c) = A r (6 * i + c)) : RELn t A' B' i n := by
  obtain ⟨x1, x2, x3, x4, x5, x6, x7, x8⟩ := h
  exact ⟨x1, b1.trans x2, x3, h2.trans x4, h3.trans x5, x6, b4.trans x7, fun c hc => (x8 c hc).kept (fun r h1 h2 => hA r h1 h2 c hc)⟩
theorem RELm.kept {nN nN' : Nat} {A A' : RA} {B B' : RB} {j : Nat} {m : MS} (h : RELm nN A B j m) (hN : nN ≤ nN') (hA : ∀ r, 9 ≤ r → r ≤ 15 → A' r j = A r j) (b : B' 10 j = B 10 j) (hc : ∀ k, k < 6 → A' 16 (6 * j + k) = A 16 (6 * j + k)) : RELm nN' A' B' j m := by
  obtain ⟨⟨x1, i, hi, x2⟩, ⟨x3, x4⟩, x5, ⟨x6, x7, x8⟩, ⟨x9, x10⟩, x11, x12⟩ := h
  exact ⟨⟨(hA 9 (by decide) (by decide)).trans x1, i, by omega, x2⟩, ⟨b.trans x3, x4⟩, (hA 11 (by decide) (by decide)).trans x5, ⟨(hA 15 (by decide) (by decide)).trans x6, x7, fun k hk => (hc k (by omega)).trans (x8 k hk)⟩, ⟨(hA 12 (by decide) (by decide)).trans x9, x10⟩, (hA 13 (by decide) (by decide)).trans x11, (hA 14 (by decide) (by decide)).trans x12⟩
section AGS
variable {t lm : Int32} {nN nM : Nat} {ns : Nat → NS} {ms : Nat → MS} {rt : Nat → Int32} {A : RA} {B : RB}
theorem RX.unf {x : CST} {y : RST} (h : RX x y) : ∃ t lm nN nM ns ms rt A B, x = (t, lm, nN, nM, ns, ms, rt) ∧ y = (t, lm, nN, nM, A, B) ∧ REL t nN nM ns ms rt A B := by
  obtain ⟨t, lm, nN, nM, ns, ms, rt⟩ := x
  obtain ⟨t', lm', nN', nM', A, B⟩ := y
  obtain ⟨⟨h1, h2, h3, h4⟩, h5⟩ := h
  dsimp only at h1 h2 h3 h4 h5
  subst h1; subst h2; subst h3; subst h4
  exact ⟨_, _, _, _, _, _, _, _, _, rfl, rfl, h5⟩
theorem RX.mk (lm : Int32) (h : REL t nN nM ns ms rt A B) : RX (t, lm, nN, nM, ns, ms, rt) (t, lm, nN, nM, A, B) := ⟨⟨rfl, rfl, rfl, rfl⟩, h⟩
-- the reference's ranges
theorem in_0 {v a b : Int64} : sR_in v a b = 0 ↔ (v < a ∨ ¬ v ≤ b) := by
  unfold sR_in
  by_cases h1 : v < a
  · simp [h1]
  · by_cases h2 : b < v
    · simp [h1, h2, Int64.not_le.mpr h2]
    · simp [h1, h2, Int64.not_lt.mp h2]
theorem i64_lt {a b : Int32} : a.toInt64 < b.toInt64 ↔ a < b := Int32.toInt64_lt
theorem i64_le {a b : Int32} : a.toInt64 ≤ b.toInt64 ↔ a ≤ b := Int32.toInt64_le
-- limit
theorem ag_limit {x : CST} {y : RST} (h : RX x y) (d : Int32) : AG (sC_limit x d) (sR_limit y d) := by
  obtain ⟨t, lm, nN, nM, ns, ms, rt, A, B, rfl, rfl, hR⟩ := h.unf
  unfold sC_limit sR_limit
  have e : sR_in d.toInt64 0 1000 = 0 ↔ (d < 0 ∨ ¬ d ≤ 1000) := by
    rw [in_0, show (0 : Int64) = (0 : Int32).toInt64 from rfl, show (1000 : Int64) = (1000 : Int32).toInt64 from rfl, i64_lt, i64_le]
  by_cases h1 : d < 0
  · rw [if_pos h1, if_pos (e.mpr (Or.inl h1))]; exact ⟨rfl, h⟩
  rw [if_neg h1]
  by_cases h2 : d ≤ 1000
  · rw [if_pos h2, if_neg (fun z => (e.mp z).elim h1 (fun z => z h2))]; exact ⟨rfl, RX.mk d hR⟩
  · rw [if_neg h2, if_pos (e.mpr (Or.inr h2))]; exact ⟨rfl, h⟩
-- right, may
theorem may_eq (hR : REL t nN nM ns ms rt A B) (p e : Int32) : sC_may rt p e = sC_may (A 17) p e := by
  unfold sC_may
  rcases ix_cases (m := 8) (by decide) p with ⟨h, -⟩ | ⟨a, ha, -, h, -⟩ <;> rw [h]
  rcases ix_cases (m := 5) (by decide) e with ⟨h, -⟩ | ⟨b, hb, -, h, -⟩ <;> rw [h]
  dsimp only
  rw [hR.2.2.2.1 (a * 5 + b) (by omega)]
theorem ag_right {x : CST} {y : RST} (h : RX x y) (p e o : Int32) : AG (sC_right x p e o) (sR_right y p e o) := by
  obtain ⟨t, lm, nN, nM, ns, ms, rt, A, B, rfl, rfl, hR⟩ := h.unf
  unfold sC_right sR_right
  rcases ix_cases (m := 8) (by decide) p with ⟨h1, -⟩ | ⟨a, ha, -, h1, -⟩ <;> rw [h1]
  · exact ⟨rfl, h⟩
  rcases ix_cases (m := 5) (by decide) e with ⟨h2, -⟩ | ⟨b, hb, -, h2, -⟩ <;> rw [h2]
  · exact ⟨rfl, h⟩
  refine ⟨rfl, RX.mk lm ?_⟩
  obtain ⟨x1, x2, x3, x4, ⟨x5, x6, x7⟩, x8⟩ := hR
  refine ⟨x1, fun i hi => (x2 i hi).kept (rA_o (by omega)) (rA_o (by omega)) rfl rfl (fun r _ _ c _ => rA_o (by omega)), fun j hj => (x3 j hj).kept (Nat.le_refl _) (fun r _ _ => rA_o (by omega)) rfl (fun k _ => rA_o (by omega)), fun k hk => ?_, ⟨fun k hk => (rA_o (by omega)).trans (x5 k hk), x6, fun j hj => ⟨(rA_o (by omega)).trans (x7 j hj).1, (rA_o (by omega)).trans (x7 j hj).2⟩⟩, x8⟩
  show upd rt (a * 5 + b) (vp_nar .boolean o) k = rA A 17 (a * 5 + b) (vp_nar .boolean o) 17 k
  by_cases h3 : k = a * 5 + b
  · subst h3; rw [rA_s]; simp [upd]
  · rw [rA_o (Or.inr h3), ← x4 k hk]; simp [upd, h3]
-- sums of grams
theorem sG_cong {ms ms' : Nat → MS} {n : Int32} : ∀ {k : Nat}, (∀ j, j < k → ms' j = ms j) → sG ms' n k = sG ms n k
  | 0, _ => rfl
  | k + 1, h => by
    unfold sG
    rw [sG_cong (fun j hj => h j (by omega)), h k (by omega)]
theorem sG_zero {ms : Nat → MS} {n : Int32} : ∀ {k : Nat}, (∀ j, j < k → ¬ (ms j).1 = n) → sG ms n k = 0
  | 0, _ => rfl
  | k + 1, h => by
    unfold sG
    rw [sG_zero (fun j hj => h j (by omega)), if_neg (h k (by omega))]
theorem sG_le {ms ms' : Nat → MS} {n : Int32} : ∀ {k : Nat}, (∀ j, j < k → (ms' j).1 = (ms j).1 ∧ (ms' j).2.1 = (ms j).2.1 ∧ (sp_uses (ms j).2.2.2.2.2.1 = 0 → sp_uses (ms' j).2.2.2.2.2.1 = 0)) → sG ms' n k ≤ sG ms n k
  | 0, _ => Nat.le_refl _
  | k + 1, h => by
    have ih := sG_le (ms := ms) (ms' := ms') (n := n) (k := k) (fun j hj => h j (by omega))
    obtain ⟨h1, h2, h3⟩ := h k (by omega)
    unfold sG
    rw [h1, h2]
    by_cases c1 : (ms k).1 = n
    · rw [if_pos c1, if_pos c1]
      by_cases c2 : sp_uses (ms k).2.2.2.2.2.1 = 0
      · rw [if_pos c2, if_pos (h3 c2)]; exact Nat.add_le_add ih (Nat.le_refl _)
      · rw [if_neg c2]
        split
        · exact Nat.add_le_add ih (Nat.zero_le _)
        · exact Nat.add_le_add ih (Nat.le_refl _)
    · rw [if_neg c1, if_neg c1]; exact Nat.add_le_add ih (Nat.le_refl _)
theorem lN_wrap {x : Int64} {g : Nat} (h : x = lN g) (hg : g < 2 ^ 63) : x = lN x.toNatClampNeg := by rw [h, lN_cl hg]
theorem gim_sG {ms : Nat → MS} {n : Int32} : ∀ {k : Nat}, (∀ j, j < k → (ms j).2.1 = lN (ms j).2.1.toNatClampNeg) → sC_gim ms n k = lN (sG ms n k)
  | 0, _ => rfl
  | k + 1, h => by
    have ih := gim_sG (ms := ms) (n := n) (k := k) (fun j hj => h j (by omega))
    unfold sC_gim sG
    by_cases c1 : (ms k).1 = n
    · rw [if_pos c1, if_pos c1]
      by_cases c2 : sp_uses (ms k).2.2.2.2.2.1 = 0
      · rw [if_pos c2, if_pos c2, ih]; rfl
      · rw [if_neg c2, if_neg c2, ih, ← lN_add, ← h k (by omega)]
    · rw [if_neg c1, if_neg c1, ih]; rfl
theorem rec_sH {ms : Nat → MS} {n : Int32} : ∀ {k : Nat}, (∀ j, j < k → (ms j).2.1 = lN (ms j).2.1.toNatClampNeg) → sC_rec ms n k = lN (sH ms n k)
  | 0, _ => rfl
  | k + 1, h => by
    have ih := rec_sH (ms := ms) (n := n) (k := k) (fun j hj => h j (by omega))
    unfold sC_rec sH
    by_cases c1 : (ms k).1 = n
    · rw [if_pos c1, if_pos c1]
      by_cases c2 : (ms k).2.2.2.2.2.1 = 3
      · rw [if_pos c2, if_pos c2, ih, ← lN_add, ← h k (by omega)]
      · rw [if_neg c2, if_neg c2, ih]; rfl
    · rw [if_neg c1, if_neg c1, ih]; rfl
theorem sH_sG (ms : Nat → MS) (n : Int32) : ∀ k : Nat, sH ms n k ≤ sG ms n k
  | 0 => Nat.le_refl _
  | k + 1 => by
    have ih := sH_sG ms n k
    unfold sH sG
    by_cases c1 : (ms k).1 = n
    · rw [if_pos c1, if_pos c1]
      by_cases c2 : (ms k).2.2.2.2.2.1 = 3
      · rw [if_pos c2, if_neg (by rw [c2]; decide)]; omega
      · rw [if_neg c2]
        omega
    · rw [if_neg c1, if_neg c1]; exact ih
theorem REL.gr (hR : REL t nN nM ns ms rt A B) {j : Nat} (hj : j < nM) : (ms j).2.1 = lN (ms j).2.1.toNatClampNeg := by
  obtain ⟨-, ⟨-, g, h1, h2⟩, -⟩ := hR.2.2.1 j hj
  exact lN_wrap h1 (by omega)
theorem REL.gim (hR : REL t nN nM ns ms rt A B) (n : Int32) : sC_gim ms n nM = lN (sG ms n nM) := gim_sG (fun _ hj => hR.gr hj)
theorem REL.rec (hR : REL t nN nM ns ms rt A B) (n : Int32) : sC_rec ms n nM = lN (sH ms n nM) := rec_sH (fun _ hj => hR.gr hj)
theorem lf_eq {ms : Nat → MS} {nN : Nat} {A : RA} {B : RB} (w : Int64) (n : Int32) : ∀ {k : Nat}, (∀ j, j < k → RELm nN A B j (ms j)) → sR_lf A B w n k = w - sC_gim ms n k
  | 0, _ => by
    show w = w - 0
    simp
  | k + 1, h => by
    have ih := lf_eq w n (k := k) (fun j hj => h j (by omega))
    obtain ⟨⟨h1, -⟩, ⟨h2, -⟩, -, -, ⟨h3, -⟩, -⟩ := h k (by omega)
    unfold sR_lf sC_gim sp_uses
    rw [ih, h1, h2, h3]
    by_cases c1 : (ms k).1 = n
    · by_cases c2 : (ms k).2.2.2.2.2.1 = 4
      · simp [c1, c2]
      · by_cases c3 : (ms k).2.2.2.2.2.1 = 5
        · simp [c1, c3]
        · simp [c1, c2, c3, Int64.sub_sub]
    · simp [c1]
theorem rc_eq {ms : Nat → MS} {nN : Nat} {A : RA} {B : RB} (n : Int32) : ∀ {k : Nat}, (∀ j, j < k → RELm nN A B j (ms j)) → sR_rc A B n k = sC_rec ms n k
  | 0, _ => rfl
  | k + 1, h => by
    have ih := rc_eq n (k := k) (fun j hj => h j (by omega))
    obtain ⟨⟨h1, -⟩, ⟨h2, -⟩, -, -, ⟨h3, -⟩, -⟩ := h k (by omega)
    unfold sR_rc sC_rec
    rw [ih, h1, h2, h3]
    by_cases c1 : (ms k).1 = n
    · by_cases c2 : (ms k).2.2.2.2.2.1 = 3 <;> simp [c1, c2]
    · simp [c1]
-- one country: what its answer is in the class
theorem RELc.one {t : Int32} {A : RA} {k : Nat} {a o d : Int32} (h : RELc t A k a o d) : (A 5 k = 0 ∧ a = 0) ∨ (A 5 k = 1 ∧ A 8 k = 1 ∧ a = 2) ∨ (A 5 k = 1 ∧ A 8 k = 2 ∧ a = 3) ∨ (A 5 k = 1 ∧ A 8 k = 0 ∧ sR_sil A k t = 0 ∧ a = 1) ∨ (A 5 k = 1 ∧ A 8 k = 0 ∧ sR_sil A k t = 1 ∧ a = 2) := by
  rcases h with h | ⟨h5, h7, h6, -, ⟨h8, ha⟩ | ⟨h8, ha⟩ | ⟨h8, ha⟩⟩
  · exact Or.inl h
  · exact Or.inr (Or.inl ⟨h5, h8, ha⟩)
  · exact Or.inr (Or.inr (Or.inl ⟨h5, h8, ha⟩))
  · by_cases c : t - o ≤ d
    · exact Or.inr (Or.inr (Or.inr (Or.inl ⟨h5, h8, by unfold sR_sil; rw [h5, h8, h7, h6]; simp [c], by rw [ha, if_pos c]⟩)))
    · exact Or.inr (Or.inr (Or.inr (Or.inr ⟨h5, h8, by unfold sR_sil; rw [h5, h8, h7, h6]; simp [c], by rw [ha, if_neg c]⟩)))
-- the state of a notice
theorem st_inv {t : Int32} {A : RA} {i : Nat} {an ao dy : Nat → Int32} (h : ∀ c, c < 6 → RELc t A (6 * i + c) (an c) (ao c) (dy c)) : ∀ c, c ≤ 6 → (sR_st A t i c).1 = (if 0 < sp_cn an 3 c then 1 else 0) ∧ (sR_st A t i c).2.1 = (if 0 < sp_cn an 1 c + sp_cn an 2 c + sp_cn an 3 c then 1 else 0) ∧ (sR_st A t i c).2.2 = (if sp_cn an 1 c + sp_cn an 3 c = 0 then 1 else 0)
  | 0, _ => ⟨rfl, rfl, rfl⟩
  | c + 1, hc => by
    obtain ⟨h1, h2, h3⟩ := st_inv h c (by omega)
    unfold sR_st sp_cn sR_s1 sR_s2 sR_s3
    rw [h1, h2, h3]
    generalize sp_cn an 1 c = n1
    generalize sp_cn an 2 c = n2
    generalize sp_cn an 3 c = n3
    rcases (h c (by omega)).one with ⟨z5, ha⟩ | ⟨z5, z8, ha⟩ | ⟨z5, z8, ha⟩ | ⟨z5, z8, zs, ha⟩ | ⟨z5, z8, zs, ha⟩
    · rw [z5, ha]
      refine ⟨?_, ?_, ?_⟩
      · by_cases q : 0 < n3 <;> simp [q]
      · by_cases q : 0 < n1 + n2 + n3 <;> simp [q]
      · by_cases q1 : n1 = 0 <;> by_cases q3 : n3 = 0 <;> simp [q1, q3]
    · rw [z5, z8, ha]
      refine ⟨?_, ?_, ?_⟩
      · by_cases q : 0 < n3 <;> simp [q]
      · by_cases q : 0 < n1 + n2 + n3 <;> simp [q]
      · by_cases q1 : n1 = 0 <;> by_cases q3 : n3 = 0 <;> simp [q1, q3]
    · rw [z5, z8, ha]
      refine ⟨?_, ?_, ?_⟩
      · by_cases q : 0 < n3 <;> simp [q]
      · by_cases q : 0 < n1 + n2 + n3 <;> simp [q]
      · by_cases q : n1 + n3 = 0 <;> simp [q, sR_sil, z5, z8]
    · rw [z5, z8, zs, ha]
      refine ⟨?_, ?_, ?_⟩
      · by_cases q : 0 < n3 <;> simp [q]
      · by_cases q : 0 < n1 + n2 + n3 <;> simp [q]
      · by_cases q1 : n1 = 0 <;> by_cases q3 : n3 = 0 <;> simp [q1, q3]
    · rw [z5, z8, zs, ha]
      refine ⟨?_, ?_, ?_⟩
      · by_cases q : 0 < n3 <;> simp [q]
      · by_cases q : 0 < n1 + n2 + n3 <;> simp [q]
      · by_cases q1 : n1 = 0 <;> by_cases q3 : n3 = 0 <;> simp [q1, q3]
theorem RELn.state {t : Int32} {A : RA} {B : RB} {i : Nat} {n : NS} (h : RELn t A B i n) : sR_stt A t i = sp_state n.2.2.2.1 n.2.2.1 t := by
  obtain ⟨h1, h2, h3⟩ := st_inv h.2.2.2.2.2.2.2 6 (Nat.le_refl _)
  unfold sR_stt sp_state
  rw [h1, h2, h3, h.2.2.2.2.1]
  generalize sp_cn n.2.2.2.1 1 6 = n1
  generalize sp_cn n.2.2.2.1 2 6 = n2
  generalize sp_cn n.2.2.2.1 3 6 = n3
  by_cases q : 0 < n3
  · simp [q]
  · have q0 : n3 = 0 := by omega
    subst q0
    by_cases c1 : n.2.2.1 < t
    · simp [c1, Int32.not_le.mpr c1]
    · rw [if_neg q, if_neg q, if_pos rfl, if_pos (Int32.not_lt.mp c1), if_neg c1]
      by_cases c2 : n2 = 0
      · by_cases c3 : n1 = 0
        · simp [c2, c3]
        · simp [c2, c3]
      · by_cases c3 : n1 = 0
        · simp [c3, Nat.pos_of_ne_zero c2]
        · simp [c3]
-- answers of the reading methods
theorem eq_state (hR : REL t nN nM ns ms rt A B) (n : Int32) : sC_state t nN ns n = sR_state t nN A n := by
  unfold sC_state sR_state
  rcases ix_cases (m := nN) (by have := hR.1.1; omega) n with ⟨h, -⟩ | ⟨i, hi, -, h, -⟩ <;> rw [h]
  exact (hR.2.1 i hi).state.symm
theorem eq_mst (hR : REL t nN nM ns ms rt A B) (n : Int32) : sC_mst nM ms n = sR_mst nM A n := by
  unfold sC_mst sR_mst
  rcases ix_cases (m := nM) (by have := hR.1.2.1; omega) n with ⟨h, -⟩ | ⟨i, hi, -, h, -⟩ <;> rw [h]
  exact (hR.2.2.1 i hi).2.2.2.2.1.1.symm
theorem eq_left (hR : REL t nN nM ns ms rt A B) (n : Int32) : sC_left nN nM ns ms n = sR_left nN nM A B n := by
  unfold sC_left sR_left
  rcases ix_cases (m := nN) (by have := hR.1.1; omega) n with ⟨h, -⟩ | ⟨i, hi, -, h, -⟩ <;> rw [h]
  dsimp only
  rw [lf_eq (ms := ms) (nN := nN) _ _ (fun j hj => hR.2.2.1 j hj), (hR.2.1 i hi).2.1]
theorem eq_lt (lm : Int32) {ms : Nat → MS} {nN : Nat} {A : RA} {B : RB} (k : Int32) : ∀ (r m : Nat) (b : Int32), (∀ j, j < m + r → RELm nN A B j (ms j)) → sC_lt t lm ms k r m b = sR_lt t lm A k r m b
  | 0, _, _, _ => rfl
  | r + 1, m, b, h => by
    have i1 := eq_lt lm k r (m + 1) b (fun j hj => h j (by omega))
    have i2 := eq_lt lm k r (m + 1) (b + 1) (fun j hj => h j (by omega))
    obtain ⟨-, -, -, -, ⟨h3, -⟩, h4, -⟩ := h m (by omega)
    unfold sC_lt sR_lt sC_isl
    rw [i1, i2, h3, h4]
    by_cases c1 : (ms m).2.2.2.2.2.1 = 2
    · by_cases c2 : t - (ms m).2.2.2.2.2.2.1 ≤ lm <;> simp [c1, c2]
    · simp [c1]
theorem eq_late (hR : REL t nN nM ns ms rt A B) (lm k : Int32) : sC_lt t lm ms k nM 0 0 = sR_lt t lm A k nM 0 0 := eq_lt lm k nM 0 0 (fun j hj => hR.2.2.1 j (by omega))
theorem eq_back (hR : REL t nN nM ns ms rt A B) (n k : Int32) : sC_back nM ms n k = sR_back nM A n k := by
  unfold sC_back sR_back
  rcases ix_cases (m := nM) (by have := hR.1.2.1; omega) n with ⟨h, -⟩ | ⟨j, hj, -, h, -⟩ <;> rw [h]
  obtain ⟨-, -, -, ⟨h1, h2, h3⟩, -⟩ := hR.2.2.1 j hj
  dsimp only
  unfold sp_back sR_cc
  rw [h1, nI_clamp (by omega)]
  by_cases c0 : k < 0
  · rw [if_pos c0, if_pos c0]
  rw [if_neg c0, if_neg c0]
  by_cases c1 : k < nI (ms j).2.2.2.2.1
  · rw [if_pos c1, if_pos c1]
    obtain ⟨q, hq, rfl⟩ := nI_of c0
    have hq2 := (nI_ltI hq (by omega)).mp c1
    rw [nI_clamp hq, show 6 * j + (ms j).2.2.2.2.1 - 1 - q = 6 * j + ((ms j).2.2.2.2.1 - 1 - q) by omega, h3 _ (by omega)]
  · rw [if_neg c1, if_neg c1]
-- the sum held
theorem nat_held {c w r : Nat} (hw : 0 < w) (hr : r ≤ w) : c / w * (w - r) + (c % w) * (w - r) / w + (if (c % w) * (w - r) % w = 0 then 0 else 1) = c - (c / w * r + (c % w) * r / w) := by
  have e1 := Nat.div_add_mod c w
  have hs := Nat.mod_lt c hw
  generalize c / w = q at *
  generalize c % w = s at *
  have e2 := Nat.div_add_mod (s * r) w
  have hv := Nat.mod_lt (s * r) hw
  generalize s * r / w = u at *
  generalize s * r % w = v at *
  have m1 : q * (w - r) = w * q - q * r := by rw [Nat.mul_sub, Nat.mul_comm q w]
  have m2 : s * (w - r) = w * s - s * r := by rw [Nat.mul_sub, Nat.mul_comm s w]
  have l1 : q * r ≤ w * q := by rw [Nat.mul_comm w q]; exact Nat.mul_le_mul_left q hr
  have l2 : s * r ≤ w * s := by rw [Nat.mul_comm w s]; exact Nat.mul_le_mul_left s hr
  by_cases h0 : v = 0
  · have m3 : s * (w - r) = w * (s - u) := by rw [m2, ← e2, h0, Nat.mul_sub]; rfl
    have l3 : u ≤ s := by
      rw [h0, Nat.add_zero] at e2
      exact Nat.le_of_mul_le_mul_left (by rw [e2]; exact l2) hw
    rw [m3, Nat.mul_div_cancel_left _ hw, Nat.mul_mod_right, if_pos rfl, m1]
    omega
  · have l3 : u < s := Nat.lt_of_mul_lt_mul_left (a := w) (by omega)
    have m3 : s * (w - r) = w * (s - u - 1) + (w - v) := by
      rw [m2, ← e2, Nat.mul_sub, Nat.mul_sub]
      have : w * u + w ≤ w * s := by
        have := Nat.mul_le_mul_left w (show u + 1 ≤ s from l3)
        rw [Nat.mul_add, Nat.mul_one] at this
        exact this
      omega
    rw [m3, Nat.mul_add_div hw, Nat.mul_add_mod, Nat.div_eq_of_lt (show w - v < w by omega), Nat.mod_eq_of_lt (show w - v < w by omega), if_neg (by omega), m1]
    omega
theorem lN_div {a b : Nat} (ha : a < 2 ^ 63) (hb : b < 2 ^ 63) : lN a / lN b = lN (a / b) := by
  rw [← Int64.toInt_inj, Int64.toInt_div_of_ne_right, lN_tI ha, lN_tI hb, lN_tI (Nat.lt_of_le_of_lt (Nat.div_le_self a b) ha)]
  · exact (Int.ofNat_tdiv a b).symm
  · intro h
    have := congrArg Int64.toInt h
    rw [lN_tI hb, show (-1 : Int64).toInt = -1 by decide] at this
    omega
theorem lN_sb {a b : Nat} (h : b ≤ a) : lN a - lN b = lN (a - b) := (Int64.ofNat_sub a b h).symm
theorem lN_rem {a b : Nat} (ha : a < 2 ^ 63) (hb : b < 2 ^ 63) : lN a - lN a / lN b * lN b = lN (a % b) := by
  rw [lN_div ha hb, lN_mul, lN_sb (Nat.div_mul_le_self a b)]
  have := Nat.div_add_mod a b
  rw [Nat.mul_comm] at this
  exact congrArg lN (by omega)
theorem lN_e0 {a : Nat} (h : a < 2 ^ 63) : lN a = 0 ↔ a = 0 := by
  rw [← Int64.toInt_inj, lN_tI h, show (0 : Int64).toInt = 0 by decide]
  omega
theorem lN_l {a b : Nat} (ha : a < 2 ^ 63) (hb : b < 2 ^ 63) : lN a < lN b ↔ a < b := by
  rw [Int64.lt_iff_toInt_lt, lN_tI ha, lN_tI hb]; omega
theorem lN_lle {a b : Nat} (ha : a < 2 ^ 63) (hb : b < 2 ^ 63) : lN a ≤ lN b ↔ a ≤ b := by
  rw [Int64.le_iff_toInt_le, lN_tI ha, lN_tI hb]; omega
theorem share_eq {c w r : Nat} (hw : 0 < w) (hw2 : w ≤ 1000000000) (hc : c ≤ 10000000000) (hr : r ≤ w) : sC_share (lN c) (lN w - lN r) (lN w) = lN c - (lN c / lN w * lN r + (lN c - lN c / lN w * lN w) * lN r / lN w) := by
  have hs := Nat.mod_lt c hw
  have b1 : (c % w) * (w - r) < 2 ^ 63 := Nat.lt_of_le_of_lt (Nat.mul_le_mul (show c % w ≤ 1000000000 by omega) (show w - r ≤ 1000000000 by omega)) (by decide)
  have b2 : (c % w) * r < 2 ^ 63 := Nat.lt_of_le_of_lt (Nat.mul_le_mul (show c % w ≤ 1000000000 by omega) (show r ≤ 1000000000 by omega)) (by decide)
  have g1 : ¬ lN w < 1 := fun h => by
    rw [show (1 : Int64) = lN 1 from rfl, lN_l (by omega) (by decide)] at h
    omega
  unfold sC_share
  rw [if_neg g1, lN_sb hr, lN_rem (a := c) (by omega) (by omega), lN_mul (c % w) (w - r), lN_mul (c % w) r, lN_rem b1 (by omega), lN_div b1 (by omega), lN_div b2 (by omega), lN_div (a := c) (by omega) (by omega), lN_mul, lN_mul, lN_add, lN_add]
  have key := nat_held (c := c) hw hr
  have le : c / w * r + c % w * r / w ≤ c := by
    have e1 := Nat.div_add_mod c w
    have l1 : c / w * r ≤ w * (c / w) := by rw [Nat.mul_comm w]; exact Nat.mul_le_mul_left _ hr
    have l2 : c % w * r / w ≤ c % w := by
      have : c % w * r / w ≤ c % w * w / w := Nat.div_le_div_right (Nat.mul_le_mul_left _ hr)
      rw [Nat.mul_div_cancel _ hw] at this
      exact this
    omega
  rw [lN_sb le, ← key]
  have b3 : c % w * (w - r) % w < 2 ^ 63 := Nat.lt_of_le_of_lt (Nat.mod_le _ _) b1
  generalize c % w * (w - r) % w = z at *
  generalize c / w * (w - r) + c % w * (w - r) / w = y at *
  by_cases h0 : z = 0
  · rw [if_pos ((lN_e0 b3).mpr h0), if_pos h0, show (0 : Int64) = lN 0 from rfl, lN_add]
  · rw [if_neg (fun h => h0 ((lN_e0 b3).mp h)), if_neg h0, show (1 : Int64) = lN 1 from rfl, lN_add]
theorem eq_held (hR : REL t nN nM ns ms rt A B) (n : Int32) : sC_held nN nM ns ms n = sR_held nN nM A B n := by
  unfold sC_held sR_held
  rcases ix_cases (m := nN) (by have := hR.1.1; omega) n with ⟨h, -⟩ | ⟨i, hi, rfl, h, -⟩ <;> rw [h]
  obtain ⟨⟨w, h1, h2, h3⟩, h4, -, -, -, ⟨c, h5, h6⟩, h7, -⟩ := hR.2.1 i hi
  have hS := hR.2.2.2.2.2 i hi
  rw [h1, lN_cl (by omega)] at hS
  have hH := sH_sG ms (nI i) nM
  dsimp only [n_gr, n_ct]
  rw [rc_eq (ms := ms) (nN := nN) _ (fun j hj => hR.2.2.1 j hj), hR.rec, h4, h7, h1, h5]
  exact share_eq (by omega) h3 h6 (by omega)
theorem REL.w0 (hR : REL t nN nM ns ms rt A B) {i : Nat} (hi : i < nN) : ¬ B 1 i = 0 := by
  obtain ⟨⟨w, h1, h2, h3⟩, h4, -⟩ := hR.2.1 i hi
  rw [h4, h1, lN_e0 (by omega)]
  omega
end AGS
