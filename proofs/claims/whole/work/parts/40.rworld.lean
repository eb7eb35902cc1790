/-! THE REFERENCE'S WORLD: address 0 the object, 1 to 17 its arrays -/
def rs_0 (ad : Nat → Nat) (t lm : Int32) (nN nM : Nat) (rs lk : Int32) : va_E := .inr (4, [.int t, .int (nI nN), .ref (ad 1), .ref (ad 2), .ref (ad 3), .ref (ad 4), .ref (ad 5), .ref (ad 6), .ref (ad 7), .ref (ad 8), .int (nI nM), .ref (ad 9), .ref (ad 10), .ref (ad 11), .ref (ad 12), .ref (ad 13), .ref (ad 14), .ref (ad 15), .ref (ad 16), .ref (ad 17), .int lm, .int rs, .int lk])
def rs_a (cs : Nat → ClassId) (A : RA) (B : RB) : Nat → va_E
  | 1 => .inl (cs 3, 6, .inr (.inl (B 1)))
  | 2 => .inl (cs 0, 6, .inl (A 2))
  | 3 => .inl (cs 0, 6, .inl (A 3))
  | 4 => .inl (cs 3, 6, .inr (.inl (B 4)))
  | 5 => .inl (cs 2, 36, .inl (A 5))
  | 6 => .inl (cs 0, 36, .inl (A 6))
  | 7 => .inl (cs 0, 36, .inl (A 7))
  | 8 => .inl (cs 0, 36, .inl (A 8))
  | 9 => .inl (cs 0, 12, .inl (A 9))
  | 10 => .inl (cs 3, 12, .inr (.inl (B 10)))
  | 11 => .inl (cs 0, 12, .inl (A 11))
  | 12 => .inl (cs 0, 12, .inl (A 12))
  | 13 => .inl (cs 0, 12, .inl (A 13))
  | 14 => .inl (cs 2, 12, .inl (A 14))
  | 15 => .inl (cs 0, 12, .inl (A 15))
  | 16 => .inl (cs 0, 72, .inl (A 16))
  | 17 => .inl (cs 2, 40, .inl (A 17))
  | _ => .inl (cs 0, 0, .inl (fun _ => 0))
theorem rs_a_cong (cs : Nat → ClassId) {A A' : RA} {B B' : RB} (r : Nat) (h1 : A' r = A r) (h2 : B' r = B r) : rs_a cs A' B' r = rs_a cs A B r := by
  unfold rs_a
  split <;> first | rw [h1] | rw [h2] | rfl
def RS (cs : Nat → ClassId) (L : List Nat) (f : Nat → va_E) (ad : Nat → Nat) (t lm : Int32) (nN nM : Nat) (rs lk : Int32) (A : RA) (B : RB) : Prop :=
  (nN ≤ 6 ∧ nM ≤ 12) ∧ (∀ r, r < 18 → ad r ∈ L) ∧ (∀ r r', r < 18 → r' < 18 → ad r = ad r' → r = r') ∧ f (ad 0) = rs_0 ad t lm nN nM rs lk ∧ ∀ r, 1 ≤ r → r < 18 → f (ad r) = rs_a cs A B r
def RSx (cs : Nat → ClassId) (L : List Nat) (f : Nat → va_E) (ad : Nat → Nat) (y : RST) (rs lk : Int32) : Prop := RS cs L f ad y.1 y.2.1 y.2.2.1 y.2.2.2.1 rs lk y.2.2.2.2.1 y.2.2.2.2.2
section RSL
variable {cs : Nat → ClassId} {L : List Nat} {f : Nat → va_E} {ad : Nat → Nat} {t lm : Int32} {nN nM : Nat} {rs lk : Int32} {A : RA} {B : RB}
theorem RS.nN6 (h : RS cs L f ad t lm nN nM rs lk A B) : nN ≤ 6 := h.1.1
theorem RS.nM12 (h : RS cs L f ad t lm nN nM rs lk A B) : nM ≤ 12 := h.1.2
theorem RS.mem (h : RS cs L f ad t lm nN nM rs lk A B) (r : Nat) (hr : r < 18) : ad r ∈ L := h.2.1 r hr
theorem RS.ne (h : RS cs L f ad t lm nN nM rs lk A B) (r r' : Nat) (hr : r < 18) (hr' : r' < 18) (hne : r ≠ r') : ad r ≠ ad r' := fun e => hne (h.2.2.1 r r' hr hr' e)
theorem RS.e0 (h : RS cs L f ad t lm nN nM rs lk A B) : f (ad 0) = .inr (4, [.int t, .int (nI nN), .ref (ad 1), .ref (ad 2), .ref (ad 3), .ref (ad 4), .ref (ad 5), .ref (ad 6), .ref (ad 7), .ref (ad 8), .int (nI nM), .ref (ad 9), .ref (ad 10), .ref (ad 11), .ref (ad 12), .ref (ad 13), .ref (ad 14), .ref (ad 15), .ref (ad 16), .ref (ad 17), .int lm, .int rs, .int lk]) := h.2.2.2.1
theorem RS.ea (h : RS cs L f ad t lm nN nM rs lk A B) (r : Nat) (h1 : 1 ≤ r) (h2 : r < 18) : f (ad r) = rs_a cs A B r := h.2.2.2.2 r h1 h2
theorem RS.main (h : RS cs L f ad t lm nN nM rs lk A B) (t' lm' : Int32) (nN' nM' : Nat) (rs' lk' : Int32) (h1 : nN' ≤ 6) (h2 : nM' ≤ 12) : RS cs L (va_up f (ad 0) (rs_0 ad t' lm' nN' nM' rs' lk')) ad t' lm' nN' nM' rs' lk' A B :=
  ⟨⟨h1, h2⟩, h.2.1, h.2.2.1, va_up_self _ _ _, fun r hr hr2 => (va_up_ne _ _ (h.ne r 0 hr2 (by decide) (by omega))).trans (h.ea r hr hr2)⟩
theorem RS.setA (h : RS cs L f ad t lm nN nM rs lk A B) (r k : Nat) (x : Int32) (h1 : 1 ≤ r) (h2 : r < 18) : RS cs L (va_up f (ad r) (rs_a cs (rA A r k x) B r)) ad t lm nN nM rs lk (rA A r k x) B := by
  refine ⟨h.1, h.2.1, h.2.2.1, (va_up_ne _ _ (h.ne 0 r (by decide) h2 (by omega))).trans h.2.2.2.1, fun r' hr hr2 => ?_⟩
  by_cases e : r' = r
  · subst e; rw [va_up_self]
  · rw [va_up_ne _ _ (h.ne r' r hr2 h2 e), h.ea r' hr hr2]
    exact (rs_a_cong cs r' (va_up_ne _ _ e) rfl).symm
theorem RS.setB (h : RS cs L f ad t lm nN nM rs lk A B) (r k : Nat) (x : Int64) (h1 : 1 ≤ r) (h2 : r < 18) : RS cs L (va_up f (ad r) (rs_a cs A (rB B r k x) r)) ad t lm nN nM rs lk A (rB B r k x) := by
  refine ⟨h.1, h.2.1, h.2.2.1, (va_up_ne _ _ (h.ne 0 r (by decide) h2 (by omega))).trans h.2.2.2.1, fun r' hr hr2 => ?_⟩
  by_cases e : r' = r
  · subst e; rw [va_up_self]
  · rw [va_up_ne _ _ (h.ne r' r hr2 h2 e), h.ea r' hr hr2]
    exact (rs_a_cong cs r' rfl (va_up_ne _ _ e)).symm
end RSL
theorem up_self (g : Nat → Int32) (k : Nat) (x : Int32) : upd g k x k = x := by simp [upd]
section PJ
variable {p : Program} {l : Launch} {e : Env} {R : Room} {s : State} {m : MethodId} {args : Array Value} {below : List Frame} {meth : Method} {c : Code} {H : Heap} {locs : List Loc} {cells slots : Nat} {Q : State → Prop}
/-- two ways meet: what both leave on the stack -/
theorem pj_join {g : JFrame} (C : Int32 → Prop) (pc : Nat) (ls : Array Slot) (rest : List Value) (h1 : (∀ z : Int32, C z → W p l e R s m args below meth c H locs cells slots Q (F0 m pc ls (.int z :: rest))) → W p l e R s m args below meth c H locs cells slots Q g) (h2 : ∀ z : Int32, C z → W p l e R s m args below meth c H locs cells slots Q (F0 m pc ls (.int z :: rest))) : W p l e R s m args below meth c H locs cells slots Q g := h1 h2
end PJ
