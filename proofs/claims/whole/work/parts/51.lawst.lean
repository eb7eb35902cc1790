/-! THE LAW'S STATE between two calls: both objects, their values related -/
def LI (cs : Nat → ClassId) (G : va_G) (A : Nat → Prop) (q1 q2 : Nat) (H : Heap) : Prop := ∃ (L1 : List Nat) (f1 : Nat → va_E) (L2 : List Nat) (f2 : Nat → va_E) (a1 a2 : Nat → Nat) (x : CST) (y : RST) (pg : sp_P) (rs lk : Int32), L2P G vwCl A L1 f1 L2 f2 H ∧ (a1 0 = q1 ∧ a2 0 = q2) ∧ PSx cs L1 f1 a1 x pg ∧ RSx cs L2 f2 a2 y rs lk ∧ RX x y
theorem LI.unf {cs : Nat → ClassId} {G : va_G} {A : Nat → Prop} {q1 q2 : Nat} {H : Heap} (h : LI cs G A q1 q2 H) : ∃ (L1 : List Nat) (f1 : Nat → va_E) (L2 : List Nat) (f2 : Nat → va_E) (a1 a2 : Nat → Nat) (t lm : Int32) (nN nM : Nat) (ns : Nat → NS) (ms : Nat → MS) (rt : Nat → Int32) (Ar : RA) (Br : RB) (pg : sp_P) (rs lk : Int32), L2P G vwCl A L1 f1 L2 f2 H ∧ (a1 0 = q1 ∧ a2 0 = q2) ∧ PS cs L1 f1 a1 t lm nN nM ns ms rt pg ∧ RS cs L2 f2 a2 t lm nN nM rs lk Ar Br ∧ REL t nN nM ns ms rt Ar Br := by
  obtain ⟨L1, f1, L2, f2, a1, a2, x, y, pg, rs, lk, h2, he, hp, hr, hx⟩ := h
  obtain ⟨t, lm, nN, nM, ns, ms, rt, Ar, Br, rfl, rfl, hR⟩ := hx.unf
  exact ⟨L1, f1, L2, f2, a1, a2, t, lm, nN, nM, ns, ms, rt, Ar, Br, pg, rs, lk, h2, he, hp, hr, hR⟩
section LST
variable {t lm : Int32} {nN nM : Nat} {ns : Nat → NS} {ms : Nat → MS} {rt : Nat → Int32} {Ar : RA} {Br : RB}
theorem REL.hcc (hR : REL t nN nM ns ms rt Ar Br) : ∀ j, j < nM → Ar 15 j = nI (sR_cc Ar j) ∧ sR_cc Ar j ≤ 6 := fun _ hj => (cc_of hR hj).2
theorem REL.hw (hR : REL t nN nM ns ms rt Ar Br) : ∀ i, i < nN → ¬ Br 1 i = 0 := fun _ hi => hR.w0 hi
theorem REL.hpn (hR : REL t nN nM ns ms rt Ar Br) : ∀ i, i < nN → (ns i).1 = lN (ns i).1.toNatClampNeg ∧ (ns i).1.toNatClampNeg < 2 ^ 63 ∧ ¬ (ns i).2.1 < 0 ∧ ¬ (ns i).2.2.1 < 0 := by
  intro i hi
  obtain ⟨⟨g, z1, z2, z3⟩, -, ⟨a, b, z4, z5, z6, z7⟩, -⟩ := hR.2.1 i hi
  rw [z1, z4, z5, lN_cl (by omega)]
  exact ⟨rfl, by omega, nI_pos (by omega), nI_pos (by omega)⟩
theorem REL.hpm (hR : REL t nN nM ns ms rt Ar Br) : ∀ j, j < nM → (ms j).2.1 = lN (ms j).2.1.toNatClampNeg ∧ (ms j).2.1.toNatClampNeg < 2 ^ 63 := by
  intro j hj
  obtain ⟨-, ⟨-, g, z1, z2⟩, -⟩ := hR.2.2.1 j hj
  rw [z1, lN_cl (by omega)]
  exact ⟨rfl, by omega⟩
theorem REL.rpn (hR : REL t nN nM ns ms rt Ar Br) : ∀ i, i < nN → Br 1 i = lN (Br 1 i).toNatClampNeg ∧ (Br 1 i).toNatClampNeg < 10 ^ 10 ∧ ¬ Ar 2 i < 0 ∧ ¬ Ar 3 i < 0 := by
  intro i hi
  obtain ⟨⟨g, z1, z2, z3⟩, w1, ⟨a, b, z4, z5, z6, z7⟩, w2, w3, -⟩ := hR.2.1 i hi
  rw [w1, w2, w3, z1, z4, z5, lN_cl (by omega)]
  exact ⟨rfl, by omega, nI_pos (by omega), nI_pos (by omega)⟩
theorem REL.rpm (hR : REL t nN nM ns ms rt Ar Br) : ∀ j, j < nM → Br 10 j = lN (Br 10 j).toNatClampNeg ∧ (Br 10 j).toNatClampNeg < 10 ^ 10 ∧ ∃ s : Nat, s ≤ 5 ∧ Ar 12 j = nI s := by
  intro j hj
  obtain ⟨-, ⟨w1, g, z1, z2⟩, -, -, ⟨w2, s, z3, z4⟩, -⟩ := hR.2.2.1 j hj
  rw [w1, w2, z1, lN_cl (by omega)]
  exact ⟨rfl, by omega, s, z3, z4⟩
end LST
