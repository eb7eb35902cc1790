/-! Both answer alike, and the relation holds on: the writing methods -/
section AGW
variable {t lm : Int32} {nN nM : Nat} {ns : Nat → NS} {ms : Nat → MS} {rt : Nat → Int32} {A : RA} {B : RB}
theorem ag_mark {x : CST} {y : RST} (h : RX x y) (m a b : Int32) : AG (sC_mark x m a b) (sR_mark y m a b) := by
  obtain ⟨t, lm, nN, nM, ns, ms, rt, A, B, rfl, rfl, hR⟩ := h.unf
  unfold sC_mark sR_mark
  dsimp only
  rcases ix_cases (m := nM) (by have := hR.1.2.1; omega) m with ⟨h1, -⟩ | ⟨j, hj, -, h1, -⟩ <;> rw [h1]
  · exact ⟨rfl, h⟩
  dsimp only [m_st, m_mk]
  have q1 : sC_may (A 17) a 2 = sC_may rt a 2 := (may_eq hR a 2).symm
  have q2 : sC_may (A 17) b 2 = sC_may rt b 2 := (may_eq hR b 2).symm
  obtain ⟨z1, z2, z3, z4, ⟨z5, z5'⟩, z6, z7⟩ := hR.2.2.1 j hj
  by_cases c1 : (ms j).2.2.2.2.2.1 = 2
  · have d1 : A 12 j = 2 := z5.trans c1
    by_cases c2 : (ms j).2.2.2.2.2.2.2 = 0
    · have d2 : A 14 j = 0 := z7.trans c2
      by_cases c3 : a = b
      · rw [if_pos c1, if_pos c2, if_pos c3, if_pos c3]; exact ⟨rfl, h⟩
      · rw [if_pos c1, if_pos c2, if_neg c3, if_neg c3]
        by_cases c4 : sC_may rt a 2 = 0
        · rw [if_pos c4, if_pos (show sC_may (A 17) a 2 = 0 from q1.trans c4)]; exact ⟨rfl, h⟩
        rw [if_neg c4, if_neg (show ¬ sC_may (A 17) a 2 = 0 from fun z => c4 (q1.symm.trans z))]
        by_cases c5 : sC_may rt b 2 = 0
        · rw [if_pos c5, if_pos (show sC_may (A 17) b 2 = 0 from q2.trans c5)]; exact ⟨rfl, h⟩
        rw [if_neg c5, if_neg (show ¬ sC_may (A 17) b 2 = 0 from fun z => c5 (q2.symm.trans z)), if_pos d1, if_pos d2]
        refine ⟨rfl, RX.mk lm ?_⟩
        obtain ⟨x1, x2, x3, x4, ⟨x5, x6, x7⟩, x8⟩ := hR
        refine ⟨x1, fun i hi => (x2 i hi).kept (rA_o (by omega)) (rA_o (by omega)) rfl rfl (fun r _ _ c _ => rA_o (by omega)), fun k hk => ?_, fun k hk => (x4 k hk).trans (rA_o (by omega)).symm, ⟨fun k hk => (rA_o (by omega)).trans (x5 k hk), x6, fun k hk => ⟨(rA_o (by omega)).trans (x7 k hk).1, (rA_o (by omega)).trans (x7 k hk).2⟩⟩, fun i hi => ?_⟩
        · by_cases e : k = j
          · subst e
            rw [va_up_self]
            exact ⟨⟨(rA_o (by omega)).trans z1.1, z1.2⟩, z2, (rA_o (by omega)).trans z3, ⟨(rA_o (by omega)).trans z4.1, z4.2.1, fun q hq => (rA_o (by omega)).trans (z4.2.2 q hq)⟩, ⟨(rA_o (by omega)).trans z5, z5'⟩, (rA_o (by omega)).trans z6, rA_s⟩
          · rw [va_up_ne _ _ e]
            exact (x3 k hk).kept (Nat.le_refl _) (fun r _ _ => rA_o (by omega)) rfl (fun q _ => rA_o (by omega))
        · refine Nat.le_trans (sG_le (fun k hk => ?_)) (x8 i hi)
          by_cases e : k = j
          · subst e; rw [va_up_self]; exact ⟨rfl, rfl, fun z => z⟩
          · rw [va_up_ne _ _ e]; exact ⟨rfl, rfl, fun z => z⟩
    · rw [if_pos c1, if_neg c2, if_pos d1, if_neg (show ¬ A 14 j = 0 from fun z => c2 (z7.symm.trans z))]
      refine ⟨?_, ?_⟩
      · split <;> (try split) <;> (try split) <;> rfl
      · split
        · exact h
        · split
          · exact h
          · split <;> exact h
  · rw [if_neg c1, if_neg (show ¬ A 12 j = 2 from fun z => c1 (z5.symm.trans z))]
    refine ⟨?_, ?_⟩
    · split <;> (try split) <;> (try split) <;> rfl
    · split
      · exact h
      · split
        · exact h
        · split <;> exact h
theorem ag_bank {x : CST} {y : RST} (h : RX x y) (n : Int32) (c : Int64) : AG (sC_bank x n c) (sR_bank y n c) := by
  obtain ⟨t, lm, nN, nM, ns, ms, rt, A, B, rfl, rfl, hR⟩ := h.unf
  unfold sC_bank sR_bank
  dsimp only
  rcases ix_cases (m := nN) (by have := hR.1.1; omega) n with ⟨h1, -⟩ | ⟨i, hi, -, h1, -⟩ <;> rw [h1]
  · exact ⟨rfl, h⟩
  dsimp only [n_ct]
  obtain ⟨z1, z2, z3, z4, z5, ⟨c0, z6, z6'⟩, z7, z8⟩ := hR.2.1 i hi
  by_cases c1 : c < 1
  · rw [if_pos c1, if_pos (in_0.mpr (Or.inl c1))]; exact ⟨rfl, h⟩
  rw [if_neg c1]
  by_cases c2 : c ≤ 1000000000
  · rw [if_pos c2, if_neg (fun z => (in_0.mp z).elim c1 (fun z => z c2))]
    by_cases c3 : (ns i).2.2.2.2.2.2 + c ≤ 10000000000
    · rw [if_pos c3, if_pos (show B 4 i + c ≤ 10000000000 by rw [z7]; exact c3)]
      refine ⟨rfl, RX.mk lm ?_⟩
      rw [z7]
      obtain ⟨x1, x2, x3, x4, ⟨x5, x6, x7⟩, x8⟩ := hR
      refine ⟨x1, fun k hk => ?_, fun j hj => (x3 j hj).kept (Nat.le_refl _) (fun r _ _ => rfl) (rB_o (by omega)) (fun q _ => rfl), x4, ⟨x5, fun k hk => (rB_o (by omega)).trans (x6 k hk), x7⟩, fun k hk => ?_⟩
      · by_cases e : k = i
        · subst e
          rw [va_up_self]
          refine ⟨z1, (rB_o (by omega)).trans z2, z3, z4, z5, ?_, rB_s, z8⟩
          obtain ⟨q, hq, rfl⟩ := lN_of (x := c) (fun z => c1 (Int64.lt_iff_toInt_lt.mpr (by rw [Int64.lt_iff_toInt_lt] at z; exact Int.lt_trans z (by decide))))
          rw [show (1000000000 : Int64) = lN 1000000000 from rfl, lN_lle hq (by decide)] at c2
          refine ⟨c0 + q, ?_, ?_⟩
          · show (ns k).2.2.2.2.2.2 + lN q = _
            rw [z6, lN_add]
          · rw [z6, lN_add, show (10000000000 : Int64) = lN 10000000000 from rfl, lN_lle (by omega) (by decide)] at c3
            exact c3
        · rw [va_up_ne _ _ e]
          exact (x2 k hk).kept rfl rfl (rB_o (by omega)) (rB_o (by omega)) (fun r _ _ c _ => rfl)
      · by_cases e : k = i
        · subst e; rw [va_up_self]; exact x8 k hk
        · rw [va_up_ne _ _ e]; exact x8 k hk
    · rw [if_neg c3, if_neg (show ¬ B 4 i + c ≤ 10000000000 by rw [z7]; exact c3)]; exact ⟨rfl, h⟩
  · rw [if_neg c2, if_pos (in_0.mpr (Or.inr c2))]; exact ⟨rfl, h⟩
theorem in_i {v a b : Int32} : sR_in v.toInt64 a.toInt64 b.toInt64 = 0 ↔ (v < a ∨ ¬ v ≤ b) := by rw [in_0, i64_lt, i64_le]
theorem ag_notice {x : CST} {y : RST} (h : RX x y) (g : Int64) (fr to : Int32) : AG (sC_notice x g fr to) (sR_notice y g fr to) := by
  obtain ⟨t, lm, nN, nM, ns, ms, rt, A, B, rfl, rfl, hR⟩ := h.unf
  unfold sC_notice sR_notice
  dsimp only
  have hN := hR.1.1
  by_cases c0 : 6 ≤ nN
  · rw [if_pos c0, if_pos (show nN = 6 by omega)]; exact ⟨rfl, h⟩
  rw [if_neg c0, if_neg (show ¬ nN = 6 by omega)]
  by_cases c1 : g < 1
  · rw [if_pos c1, if_pos (in_0.mpr (Or.inl c1))]; exact ⟨rfl, h⟩
  rw [if_neg c1]
  by_cases c2 : g ≤ 1000000000
  · rw [if_pos c2, if_neg (fun z => (in_0.mp z).elim c1 (fun z => z c2))]
    rw [show (0 : Int64) = (0 : Int32).toInt64 from rfl, show (100000 : Int64) = (100000 : Int32).toInt64 from rfl]
    by_cases c3 : fr < 0
    · rw [if_pos c3, if_pos (in_i.mpr (Or.inl c3))]; exact ⟨rfl, h⟩
    rw [if_neg c3]
    by_cases c4 : to < fr
    · rw [if_pos c4]
      by_cases c5 : sR_in fr.toInt64 (0 : Int32).toInt64 (100000 : Int32).toInt64 = 0
      · rw [if_pos c5]; exact ⟨rfl, h⟩
      · rw [if_neg c5, if_pos (in_i.mpr (Or.inl c4))]; exact ⟨rfl, h⟩
    rw [if_neg c4]
    by_cases c5 : to ≤ 100000
    · rw [if_pos c5, if_neg (fun z => (in_i.mp z).elim c3 (fun z => z (Int32.le_trans (Int32.not_lt.mp c4) c5))), if_neg (fun z => (in_i.mp z).elim c4 (fun z => z c5))]
      refine ⟨rfl, RX.mk lm ?_⟩
      obtain ⟨x1, x2, x3, x4, ⟨x5, x6, x7⟩, x8⟩ := hR
      refine ⟨⟨by omega, x1.2⟩, fun k hk => ?_, fun j hj => (x3 j hj).kept (by omega) (fun r _ _ => (rA_o (by omega)).trans (rA_o (by omega))) (rB_o (by omega)) (fun q _ => (rA_o (by omega)).trans (rA_o (by omega))), fun k hk => (x4 k hk).trans ((rA_o (by omega)).trans (rA_o (by omega))).symm, ⟨fun k hk => ((rA_o (by omega)).trans (rA_o (by omega))).trans (x5 k (by omega)), fun k hk => (rB_o (by omega)).trans (x6 k (by omega)), fun j hj => ⟨((rA_o (by omega)).trans (rA_o (by omega))).trans (x7 j hj).1, ((rA_o (by omega)).trans (rA_o (by omega))).trans (x7 j hj).2⟩⟩, fun k hk => ?_⟩
      · by_cases e : k = nN
        · subst e
          rw [va_up_self]
          have e1 : ¬ to < 0 := fun z => c4 (Int32.lt_of_lt_of_le z (Int32.not_lt.mp c3))
          obtain ⟨a, ha, rfl⟩ := nI_of c3
          obtain ⟨b, hb, rfl⟩ := nI_of e1
          obtain ⟨q, hq, rfl⟩ := lN_of (x := g) (fun z => c1 (Int64.lt_iff_toInt_lt.mpr (by rw [Int64.lt_iff_toInt_lt] at z; exact Int.lt_trans z (by decide))))
          rw [show (1000000000 : Int64) = lN 1000000000 from rfl, lN_lle hq (by decide)] at c2
          rw [show (1 : Int64) = lN 1 from rfl, lN_l hq (by decide)] at c1
          rw [show (100000 : Int32) = nI 100000 from rfl, nI_leI hb (by decide)] at c5
          rw [nI_ltI hb ha] at c4
          refine ⟨⟨q, rfl, by omega, c2⟩, rB_s, ⟨a, b, rfl, rfl, by omega, c5⟩, (rA_o (by omega)).trans rA_s, rA_s, ⟨0, rfl, by decide⟩, (rB_o (by omega)).trans (x6 _ (Nat.le_refl _)), fun c hc => Or.inl ⟨((rA_o (by omega)).trans (rA_o (by omega))).trans (x5 _ (by omega)), rfl⟩⟩
        · rw [va_up_ne _ _ e]
          exact (x2 k (by omega)).kept ((rA_o (by omega)).trans (rA_o (by omega))) ((rA_o (by omega)).trans (rA_o (by omega))) (rB_o (by omega)) (rB_o (by omega)) (fun r _ _ c _ => (rA_o (by omega)).trans (rA_o (by omega)))
      · by_cases e : k = nN
        · subst e
          rw [sG_zero (fun j hj => ?_)]
          · exact Nat.zero_le _
          · obtain ⟨⟨-, i, hi, e⟩, -⟩ := x3 j hj
            rw [e, nI_eq (by omega) (by omega)]
            omega
        · rw [va_up_ne _ _ e]; exact x8 k (by omega)
    · rw [if_neg c5]
      by_cases c6 : sR_in fr.toInt64 (0 : Int32).toInt64 (100000 : Int32).toInt64 = 0
      · rw [if_pos c6]; exact ⟨rfl, h⟩
      · rw [if_neg c6, if_pos (in_i.mpr (Or.inr c5))]; exact ⟨rfl, h⟩
  · rw [if_neg c2, if_pos (in_0.mpr (Or.inr c2))]; exact ⟨rfl, h⟩
/-- one notice's countries change: at one place only -/
theorem REL.ctry (hR : REL t nN nM ns ms rt A B) {i b : Nat} (hi : i < nN) (hb : b < 6) {A' : RA} {n' : NS} (hA : ∀ r k, (r < 5 ∨ 8 < r ∨ k ≠ 6 * i + b) → A' r k = A r k) (hn : n'.1 = (ns i).1 ∧ n'.2.1 = (ns i).2.1 ∧ n'.2.2.1 = (ns i).2.2.1 ∧ n'.2.2.2.2.2.2 = (ns i).2.2.2.2.2.2) (ho : ∀ c, c ≠ b → n'.2.2.2.1 c = (ns i).2.2.2.1 c ∧ n'.2.2.2.2.1 c = (ns i).2.2.2.2.1 c ∧ n'.2.2.2.2.2.1 c = (ns i).2.2.2.2.2.1 c) (hc : RELc t A' (6 * i + b) (n'.2.2.2.1 b) (n'.2.2.2.2.1 b) (n'.2.2.2.2.2.1 b)) : REL t nN nM (va_up ns i n') ms rt A' B := by
  obtain ⟨x1, x2, x3, x4, ⟨x5, x6, x7⟩, x8⟩ := hR
  refine ⟨x1, fun k hk => ?_, fun j hj => (x3 j hj).kept (Nat.le_refl _) (fun r _ _ => hA r _ (by omega)) rfl (fun q _ => hA _ _ (by omega)), fun k hk => (x4 k hk).trans (hA _ _ (by omega)).symm, ⟨fun k hk => (hA _ _ (by omega)).trans (x5 k hk), x6, fun k hk => ⟨(hA _ _ (by omega)).trans (x7 k hk).1, (hA _ _ (by omega)).trans (x7 k hk).2⟩⟩, fun k hk => ?_⟩
  · by_cases e : k = i
    · subst e
      rw [va_up_self]
      obtain ⟨z1, z2, z3, z4, z5, z6, z7, z8⟩ := x2 k hk
      refine ⟨by rw [hn.1]; exact z1, by rw [hn.1]; exact z2, by rw [hn.2.1, hn.2.2.1]; exact z3, by rw [hn.2.1, hA _ _ (by omega)]; exact z4, by rw [hn.2.2.1, hA _ _ (by omega)]; exact z5, by rw [hn.2.2.2]; exact z6, by rw [hn.2.2.2]; exact z7, fun c hc' => ?_⟩
      by_cases e : c = b
      · subst e; exact hc
      · rw [(ho c e).1, (ho c e).2.1, (ho c e).2.2]
        exact (z8 c hc').kept (fun r _ _ => hA r _ (by omega))
    · rw [va_up_ne _ _ e]
      exact (x2 k hk).kept (hA _ _ (by omega)) (hA _ _ (by omega)) rfl rfl (fun r _ _ c _ => hA r _ (by omega))
  · by_cases e : k = i
    · subst e; rw [va_up_self, hn.1]; exact x8 k hk
    · rw [va_up_ne _ _ e]; exact x8 k hk
theorem nI_sb {a b : Nat} (h : b ≤ a) : nI a - nI b = nI (a - b) := (Int32.ofNat_sub a b h).symm
theorem ag_country {x : CST} {y : RST} (h : RX x y) (n c d : Int32) : AG (sC_country x n c d) (sR_country y n c d) := by
  obtain ⟨t, lm, nN, nM, ns, ms, rt, A, B, rfl, rfl, hR⟩ := h.unf
  unfold sC_country sR_country
  dsimp only
  rcases ix_cases (m := nN) (by have := hR.1.1; omega) n with ⟨h1, -⟩ | ⟨i, hi, -, h1, -⟩ <;> rw [h1]
  · exact ⟨rfl, h⟩
  dsimp only
  rw [show (0 : Int64) = (0 : Int32).toInt64 from rfl, show (1000 : Int64) = (1000 : Int32).toInt64 from rfl]
  have same : ∀ {lm : Int32}, RX (t, lm, nN, nM, va_up ns i (ns i), ms, rt) (t, lm, nN, nM, A, B) := by
    intro lm
    rw [va_up_same]; exact RX.mk lm hR
  by_cases cd : d < 0
  · rw [if_pos cd]
    rcases ix_cases (m := 6) (by decide) c with ⟨h2, -⟩ | ⟨b, hb, -, h2, -⟩ <;> rw [h2]
    · exact ⟨rfl, h⟩
    · dsimp only; rw [if_pos (in_i.mpr (Or.inl cd))]; exact ⟨rfl, h⟩
  rw [if_neg cd]
  by_cases ce : d ≤ 1000
  · rw [if_pos ce]
    unfold ns_ask
    rcases ix_cases (m := 6) (by decide) c with ⟨h2, h3⟩ | ⟨b, hb, rfl, h2, h3, h4⟩ <;> rw [h2]
    · dsimp only
      by_cases c1 : c < 0
      · rw [if_pos c1]; exact ⟨rfl, same⟩
      · rw [if_neg c1, if_pos (show (6 : Int32) ≤ c from Int32.not_lt.mp (h3.resolve_left c1))]; exact ⟨rfl, same⟩
    · dsimp only
      rw [if_neg h3, if_neg (show ¬ (6 : Int32) ≤ nI b from Int32.not_le.mpr h4), nI_clamp (by omega), if_neg (fun z => (in_i.mp z).elim cd (fun z => z ce))]
      have hc := (hR.2.1 i hi).2.2.2.2.2.2.2 b hb
      by_cases c5 : (ns i).2.2.2.1 b = 0
      · have z5 : A 5 (6 * i + b) = 0 := by
          rcases hc.one with ⟨z5, ha⟩ | ⟨z5, z8, ha⟩ | ⟨z5, z8, ha⟩ | ⟨z5, z8, zs, ha⟩ | ⟨z5, z8, zs, ha⟩
          · exact z5
          all_goals (rw [ha] at c5; exact absurd c5 (by decide))
        rw [if_pos c5, if_pos z5]
        refine ⟨rfl, RX.mk lm (hR.ctry hi hb (fun r k hk => ?_) ⟨rfl, rfl, rfl, rfl⟩ (fun c hc => ?_) ?_)⟩
        · rw [rA_o (by omega), rA_o (by omega), rA_o (by omega), rA_o (by omega)]
        · simp [upd, hc]
        · obtain ⟨-, -, tt, ht, et⟩ := hR.1
          obtain ⟨q, hq, rfl⟩ := nI_of cd
          have hq2 := (nI_leI hq (by decide : 1000 < 2 ^ 31)).mp ce
          refine Or.inr ⟨?_, ?_, ?_, ⟨tt, q, tt, ?_, ?_, et, Nat.le_refl _, ht, hq2⟩, Or.inr (Or.inr ⟨rA_s, ?_⟩)⟩
          · rw [rA_o (by omega), rA_o (by omega), rA_o (by omega), rA_s]
          · rw [rA_o (by omega), rA_s]; simp [upd]
          · rw [rA_o (by omega), rA_o (by omega), rA_s]; simp [upd]
          · simp [upd, et]
          · simp [upd]
          · simp only [upd, if_true]
            rw [et, nI_sb (Nat.le_refl _), Nat.sub_self, if_pos (nI_le (Nat.zero_le _) hq)]
      · have z5 : ¬ A 5 (6 * i + b) = 0 := by
          rcases hc.one with ⟨z5, ha⟩ | ⟨z5, z8, ha⟩ | ⟨z5, z8, ha⟩ | ⟨z5, z8, zs, ha⟩ | ⟨z5, z8, zs, ha⟩
          · exact absurd ha c5
          all_goals (rw [z5]; decide)
        rw [if_neg c5, if_neg z5]
        exact ⟨rfl, same⟩
  · rw [if_neg ce]
    rcases ix_cases (m := 6) (by decide) c with ⟨h2, -⟩ | ⟨b, hb, -, h2, -⟩ <;> rw [h2]
    · exact ⟨rfl, h⟩
    · dsimp only; rw [if_pos (in_i.mpr (Or.inr ce))]; exact ⟨rfl, h⟩
theorem ag_says {x : CST} {y : RST} (h : RX x y) (n c w_ : Int32) : AG (sC_says x n c w_) (sR_says y n c w_) := by
  obtain ⟨t, lm, nN, nM, ns, ms, rt, A, B, rfl, rfl, hR⟩ := h.unf
  unfold sC_says sR_says
  dsimp only
  rcases ix_cases (m := nN) (by have := hR.1.1; omega) n with ⟨h1, -⟩ | ⟨i, hi, -, h1, -⟩ <;> rw [h1]
  · exact ⟨rfl, h⟩
  dsimp only
  have same : ∀ {lm : Int32}, RX (t, lm, nN, nM, va_up ns i (ns i), ms, rt) (t, lm, nN, nM, A, B) := by
    intro lm
    rw [va_up_same]; exact RX.mk lm hR
  unfold ns_ans
  rcases ix_cases (m := 6) (by decide) c with ⟨h2, h3⟩ | ⟨b, hb, rfl, h2, h3, h4⟩ <;> rw [h2]
  · dsimp only
    by_cases c1 : c < 0
    · rw [if_pos c1]; exact ⟨rfl, same⟩
    · rw [if_neg c1, if_pos (show (6 : Int32) ≤ c from Int32.not_lt.mp (h3.resolve_left c1))]; exact ⟨rfl, same⟩
  dsimp only
  rw [if_neg h3, if_neg (show ¬ (6 : Int32) ≤ nI b from Int32.not_le.mpr h4), nI_clamp (by omega)]
  have hc := (hR.2.1 i hi).2.2.2.2.2.2.2 b hb
  rcases hc.one with ⟨z5, ha⟩ | ⟨z5, z8, ha⟩ | ⟨z5, z8, ha⟩ | ⟨z5, z8, zs, ha⟩ | ⟨z5, z8, zs, ha⟩
  · rw [if_neg (show ¬ (ns i).2.2.2.1 b = 1 by rw [ha]; decide), if_pos z5]; exact ⟨rfl, same⟩
  · rw [if_neg (show ¬ (ns i).2.2.2.1 b = 1 by rw [ha]; decide), if_neg (show ¬ A 5 (6 * i + b) = 0 by rw [z5]; decide), if_neg (show ¬ A 8 (6 * i + b) = 0 by rw [z8]; decide)]; exact ⟨rfl, same⟩
  · rw [if_neg (show ¬ (ns i).2.2.2.1 b = 1 by rw [ha]; decide), if_neg (show ¬ A 5 (6 * i + b) = 0 by rw [z5]; decide), if_neg (show ¬ A 8 (6 * i + b) = 0 by rw [z8]; decide)]; exact ⟨rfl, same⟩
  · rw [if_pos ha, if_neg (show ¬ A 5 (6 * i + b) = 0 by rw [z5]; decide), if_pos z8, if_pos zs]
    refine ⟨rfl, RX.mk lm (hR.ctry hi hb (fun r k hk => rA_o (by omega)) ⟨rfl, rfl, rfl, rfl⟩ (fun c hc => ?_) ?_)⟩
    · simp [upd, hc]
    · rcases hc with ⟨w5, -⟩ | ⟨w5, w7, w6, w, -⟩
      · rw [z5] at w5; exact absurd w5 (by decide)
      · refine Or.inr ⟨(rA_o (by omega)).trans w5, (rA_o (by omega)).trans w7, (rA_o (by omega)).trans w6, w, ?_⟩
        rw [rA_s]
        by_cases q : w_ = 0
        · exact Or.inr (Or.inl (by simp [upd, q]))
        · exact Or.inl (by simp [upd, q])
  · rw [if_neg (show ¬ (ns i).2.2.2.1 b = 1 by rw [ha]; decide), if_neg (show ¬ A 5 (6 * i + b) = 0 by rw [z5]; decide), if_pos z8, if_neg (show ¬ sR_sil A (6 * i + b) t = 0 by rw [zs]; decide)]; exact ⟨rfl, same⟩
theorem cc_of (hR : REL t nN nM ns ms rt A B) {j : Nat} (hj : j < nM) : sR_cc A j = (ms j).2.2.2.2.1 ∧ A 15 j = nI (sR_cc A j) ∧ sR_cc A j ≤ 6 := by
  obtain ⟨-, -, -, ⟨h1, h2, -⟩, -⟩ := hR.2.2.1 j hj
  have e : sR_cc A j = (ms j).2.2.2.2.1 := by unfold sR_cc; rw [h1, nI_clamp (by omega)]
  rw [e]
  exact ⟨rfl, h1, h2⟩
/-- one move changes -/
theorem REL.mv1 (hR : REL t nN nM ns ms rt A B) {j : Nat} {A' : RA} {m' : MS} (hA : ∀ r k, (r < 12 ∨ 16 < r ∨ (r < 16 ∧ k ≠ j) ∨ (r = 16 ∧ (k < 6 * j ∨ 6 * j + 6 ≤ k))) → A' r k = A r k) (hj : j < nM) (hm : RELm nN A' B j m') (h1 : m'.1 = (ms j).1) (h2 : m'.2.1 = (ms j).2.1) (h3 : sp_uses (ms j).2.2.2.2.2.1 = 0 → sp_uses m'.2.2.2.2.2.1 = 0) : REL t nN nM ns (va_up ms j m') rt A' B := by
  obtain ⟨x1, x2, x3, x4, ⟨x5, x6, x7⟩, x8⟩ := hR
  refine ⟨x1, fun i hi => (x2 i hi).kept (hA _ _ (by omega)) (hA _ _ (by omega)) rfl rfl (fun r _ _ c _ => hA r _ (by omega)), fun k hk => ?_, fun k hk => (x4 k hk).trans (hA _ _ (by omega)).symm, ⟨fun k hk => (hA _ _ (by omega)).trans (x5 k hk), x6, fun k hk => ⟨(hA _ _ (by omega)).trans (x7 k hk).1, (hA _ _ (by omega)).trans (x7 k hk).2⟩⟩, fun i hi => ?_⟩
  · by_cases e : k = j
    · subst e; rw [va_up_self]; exact hm
    · rw [va_up_ne _ _ e]
      exact (x3 k hk).kept (Nat.le_refl _) (fun r _ _ => hA _ _ (by omega)) rfl (fun q _ => hA _ _ (by omega))
  · refine Nat.le_trans (sG_le (fun k hk => ?_)) (x8 i hi)
    by_cases e : k = j
    · subst e; rw [va_up_self]; exact ⟨h1, h2, h3⟩
    · rw [va_up_ne _ _ e]; exact ⟨rfl, rfl, fun z => z⟩
theorem ag_carrier {x : CST} {y : RST} (h : RX x y) (m c : Int32) : AG (sC_carrier x m c) (sR_carrier y m c) := by
  obtain ⟨t, lm, nN, nM, ns, ms, rt, A, B, rfl, rfl, hR⟩ := h.unf
  unfold sC_carrier sR_carrier
  dsimp only
  rcases ix_cases (m := nM) (by have := hR.1.2.1; omega) m with ⟨h1, -⟩ | ⟨j, hj, -, h1, -⟩ <;> rw [h1]
  · exact ⟨rfl, h⟩
  dsimp only [m_st]
  have same : RX (t, lm, nN, nM, ns, va_up ms j (ms j), rt) (t, lm, nN, nM, A, B) := by
    rw [va_up_same]; exact RX.mk lm hR
  rw [show (0 : Int64) = (0 : Int32).toInt64 from rfl, show (99 : Int64) = (99 : Int32).toInt64 from rfl]
  obtain ⟨z1, z2, z3, ⟨z4, z4', z4''⟩, ⟨z5, z5'⟩, z6, z7⟩ := hR.2.2.1 j hj
  obtain ⟨w1, w2, w3⟩ := cc_of hR hj
  by_cases c1 : (ms j).2.2.2.2.2.1 = 1
  · have d1 : A 12 j = 1 := z5.trans c1
    rw [if_pos c1]
    by_cases c2 : c < 0
    · rw [if_pos c2, if_pos (in_i.mpr (Or.inl c2))]; exact ⟨rfl, h⟩
    rw [if_neg c2]
    by_cases c3 : c < 100
    · have c3' : c ≤ 99 := by
        rw [Int32.lt_iff_toInt_lt, show (100 : Int32).toInt = 100 by decide] at c3
        rw [Int32.le_iff_toInt_le, show (99 : Int32).toInt = 99 by decide]
        omega
      rw [if_pos c3, if_neg (fun z => (in_i.mp z).elim c2 (fun z => z c3')), if_pos d1]
      unfold ms_addc
      by_cases c4 : 6 ≤ (ms j).2.2.2.2.1
      · rw [if_pos c4, if_pos (show sR_cc A j = 6 by omega)]; exact ⟨rfl, same⟩
      rw [if_neg c4, if_neg (show ¬ sR_cc A j = 6 by omega)]
      have hb : (sp_back (ms j).2.2.2.1 (ms j).2.2.2.2.1 0 = c) ↔ (0 < sR_cc A j ∧ A 16 (6 * j + sR_cc A j - 1) = c) := by
        unfold sp_back
        rw [if_neg (by decide), w1]
        by_cases q : 0 < (ms j).2.2.2.2.1
        · rw [if_pos (show (0 : Int32) < nI (ms j).2.2.2.2.1 from nI_lt (a := 0) q (by omega)), show (ms j).2.2.2.2.1 - 1 - (0 : Int32).toNatClampNeg = (ms j).2.2.2.2.1 - 1 from rfl, ← z4'' _ (by omega), show 6 * j + (ms j).2.2.2.2.1 - 1 = 6 * j + ((ms j).2.2.2.2.1 - 1) by omega]
          simp [q]
        · rw [show (ms j).2.2.2.2.1 = 0 by omega, if_neg (by decide)]
          refine ⟨fun z => ?_, fun z => absurd z.1 (by decide)⟩
          rw [← z] at c2
          exact absurd (by decide) c2
      by_cases c5 : sp_back (ms j).2.2.2.1 (ms j).2.2.2.2.1 0 = c
      · rw [if_pos c5, if_pos (hb.mp c5)]; exact ⟨rfl, same⟩
      · rw [if_neg c5, if_neg (fun z => c5 (hb.mpr z))]
        refine ⟨by rw [w1], RX.mk lm (hR.mv1 (fun r k hk => ?_) hj ?_ rfl rfl (fun z => z))⟩
        · rw [rA_o (by omega), rA_o (by omega)]
        · rw [w1]
          refine ⟨⟨?_, z1.2⟩, z2, ?_, ⟨rA_s, by show (ms j).2.2.2.2.1 + 1 ≤ 6; omega, fun k hk => ?_⟩, ⟨?_, z5'⟩, ?_, ?_⟩
          · rw [rA_o (by omega), rA_o (by omega)]; exact z1.1
          · rw [rA_o (by omega), rA_o (by omega)]; exact z3
          · have hk : k < (ms j).2.2.2.2.1 + 1 := hk
            rw [rA_o (by omega)]
            show rA A 16 (6 * j + (ms j).2.2.2.2.1) c 16 (6 * j + k) = upd (ms j).2.2.2.1 (ms j).2.2.2.2.1 c k
            by_cases e : k = (ms j).2.2.2.2.1
            · subst e; rw [rA_s]; simp [upd]
            · rw [rA_o (by omega), z4'' k (by omega)]; simp [upd, e]
          · rw [rA_o (by omega), rA_o (by omega)]; exact z5
          · rw [rA_o (by omega), rA_o (by omega)]; exact z6
          · rw [rA_o (by omega), rA_o (by omega)]; exact z7
    · have c3' : ¬ c ≤ 99 := by
        rw [Int32.lt_iff_toInt_lt, show (100 : Int32).toInt = 100 by decide] at c3
        rw [Int32.le_iff_toInt_le, show (99 : Int32).toInt = 99 by decide]
        omega
      rw [if_neg c3, if_pos (in_i.mpr (Or.inr c3'))]; exact ⟨rfl, h⟩
  · rw [if_neg c1, if_neg (show ¬ A 12 j = 1 from fun z => c1 (z5.symm.trans z))]
    refine ⟨?_, ?_⟩
    · split <;> rfl
    · split <;> exact h
theorem leads_eq : ∀ b, b < 5 → ∀ s, s < 6 → (sp_leads (b * 6 + s) = -1 ↔ sR_leads (nI s) (nI b) = 0) ∧ (sp_leads (b * 6 + s) = -1 ∨ (sp_leads (b * 6 + s) = nI b + 1 ∧ s < 3)) := by decide +kernel
theorem ag_evR (hR : REL t nN nM ns ms rt A B) (lm : Int32) {j b : Nat} (hj : j < nM) (hb : b < 5) (h3 : ∃ s, s < 3 ∧ (ms j).2.2.2.2.2.1 = nI s) : AG (sC_evR (t, lm, nN, nM, ns, ms, rt) j (nI b + 1)) (sR_evR (t, lm, nN, nM, A, B) j (nI b)) := by
  obtain ⟨z1, z2, z3, ⟨z4, z4', z4''⟩, ⟨z5, z5'⟩, z6, z7⟩ := hR.2.2.1 j hj
  refine ⟨rfl, RX.mk lm (hR.mv1 (fun r k hk => ?_) hj ?_ rfl rfl (fun z => ?_))⟩
  · rw [rA_o (by omega), rA_o (by omega)]
  · refine ⟨⟨?_, z1.2⟩, z2, ?_, ⟨?_, z4', fun k hk => ?_⟩, ⟨?_, ?_⟩, rA_s, ?_⟩
    · rw [rA_o (by omega), rA_o (by omega)]; exact z1.1
    · rw [rA_o (by omega), rA_o (by omega)]; exact z3
    · rw [rA_o (by omega), rA_o (by omega)]; exact z4
    · rw [rA_o (by omega), rA_o (by omega)]; exact z4'' k hk
    · rw [rA_o (by omega), rA_s]; rfl
    · exact ⟨b + 1, by omega, nI_1 b⟩
    · rw [rA_o (by omega), rA_o (by omega)]; exact z7
  · obtain ⟨s, hs, e⟩ := h3
    rw [e] at z
    revert z
    have : ∀ s, s < 3 → ¬ sp_uses (nI s) = 0 := by decide +kernel
    exact fun z => absurd z (this s hs)
theorem ag_event {x : CST} {y : RST} (h : RX x y) (m e p : Int32) : AG (sC_event x m e p) (sR_event y m e p) := by
  obtain ⟨t, lm, nN, nM, ns, ms, rt, A, B, rfl, rfl, hR⟩ := h.unf
  unfold sC_event sR_event
  dsimp only
  rcases ix_cases (m := nM) (by have := hR.1.2.1; omega) m with ⟨h1, -⟩ | ⟨j, hj, -, h1, -⟩ <;> rw [h1]
  · exact ⟨rfl, h⟩
  dsimp only
  rcases ix_cases (m := 5) (by decide) e with ⟨h2, -⟩ | ⟨b, hb, rfl, h2, -⟩ <;> rw [h2]
  · exact ⟨rfl, h⟩
  dsimp only
  rcases ix_cases (m := 8) (by decide) p with ⟨h3, -⟩ | ⟨a, ha, -, h3, -⟩ <;> rw [h3]
  · exact ⟨rfl, h⟩
  dsimp only [m_st]
  obtain ⟨⟨z1, i, hi, z1'⟩, z2, z3, z4, ⟨z5, s, hs, z5'⟩, z6, z7⟩ := hR.2.2.1 j hj
  have q1 : sC_may (A 17) p (nI b) = sC_may rt p (nI b) := (may_eq hR p (nI b)).symm
  by_cases c1 : sC_may rt p (nI b) = 0
  · rw [if_pos c1, if_pos (show sC_may (A 17) p (nI b) = 0 from q1.trans c1)]; exact ⟨rfl, h⟩
  rw [if_neg c1, if_neg (show ¬ sC_may (A 17) p (nI b) = 0 from fun z => c1 (q1.symm.trans z))]
  have q2 : sC_next (nI b) (ms j).2.2.2.2.2.1 = sp_leads (b * 6 + s) := by
    unfold sC_next
    rw [h2, z5', ix_nI (show s < 6 by omega) (by decide)]
  rw [q2]
  obtain ⟨l1, l2⟩ := leads_eq b hb s (by omega)
  by_cases c2 : sp_leads (b * 6 + s) = -1
  · rw [if_pos c2, if_pos (show sR_leads (A 12 j) (nI b) = 0 by rw [z5, z5']; exact l1.mp c2)]; exact ⟨rfl, h⟩
  rw [if_neg c2, if_neg (show ¬ sR_leads (A 12 j) (nI b) = 0 by rw [z5, z5']; exact fun z => c2 (l1.mpr z))]
  obtain ⟨l3, l4⟩ := l2.resolve_left c2
  rw [l3]
  have fin := ag_evR hR lm hj hb ⟨s, l4, z5'⟩
  have fin2 : AG (sC_ev2 (t, lm, nN, nM, ns, ms, rt) j (nI b) (nI b + 1)) (sR_ev2 (t, lm, nN, nM, A, B) j (nI b)) := by
    unfold sC_ev2 sR_ev2
    by_cases c3 : nI b = 2
    · rw [if_pos c3, if_pos c3]
      by_cases c4 : (ms j).2.2.2.2.2.2.2 = 0
      · rw [if_pos c4, if_pos (show A 14 j = 0 from z7.trans c4)]; exact ⟨rfl, h⟩
      · rw [if_neg c4, if_neg (show ¬ A 14 j = 0 from fun z => c4 (z7.symm.trans z))]; exact fin
    · rw [if_neg c3, if_neg c3]; exact fin
  by_cases c3 : nI b = 0
  · rw [if_pos c3, if_pos c3]
    have q3 : sC_can t nN ns (ms j) = (if t < (ms j).2.2.1 then 0 else if sp_state (ns i).2.2.2.1 (ns i).2.2.1 t = 1 then 1 else 0) := by
      unfold sC_can
      rw [show m_no (ms j) = nI i from z1', ix_nI hi (by have := hR.1.1; omega)]
    have q4 : sR_state t nN A (A 9 j) = sp_state (ns i).2.2.2.1 (ns i).2.2.1 t := by
      unfold sR_state
      rw [z1, z1', ix_nI hi (by have := hR.1.1; omega)]
      exact (hR.2.1 i hi).state
    by_cases c4 : t < (ms j).2.2.1
    · rw [if_pos (show sC_can t nN ns (ms j) = 0 by rw [q3, if_pos c4]), if_pos (show t < A 11 j by rw [z3]; exact c4)]; exact ⟨rfl, h⟩
    · rw [if_neg (show ¬ t < A 11 j by rw [z3]; exact c4)]
      by_cases c5 : sp_state (ns i).2.2.2.1 (ns i).2.2.1 t = 1
      · rw [if_neg (show ¬ sC_can t nN ns (ms j) = 0 by rw [q3, if_neg c4, if_pos c5]; decide), if_pos (show sR_state t nN A (A 9 j) = 1 from q4.trans c5)]
        exact fin2
      · rw [if_pos (show sC_can t nN ns (ms j) = 0 by rw [q3, if_neg c4, if_neg c5]), if_neg (show ¬ sR_state t nN A (A 9 j) = 1 from fun z => c5 (q4.symm.trans z))]; exact ⟨rfl, h⟩
  · rw [if_neg c3, if_neg c3]; exact fin2
theorem ag_move {x : CST} {y : RST} (h : RX x y) (n : Int32) (g : Int64) (d : Int32) : AG (sC_move x n g d) (sR_move y n g d) := by
  obtain ⟨t, lm, nN, nM, ns, ms, rt, A, B, rfl, rfl, hR⟩ := h.unf
  unfold sC_move sR_move
  dsimp only
  have hM := hR.1.2.1
  have hN := hR.1.1
  rcases ix_cases (m := nN) (by omega) n with ⟨h1, -⟩ | ⟨i, hi, rfl, h1, -⟩ <;> rw [h1]
  · exact ⟨rfl, h⟩
  dsimp only
  obtain ⟨⟨w, z1, z1', z1''⟩, z2, z3, z4, z5, z6, z7, z8⟩ := hR.2.1 i hi
  have hcov : sp_covers (ns i).2.1 (ns i).2.2.1 d = 0 ↔ sR_in d.toInt64 (A 2 i).toInt64 (A 3 i).toInt64 = 0 := by
    rw [in_i, z4, z5]
    unfold sp_covers
    by_cases q1 : d < (ns i).2.1
    · simp [q1]
    · by_cases q2 : (ns i).2.2.1 < d
      · simp [q1, q2, Int32.not_le.mpr q2]
      · simp [q1, q2, Int32.not_lt.mp q2]
  have hst := (hR.2.1 i hi).state
  have hlf : sR_lf A B (B 1 i) (nI i) nM = (ns i).1 - sC_gim ms (nI i) nM := by
    rw [lf_eq (ms := ms) (nN := nN) _ _ (fun j hj => hR.2.2.1 j hj), z2]
  have none_ : AG (-1, (t, lm, nN, nM, ns, ms, rt)) (-1, (t, lm, nN, nM, A, B)) := ⟨rfl, h⟩
  by_cases c1 : g < 1
  · rw [if_pos c1, if_neg (Int64.not_le.mpr c1)]
    by_cases c2 : 12 ≤ nM
    · rw [if_pos c2]; exact none_
    · rw [if_neg c2]; exact none_
  rw [if_neg c1, if_pos (Int64.not_lt.mp c1)]
  by_cases c3 : sp_covers (ns i).2.1 (ns i).2.2.1 d = 0
  · rw [if_pos c3, if_pos (hcov.mp c3)]
    by_cases c2 : 12 ≤ nM
    · rw [if_pos c2]; exact none_
    · rw [if_neg c2]; exact none_
  rw [if_neg c3, if_neg (fun z => c3 (hcov.mpr z))]
  by_cases c4 : d < t + 3
  · rw [if_pos c4, if_neg (Int32.not_le.mpr c4)]
    by_cases c2 : 12 ≤ nM
    · rw [if_pos c2]; exact none_
    · rw [if_neg c2]; exact none_
  rw [if_neg c4, if_pos (Int32.not_lt.mp c4)]
  by_cases c2 : 12 ≤ nM
  · rw [if_pos c2, if_pos (show nM = 12 by omega)]; exact none_
  rw [if_neg c2, if_neg (show ¬ nM = 12 by omega)]
  by_cases c5 : sp_state (ns i).2.2.2.1 (ns i).2.2.1 t = 1
  · rw [if_pos c5, if_pos (show sR_stt A t i = 1 from hst.trans c5)]
    by_cases c6 : g ≤ (ns i).1 - sC_gim ms (nI i) nM
    · rw [if_pos c6, if_pos (show g ≤ sR_lf A B (B 1 i) (nI i) nM by rw [hlf]; exact c6)]
      refine ⟨rfl, RX.mk lm ?_⟩
      have hS := hR.2.2.2.2.2 i hi
      rw [z1, lN_cl (by omega)] at hS
      rw [hR.gim, z1, lN_sb hS] at c6
      obtain ⟨q, hq, rfl⟩ := lN_of (x := g) (fun z => c1 (Int64.lt_iff_toInt_lt.mpr (by rw [Int64.lt_iff_toInt_lt] at z; exact Int.lt_trans z (by decide))))
      rw [lN_lle hq (by omega)] at c6
      obtain ⟨x1, x2, x3, x4, ⟨x5, x6, x7⟩, x8⟩ := hR
      have o4 : ∀ {r k : Nat}, (r < 9 ∨ r = 10 ∨ 13 < r ∨ k ≠ nM) → rA (rA (rA (rA A 9 nM (nI i)) 11 nM d) 12 nM 0) 13 nM t r k = A r k := fun {r k} hk => by rw [rA_o (by omega), rA_o (by omega), rA_o (by omega), rA_o (by omega)]
      refine ⟨⟨hN, by omega, x1.2.2⟩, fun k hk => (x2 k hk).kept (o4 (by omega)) (o4 (by omega)) (rB_o (by omega)) (rB_o (by omega)) (fun r _ _ c _ => o4 (by omega)), fun k hk => ?_, fun k hk => (x4 k hk).trans (o4 (by omega)).symm, ⟨fun k hk => (o4 (by omega)).trans (x5 k hk), fun k hk => (rB_o (by omega)).trans (x6 k hk), fun k hk => ⟨(o4 (by omega)).trans (x7 k (by omega)).1, (o4 (by omega)).trans (x7 k (by omega)).2⟩⟩, fun k hk => ?_⟩
      · by_cases e : k = nM
        · subst e
          rw [va_up_self]
          refine ⟨⟨?_, i, hi, rfl⟩, ⟨rB_s, q, rfl, by omega⟩, ?_, ⟨(o4 (by omega)).trans ((x7 _ (Nat.le_refl _)).2.trans rfl), Nat.zero_le 6, fun k hk => absurd hk (Nat.not_lt_zero _)⟩, ⟨?_, 0, by decide, rfl⟩, rA_s, (o4 (by omega)).trans (x7 _ (Nat.le_refl _)).1⟩
          · rw [rA_o (by omega), rA_o (by omega), rA_o (by omega), rA_s]
          · rw [rA_o (by omega), rA_o (by omega), rA_s]
          · rw [rA_o (by omega), rA_s]
        · rw [va_up_ne _ _ e]
          exact (x3 k (by omega)).kept (Nat.le_refl _) (fun r _ _ => o4 (by omega)) (rB_o (by omega)) (fun q _ => o4 (by omega))
      · show sG (va_up ms nM (nI i, lN q, d, fun _ => 0, 0, 0, t, 0)) (nI k) nM + (if (va_up ms nM (nI i, lN q, d, fun _ => 0, 0, 0, t, 0) nM).1 = nI k then (if sp_uses (va_up ms nM (nI i, lN q, d, fun _ => 0, 0, 0, t, 0) nM).2.2.2.2.2.1 = 0 then 0 else (va_up ms nM (nI i, lN q, d, fun _ => 0, 0, 0, t, 0) nM).2.1.toNatClampNeg) else 0) ≤ (ns k).1.toNatClampNeg
        have e1 : sG (va_up ms nM (nI i, lN q, d, fun _ => 0, 0, 0, t, 0)) (nI k) nM = sG ms (nI k) nM := sG_cong (fun j hj => va_up_ne _ _ (by omega))
        rw [e1, va_up_self]
        dsimp only
        by_cases e : i = k
        · subst e
          rw [if_pos rfl, if_neg (show ¬ sp_uses 0 = 0 by decide), lN_cl hq, z1, lN_cl (by omega)]
          omega
        · rw [if_neg (fun z => e ((nI_eq (by omega) (by omega)).mp z))]
          exact x8 k hk
    · rw [if_neg c6, if_neg (show ¬ g ≤ sR_lf A B (B 1 i) (nI i) nM by rw [hlf]; exact c6)]; exact ⟨rfl, h⟩
  · rw [if_neg c5, if_neg (show ¬ sR_stt A t i = 1 from fun z => c5 (hst.symm.trans z))]; exact ⟨rfl, h⟩
-- day
theorem sil_arr (ao dy : Nat → Int32) (a : Int32) (an : Nat → Int32) : ∀ c c', (sp_sil ao dy a an c).1 c' = if c' < c ∧ an c' = 1 ∧ ¬ a - ao c' ≤ dy c' then 2 else an c'
  | 0, c' => by simp [sp_sil]
  | c + 1, c' => by
    have ih := sil_arr ao dy a an c c'
    have ihc := sil_arr ao dy a an c c
    rw [if_neg (fun z => absurd z.1 (Nat.lt_irrefl _))] at ihc
    unfold sp_sil
    rw [ihc]
    by_cases c1 : an c = 1
    · rw [if_pos c1]
      by_cases c2 : a - ao c ≤ dy c
      · rw [if_pos c2, ih]
        by_cases e : c' = c
        · subst e; simp [c2]
        · simp [show c' < c + 1 ↔ c' < c by omega]
      · rw [if_neg c2]
        show upd (sp_sil ao dy a an c).1 c 2 c' = _
        by_cases e : c' = c
        · subst e; simp [upd, c1, c2]
        · simp [upd, e, ih, show c' < c + 1 ↔ c' < c by omega]
    · rw [if_neg c1, ih]
      by_cases e : c' = c
      · subst e; simp [c1]
      · simp [show c' < c + 1 ↔ c' < c by omega]
theorem RELc.cnt {t : Int32} {A : RA} {k : Nat} {x o d : Int32} (h : RELc t A k x o d) (a : Int32) : (if sR_sil A k a = 0 then (0 : Int32) else if sR_sil A k t = 0 then 1 else 0) = if x = 1 ∧ ¬ a - o ≤ d then 1 else 0 := by
  rcases h with ⟨h5, hx⟩ | ⟨h5, h7, h6, -, ⟨h8, hx⟩ | ⟨h8, hx⟩ | ⟨h8, hx⟩⟩
  · simp [sR_sil, h5, hx]
  · simp [sR_sil, h5, h8, hx]
  · simp [sR_sil, h5, h8, hx]
  · rw [hx]
    by_cases c1 : a - o ≤ d <;> by_cases c2 : t - o ≤ d <;> simp [sR_sil, h5, h8, h7, h6, c1, c2]
theorem RELc.day {t : Int32} {A : RA} {k : Nat} {x o d : Int32} (h : RELc t A k x o d) {a : Int32} {aa : Nat} (ea : a = nI aa) (ha : aa ≤ 100000) (hta : ¬ a < t) : RELc a A k (if x = 1 ∧ ¬ a - o ≤ d then 2 else x) o d := by
  rcases h with ⟨h5, hx⟩ | ⟨h5, h7, h6, ⟨p, q, tt, e1, e2, e3, b1, b2, b3⟩, hh⟩
  · exact Or.inl ⟨h5, by simp [hx]⟩
  · have hlt : tt ≤ aa := by
      rw [ea, e3] at hta
      exact Nat.le_of_not_lt (fun z => hta (nI_lt z (by omega)))
    refine Or.inr ⟨h5, h7, h6, ⟨p, q, aa, e1, e2, ea, by omega, ha, b3⟩, ?_⟩
    rcases hh with ⟨h8, hx⟩ | ⟨h8, hx⟩ | ⟨h8, hx⟩
    · exact Or.inl ⟨h8, by simp [hx]⟩
    · exact Or.inr (Or.inl ⟨h8, by simp [hx]⟩)
    · refine Or.inr (Or.inr ⟨h8, ?_⟩)
      rw [hx]
      by_cases c1 : t - o ≤ d
      · by_cases c2 : a - o ≤ d <;> simp [c1, c2]
      · have c2 : ¬ a - o ≤ d := fun z => c1 (by
          rw [ea, e1, nI_sb (by omega), e2, nI_leI (by omega) (by omega)] at z
          rw [e3, e1, nI_sb b1, e2, nI_leI (by omega) (by omega)]
          omega)
        simp [c1, c2]
theorem sil_cnt {t a : Int32} {A : RA} {i : Nat} {an ao dy : Nat → Int32} (h : ∀ c, c < 6 → RELc t A (6 * i + c) (an c) (ao c) (dy c)) : ∀ c, c ≤ 6 → sR_dn A t a (6 * i + c) = sR_dn A t a (6 * i) + nI (sp_sil ao dy a an c).2
  | 0, _ => by
    show sR_dn A t a (6 * i) = sR_dn A t a (6 * i) + 0
    simp
  | c + 1, hc => by
    have ih := sil_cnt (a := a) h c (by omega)
    have e := (h c (by omega)).cnt a
    have ea := sil_arr ao dy a an c c
    rw [if_neg (fun z => absurd z.1 (Nat.lt_irrefl _))] at ea
    show sR_dn A t a (6 * i + c) + (if sR_sil A (6 * i + c) a = 0 then (0 : Int32) else if sR_sil A (6 * i + c) t = 0 then 1 else 0) = _
    rw [e, ih]
    conv => rhs; unfold sp_sil
    rw [ea]
    by_cases c1 : an c = 1
    · by_cases c2 : a - ao c ≤ dy c
      · simp [c1, c2]
      · rw [if_pos ⟨c1, c2⟩, if_pos c1, if_neg c2, ← nI_1, Int32.add_assoc]
    · simp [c1]
theorem dn_eq (hR : REL t nN nM ns ms rt A B) (a : Int32) : ∀ k, k ≤ nN → (sC_dn a ns k).1 = sR_dn A t a (6 * k) ∧ ∀ i, (sC_dn a ns k).2 i = if i < k then (ns_sil (ns i) a).2 else ns i
  | 0, _ => ⟨rfl, fun i => by simp [sC_dn]⟩
  | k + 1, hk => by
    obtain ⟨h1, h2⟩ := dn_eq hR a k (by omega)
    have e : (sC_dn a ns k).2 k = ns k := by rw [h2 k, if_neg (Nat.lt_irrefl _)]
    refine ⟨?_, fun i => ?_⟩
    · show (sC_dn a ns k).1 + nI (ns_sil ((sC_dn a ns k).2 k) a).1 = sR_dn A t a (6 * k + 6)
      have e2 : (ns_sil (ns k) a).1 = (sp_sil (ns k).2.2.2.2.1 (ns k).2.2.2.2.2.1 a (ns k).2.2.2.1 6).2 := by simp only [ns_sil]
      rw [e, h1, sil_cnt (hR.2.1 k (by omega)).2.2.2.2.2.2.2 6 (Nat.le_refl _), e2]
    · show va_up (sC_dn a ns k).2 k (ns_sil ((sC_dn a ns k).2 k) a).2 i = _
      rw [e]
      by_cases q : i = k
      · subst q; rw [va_up_self, if_pos (Nat.lt_succ_self _)]
      · rw [va_up_ne _ _ q, h2 i]
        simp [show i < k + 1 ↔ i < k by omega]
theorem ag_day {x : CST} {y : RST} (h : RX x y) (a : Int32) : AG (sC_day x a) (sR_day y a) := by
  obtain ⟨t, lm, nN, nM, ns, ms, rt, A, B, rfl, rfl, hR⟩ := h.unf
  unfold sC_day sR_day
  dsimp only
  rw [show (100000 : Int64) = (100000 : Int32).toInt64 from rfl]
  by_cases c1 : a < t
  · rw [if_pos c1, if_pos (in_i.mpr (Or.inl c1))]; exact ⟨rfl, h⟩
  rw [if_neg c1]
  by_cases c2 : a ≤ 100000
  · rw [if_pos c2, if_neg (fun z => (in_i.mp z).elim c1 (fun z => z c2))]
    obtain ⟨d1, d2⟩ := dn_eq hR a nN (Nat.le_refl _)
    refine ⟨d1, RX.mk lm ?_⟩
    obtain ⟨⟨x0, x1, tt, ht, et⟩, x2, x3, x4, x5, x8⟩ := hR
    have c3 : ¬ a < 0 := fun z => c1 (by rw [et]; exact Int32.lt_of_lt_of_le z (nI_le (a := 0) (Nat.zero_le _) (by omega)))
    obtain ⟨aa, haa, ea⟩ := nI_of c3
    have ha2 : aa ≤ 100000 := by
      rw [ea, show (100000 : Int32) = nI 100000 from rfl, nI_leI haa (by decide)] at c2
      exact c2
    refine ⟨⟨x0, x1, aa, ha2, ea⟩, fun i hi => ?_, x3, x4, x5, fun i hi => ?_⟩
    · rw [d2 i, if_pos hi]
      obtain ⟨z1, z2, z3, z4, z5, z6, z7, z8⟩ := x2 i hi
      have e1 : (ns_sil (ns i) a).2 = ((ns i).1, (ns i).2.1, (ns i).2.2.1, (sp_sil (ns i).2.2.2.2.1 (ns i).2.2.2.2.2.1 a (ns i).2.2.2.1 6).1, (ns i).2.2.2.2.1, (ns i).2.2.2.2.2.1, (ns i).2.2.2.2.2.2) := by simp only [ns_sil]
      rw [e1]
      refine ⟨z1, z2, z3, z4, z5, z6, z7, fun c hc => ?_⟩
      have := (z8 c hc).day ea ha2 c1
      dsimp only
      rw [sil_arr]
      simp only [hc, true_and]
      exact this
    · rw [d2 i, if_pos hi]
      have e1 : (ns_sil (ns i) a).2.1 = (ns i).1 := by simp only [ns_sil]
      rw [e1]
      exact x8 i hi
  · rw [if_neg c2, if_pos (in_i.mpr (Or.inr c2))]; exact ⟨rfl, h⟩
/-- both begin alike -/
theorem rx_new : RX (0, 365, 0, 0, ns, ms, fun _ => 0) (0, 365, 0, 0, fun _ _ => 0, fun _ _ => 0) := by
  refine RX.mk 365 ⟨⟨Nat.zero_le _, Nat.zero_le _, 0, Nat.zero_le _, rfl⟩, fun i hi => absurd hi (Nat.not_lt_zero _), fun i hi => absurd hi (Nat.not_lt_zero _), fun _ _ => rfl, ⟨fun _ _ => rfl, fun _ _ => rfl, fun _ _ => ⟨rfl, rfl⟩⟩, fun i hi => absurd hi (Nat.not_lt_zero _)⟩
end AGW
