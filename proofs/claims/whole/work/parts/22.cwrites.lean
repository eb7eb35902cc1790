/-! The class: methods that write (1). Laid by wip/gen/cwrites.py. -/
set_option maxHeartbeats 4000000 in
set_option maxRecDepth 100000 in
theorem k_C_limit (l : Launch) (G : va_G) (cs : Nat → ClassId) (L : List Nat) (f : Nat → va_E) (sz : Nat) (ad : Nat → Nat) (t lm : Int32) (nN nM : Nat) (ns : Nat → NS) (ms : Nat → MS) (rt : Nat → Int32) (pg : sp_P) (d : Int32) (h0 : PS cs L f ad t lm nN nM ns ms rt pg) : Met l yX3_limit (Cond.code yX3_limit cX3_limit 2 (some FieldType.boolean) :: wg) ({ frames := 0, cells := 0, slots := 0, locals := 0 }) (pc_P [.ref (ad 0), .int d] G vwCl (tyl cs) L f sz (fun _ => True)) (va_Qi (fun r u => ∃ ad' pg', ad' 0 = ad 0 ∧ r = (sC_limit (t, lm, nN, nM, ns, ms, rt) d).1 ∧ PSx cs u.1 u.2 ad' (sC_limit (t, lm, nN, nM, ns, ms, rt) d).2 pg') (pc_B G vwCl L sz) (pw_A L sz)) 0 0 (pw_A L sz) := by
  refine Met.ofW (cc := cX3_limit) (maxL := 2) (ret := (some FieldType.boolean)) (by decide) rfl ?_
  intro p e s m args below meth c s₁ B hml hv
  obtain ⟨rfl, hsz, hP, hK, hD0, hX⟩ := hv
  have hx := B.exec
  have hb := B.bytes
  have hr := B.returns
  have hts0 := atoms_spec (ws := (Cond.code yX3_limit cX3_limit 2 (some FieldType.boolean) :: wg)) B.pre
  have hts := fun (w : Cond) (h : w ∈ wg) => hts0 w (List.mem_cons_of_mem _ h)
  have hown : s.vm.findClass RX3 = some m.cls := findClass_of_methodNamed B.named
  have hlocks := B.notSynchronized
  subst hsz
  have hD := pw_selfD (sz := s.heap.size) hD0
  have hA : ∀ q : Nat, s.heap.size ≤ q → pw_A L s.heap.size q := fun q h => Or.inr h
  have hS : va_S (pw_A L s.heap.size) s.heap s.heap [] := va_S.rf
  have hl := lv_entry ([.ref (ad 0), .int d]) (n := 2) (Nat.le_of_ble_eq_true rfl)
  rw [lg_entry_eq]
  generalize (lg_sl ([.ref (ad 0), .int d]) ++ List.replicate (2 - (lg_sl ([.ref (ad 0), .int d])).length) Slot.unset).toArray = ls at hl ⊢
  have hl : lv_has ls 2 [(0, .ref (ad 0)), (1, .int d)] := hl
  have hN6 := h0.nN6
  have hM12 := h0.nM12
  have m0 := h0.mem (pu_lo (r := 0) (by decide))
  have e0 := h0.e0
  have m1 := h0.mem (pu_lo (r := 1) (by decide))
  have e1 := h0.e1
  have m2 := h0.mem (pu_lo (r := 2) (by decide))
  have e2 := h0.e2
  have m3 := h0.mem (pu_lo (r := 3) (by decide))
  have e3 := h0.e3
  refine lv_iload_n hx hb dX3_limit_0 rfl (lv_at hl 1 rfl) ?_
  refine lv_if_lt (tgt := 11) hx hb dX3_limit_1 (by decide) (fun c_1 => ?_) (fun c_1 => ?_)
  · refine lv_iconst (v := 0) hx hb dX3_limit_11 (by decide) ?_
    have hsp : sC_limit (t, lm, nN, nM, ns, ms, rt) d = (0, (t, lm, nN, nM, ns, ms, rt)) := by simp [sC_limit, c_1]
    exact pc_retz hx hb hr rfl hlocks hP hD hS dX3_limit_12 ⟨ad, pg, rfl, by rw [hsp], by rw [hsp]; exact h0⟩
  · refine lv_iload_n hx hb dX3_limit_4 rfl (lv_at hl 1 rfl) ?_
    refine lv_sipush (v := 1000) hx hb dX3_limit_5 (by decide) ?_
    refine lv_icmp_le (tgt := 13) hx hb dX3_limit_8 (by decide) (fun c_8 => ?_) (fun c_8 => ?_)
    · refine lv_aload_n hx hb dX3_limit_13 rfl (lv_at hl 0 rfl) ?_
      refine lv_iload_n hx hb dX3_limit_14 rfl (lv_at hl 1 rfl) ?_
      refine pw_put (ty := .int) (ci := 3) (v := .int d) (C := RX3) (T := TX3) (N := 8) hx hb hts inX3 tyX3 tyX3_ok nmX3 hown hK hP hD hS m0 e0 rfl 7 (by decide) (hts _ mw_40) (fun _ h9 => h9) rfl (by decide +kernel) rfl rfl (Nat.le_of_ble_eq_true rfl) dX3_limit_15 (fun H locs hP hD hS => ?_)
      obtain ⟨f_1, ef_1⟩ : ∃ zz : Nat → va_E, zz = va_up f (ad 0) (.inr (3, [.ref (ad 1), .ref (ad 2), .ref (ad 3), .ref (ad 4), .int (nI nN), .int (nI nM), .int t, .int d])) := ⟨_, rfl⟩
      have hP : va_P G vwCl (va_pl L f_1) H := by rw [ef_1]; exact hP
      have hD : va_D (pw_A L s.heap.size) (va_pl L f_1) := by rw [ef_1]; exact hD
      have hf_1_ad_0 : f_1 (ad 0) = .inr (3, [.ref (ad 1), .ref (ad 2), .ref (ad 3), .ref (ad 4), .int (nI nN), .int (nI nM), .int t, .int d]) := by rw [ef_1]; exact va_up_self _ _ _
      refine lv_iconst (v := 1) hx hb dX3_limit_18 (by decide) ?_
      have hps := h0.main t d
      have efm : f_1 = va_up f (ad 0) (ps_0 ad t d nN nM) := ef_1
      rw [← efm] at hps
      have hsp : sC_limit (t, lm, nN, nM, ns, ms, rt) d = (1, (t, d, nN, nM, ns, ms, rt)) := by simp [sC_limit, c_1, c_8]
      exact pc_retz hx hb hr rfl hlocks hP hD hS dX3_limit_19 ⟨ad, pg, rfl, by rw [hsp], by rw [hsp]; exact hps⟩
    · refine lv_iconst (v := 0) hx hb dX3_limit_11 (by decide) ?_
      have hsp : sC_limit (t, lm, nN, nM, ns, ms, rt) d = (0, (t, lm, nN, nM, ns, ms, rt)) := by simp [sC_limit, c_1, c_8]
      exact pc_retz hx hb hr rfl hlocks hP hD hS dX3_limit_12 ⟨ad, pg, rfl, by rw [hsp], by rw [hsp]; exact h0⟩

set_option maxHeartbeats 4000000 in
set_option maxRecDepth 100000 in
theorem k_C_right (l : Launch) (G : va_G) (cs : Nat → ClassId) (L : List Nat) (f : Nat → va_E) (sz : Nat) (ad : Nat → Nat) (t lm : Int32) (nN nM : Nat) (ns : Nat → NS) (ms : Nat → MS) (rt : Nat → Int32) (pg : sp_P) (p_ e_ o_ : Int32) (h0 : PS cs L f ad t lm nN nM ns ms rt pg) : Met l yX3_right (Cond.code yX3_right cX3_right 4 (some FieldType.boolean) :: wg) ({ frames := 1, cells := 0, slots := 0, locals := 20 }) (pc_P [.ref (ad 0), .int p_, .int e_, .int o_] G vwCl (tyl cs) L f sz (fun _ => True)) (va_Qi (fun r u => ∃ ad' pg', ad' 0 = ad 0 ∧ r = (sC_right (t, lm, nN, nM, ns, ms, rt) p_ e_ o_).1 ∧ PSx cs u.1 u.2 ad' (sC_right (t, lm, nN, nM, ns, ms, rt) p_ e_ o_).2 pg') (pc_B G vwCl L sz) (pw_A L sz)) 0 0 (pw_A L sz) := by
  refine Met.ofW (cc := cX3_right) (maxL := 4) (ret := (some FieldType.boolean)) (by decide) rfl ?_
  intro p e s m args below meth c s₁ B hml hv
  obtain ⟨rfl, hsz, hP, hK, hD0, hX⟩ := hv
  have hx := B.exec
  have hb := B.bytes
  have hr := B.returns
  have hts0 := atoms_spec (ws := (Cond.code yX3_right cX3_right 4 (some FieldType.boolean) :: wg)) B.pre
  have hts := fun (w : Cond) (h : w ∈ wg) => hts0 w (List.mem_cons_of_mem _ h)
  have hown : s.vm.findClass RX3 = some m.cls := findClass_of_methodNamed B.named
  have hlocks := B.notSynchronized
  subst hsz
  have hD := pw_selfD (sz := s.heap.size) hD0
  have hA : ∀ q : Nat, s.heap.size ≤ q → pw_A L s.heap.size q := fun q h => Or.inr h
  have hS : va_S (pw_A L s.heap.size) s.heap s.heap [] := va_S.rf
  have hl := lv_entry ([.ref (ad 0), .int p_, .int e_, .int o_]) (n := 4) (Nat.le_of_ble_eq_true rfl)
  rw [lg_entry_eq]
  generalize (lg_sl ([.ref (ad 0), .int p_, .int e_, .int o_]) ++ List.replicate (4 - (lg_sl ([.ref (ad 0), .int p_, .int e_, .int o_])).length) Slot.unset).toArray = ls at hl ⊢
  have hl : lv_has ls 4 [(0, .ref (ad 0)), (1, .int p_), (2, .int e_), (3, .int o_)] := hl
  have hN6 := h0.nN6
  have hM12 := h0.nM12
  have m0 := h0.mem (pu_lo (r := 0) (by decide))
  have e0 := h0.e0
  have m1 := h0.mem (pu_lo (r := 1) (by decide))
  have e1 := h0.e1
  have m2 := h0.mem (pu_lo (r := 2) (by decide))
  have e2 := h0.e2
  have m3 := h0.mem (pu_lo (r := 3) (by decide))
  have e3 := h0.e3
  refine lv_iload_n hx hb dX3_right_0 rfl (lv_at hl 1 rfl) ?_
  refine pr_callSi (As := [.int p_]) (rest := []) ⟨hx, hb, hml, hown, hts⟩ (k_C_isP l G cs L f p_) (cwS 1 hts (wg_S mw_198 mw_199 mw_1 mw_200) rfl rfl rfl (by decide +kernel) ⟨Nat.le_of_ble_eq_true rfl, Nat.le_of_ble_eq_true rfl⟩) hK hP px_T (fun _ _ _ => trivial) rfl hl.1 rfl (lv_room (Nat.le_of_ble_eq_true rfl)) dX3_right_1 ⟨Nat.le_of_ble_eq_true rfl, Nat.le_of_ble_eq_true rfl⟩ (fun r_1 hr_1 => ?_)
  rcases sp_in_cases (m := 8) (by decide) p_ with ⟨hxa, hsa⟩ | ⟨a, ha, ena, hxa, hsa⟩
  · obtain rfl : r_1 = 0 := by rw [hr_1, hsa]
    refine lv_if_eq (tgt := 14) hx hb dX3_right_4 (by decide) (fun c_4 => ?_) (fun c_4 => ?_)
    · refine lv_iconst (v := 0) hx hb dX3_right_14 (by decide) ?_
      have hsp : sC_right (t, lm, nN, nM, ns, ms, rt) p_ e_ o_ = (0, (t, lm, nN, nM, ns, ms, rt)) := by simp [sC_right, hxa]
      exact pc_retz hx hb hr rfl hlocks hP hD hS dX3_right_15 ⟨ad, pg, rfl, by rw [hsp], by rw [hsp]; exact h0⟩
    · exact absurd c_4 (by decide)
  · obtain rfl : r_1 = 1 := by rw [hr_1, hsa]
    refine lv_if_eq (tgt := 14) hx hb dX3_right_4 (by decide) (fun c_4 => ?_) (fun c_4 => ?_)
    · exact absurd c_4 (by decide)
    · refine lv_iload_n hx hb dX3_right_7 rfl (lv_at hl 2 rfl) ?_
      refine pr_callSi (As := [.int e_]) (rest := []) ⟨hx, hb, hml, hown, hts⟩ (k_C_isE l G cs L f e_) (cwS 1 hts (wg_S mw_201 mw_202 mw_1 mw_203) rfl rfl rfl (by decide +kernel) ⟨Nat.le_of_ble_eq_true rfl, Nat.le_of_ble_eq_true rfl⟩) hK hP px_T (fun _ _ _ => trivial) rfl hl.1 rfl (lv_room (Nat.le_of_ble_eq_true rfl)) dX3_right_8 ⟨Nat.le_of_ble_eq_true rfl, Nat.le_of_ble_eq_true rfl⟩ (fun r_2 hr_2 => ?_)
      rcases sp_in_cases (m := 5) (by decide) e_ with ⟨hxb, hsb⟩ | ⟨b, hb_, enb, hxb, hsb⟩
      · obtain rfl : r_2 = 0 := by rw [hr_2, hsb]
        refine lv_if_ne (tgt := 16) hx hb dX3_right_11 (by decide) (fun c_11 => ?_) (fun c_11 => ?_)
        · exact absurd c_11 (by decide)
        · refine lv_iconst (v := 0) hx hb dX3_right_14 (by decide) ?_
          have hsp : sC_right (t, lm, nN, nM, ns, ms, rt) p_ e_ o_ = (0, (t, lm, nN, nM, ns, ms, rt)) := by simp [sC_right, hxa, hxb]
          exact pc_retz hx hb hr rfl hlocks hP hD hS dX3_right_15 ⟨ad, pg, rfl, by rw [hsp], by rw [hsp]; exact h0⟩
      · obtain rfl : r_2 = 1 := by rw [hr_2, hsb]
        refine lv_if_ne (tgt := 16) hx hb dX3_right_11 (by decide) (fun c_11 => ?_) (fun c_11 => ?_)
        · refine lv_aload_n hx hb dX3_right_16 rfl (lv_at hl 0 rfl) ?_
          refine pw_get (ci := 3) (C := RX3) (T := TX3) (N := 8) hx hb hts inX3 hown hK hP m0 e0 rfl 2 (by decide) (hts _ mw_35) (fun _ h9 => h9) rfl dX3_right_17 ?_
          refine lv_iload_n hx hb dX3_right_20 rfl (lv_at hl 1 rfl) ?_
          refine lv_iconst (v := 5) hx hb dX3_right_21 (by decide) ?_
          refine lv_imul hx hb dX3_right_22 ?_
          refine lv_iload_n hx hb dX3_right_23 rfl (lv_at hl 2 rfl) ?_
          refine lv_iadd hx hb dX3_right_24 ?_
          refine lv_iload_n hx hb dX3_right_25 rfl (lv_at hl 3 rfl) ?_
          have eix : p_ * 5 + e_ = nI (a * 5 + b) := by rw [ena, enb]; exact rt_ix ha hb_
          rw [eix]
          refine pw_zastN (k := a * 5 + b) hx hb hK hP hD hS m3 2 e3 rfl (by omega) (by decide) dX3_right_26 (fun H locs hP hD hS => ?_)
          obtain ⟨f_3, ef_3⟩ : ∃ zz : Nat → va_E, zz = va_up f (ad 3) (.inl (cs 2, 40, .inl (upd rt (a * 5 + b) (vp_nar .boolean o_)))) := ⟨_, rfl⟩
          have hP : va_P G vwCl (va_pl L f_3) H := by rw [ef_3]; exact hP
          have hD : va_D (pw_A L s.heap.size) (va_pl L f_3) := by rw [ef_3]; exact hD
          have hf_3_ad_3 : f_3 (ad 3) = .inl (cs 2, 40, .inl (upd rt (a * 5 + b) (vp_nar .boolean o_))) := by rw [ef_3]; exact va_up_self _ _ _
          refine lv_iconst (v := 1) hx hb dX3_right_27 (by decide) ?_
          have hps := h0.rights (upd rt (a * 5 + b) (vp_nar .boolean o_))
          rw [← ef_3] at hps
          have hsp : sC_right (t, lm, nN, nM, ns, ms, rt) p_ e_ o_ = (1, (t, lm, nN, nM, ns, ms, upd rt (a * 5 + b) (vp_nar .boolean o_))) := by simp [sC_right, hxa, hxb]
          exact pc_retz hx hb hr rfl hlocks hP hD hS dX3_right_28 ⟨ad, pg, rfl, by rw [hsp], by rw [hsp]; exact hps⟩
        · exact absurd c_11 (by decide)

set_option maxHeartbeats 4000000 in
set_option maxRecDepth 100000 in
theorem k_C_bank (l : Launch) (G : va_G) (cs : Nat → ClassId) (L : List Nat) (f : Nat → va_E) (sz : Nat) (ad : Nat → Nat) (t lm : Int32) (nN nM : Nat) (ns : Nat → NS) (ms : Nat → MS) (rt : Nat → Int32) (pg : sp_P) (n : Int32) (c_ : Int64) (h0 : PS cs L f ad t lm nN nM ns ms rt pg) : Met l yX3_bank (Cond.code yX3_bank cX3_bank 5 (some FieldType.boolean) :: wg) ({ frames := 1, cells := 0, slots := 0, locals := 21 }) (pc_P [.ref (ad 0), .int n, .long c_] G vwCl (tyl cs) L f sz (fun _ => True)) (va_Qi (fun r u => ∃ ad' pg', ad' 0 = ad 0 ∧ r = (sC_bank (t, lm, nN, nM, ns, ms, rt) n c_).1 ∧ PSx cs u.1 u.2 ad' (sC_bank (t, lm, nN, nM, ns, ms, rt) n c_).2 pg') (pc_B G vwCl L sz) (pw_A L sz)) 0 0 (pw_A L sz) := by
  refine Met.ofW (cc := cX3_bank) (maxL := 5) (ret := (some FieldType.boolean)) (by decide) rfl ?_
  intro p e s m args below meth c s₁ B hml hv
  obtain ⟨rfl, hsz, hP, hK, hD0, hX⟩ := hv
  have hx := B.exec
  have hb := B.bytes
  have hr := B.returns
  have hts0 := atoms_spec (ws := (Cond.code yX3_bank cX3_bank 5 (some FieldType.boolean) :: wg)) B.pre
  have hts := fun (w : Cond) (h : w ∈ wg) => hts0 w (List.mem_cons_of_mem _ h)
  have hown : s.vm.findClass RX3 = some m.cls := findClass_of_methodNamed B.named
  have hlocks := B.notSynchronized
  subst hsz
  have hD := pw_selfD (sz := s.heap.size) hD0
  have hA : ∀ q : Nat, s.heap.size ≤ q → pw_A L s.heap.size q := fun q h => Or.inr h
  have hS : va_S (pw_A L s.heap.size) s.heap s.heap [] := va_S.rf
  have hl := lv_entry ([.ref (ad 0), .int n, .long c_]) (n := 5) (Nat.le_of_ble_eq_true rfl)
  rw [lg_entry_eq]
  generalize (lg_sl ([.ref (ad 0), .int n, .long c_]) ++ List.replicate (5 - (lg_sl ([.ref (ad 0), .int n, .long c_])).length) Slot.unset).toArray = ls at hl ⊢
  have hl : lv_has ls 5 [(0, .ref (ad 0)), (1, .int n), (2, .long c_)] := hl
  have hN6 := h0.nN6
  have hM12 := h0.nM12
  have m0 := h0.mem (pu_lo (r := 0) (by decide))
  have e0 := h0.e0
  have m1 := h0.mem (pu_lo (r := 1) (by decide))
  have e1 := h0.e1
  have m2 := h0.mem (pu_lo (r := 2) (by decide))
  have e2 := h0.e2
  have m3 := h0.mem (pu_lo (r := 3) (by decide))
  have e3 := h0.e3
  refine lv_aload_n hx hb dX3_bank_0 rfl (lv_at hl 0 rfl) ?_
  refine lv_iload_n hx hb dX3_bank_1 rfl (lv_at hl 1 rfl) ?_
  refine pr_callVq (As := [.int n]) (rest := []) ⟨hx, hb, hml, hown, hts⟩ (k_C_nAt l G cs L f ad t lm nN nM ns ms rt pg n h0) (cwV 1 hts (wg_V mw_63 mw_65 ms_0 mw_1 mw_66) rfl rfl rfl (by decide +kernel) ⟨Nat.le_of_ble_eq_true rfl, Nat.le_of_ble_eq_true rfl⟩) hK hP m0 e0 rfl px_T (fun _ _ _ => trivial) rfl hl.1 rfl (lv_room (Nat.le_of_ble_eq_true rfl)) dX3_bank_2 ⟨Nat.le_of_ble_eq_true rfl, Nat.le_of_ble_eq_true rfl⟩ (fun r_1 hr_1 => ?_)
  rcases ix_cases (m := nN) (by omega) n with ⟨hxi, hnoi⟩ | ⟨i, hi, eni, hxi, hci, hdi⟩
  · obtain rfl : r_1 = none := by rw [hr_1, hxi]; rfl
    refine W.eq (g2 := F0 m 5 ls [.null]) rfl ?_
    refine lv_astoreN (lv' := [(4, .null), (0, .ref (ad 0)), (1, .int n), (2, .long c_)]) hx hb dX3_bank_5 hl (by decide) rfl (fun ls hl => ?_)
    refine lv_aloadN hx hb dX3_bank_7 (lv_at hl 0 rfl) ?_
    refine lv_ifnullN (tgt := 26) hx hb dX3_bank_9 (by decide) ?_
    refine lv_iconst (v := 0) hx hb dX3_bank_26 (by decide) ?_
    have hsp : sC_bank (t, lm, nN, nM, ns, ms, rt) n c_ = (0, (t, lm, nN, nM, ns, ms, rt)) := by simp [sC_bank, hxi]
    exact pc_retz hx hb hr rfl hlocks hP hD hS dX3_bank_27 ⟨ad, pg, rfl, by rw [hsp], by rw [hsp]; exact h0⟩
  · obtain rfl : r_1 = some (ad (8 + 4 * i)) := by rw [hr_1, hxi]; rfl
    refine W.eq (g2 := F0 m 5 ls [.ref (ad (8 + 4 * i))]) rfl ?_
    refine lv_astore (lv' := [(4, .ref (ad (8 + 4 * i))), (0, .ref (ad 0)), (1, .int n), (2, .long c_)]) hx hb dX3_bank_5 hl (by decide) rfl (fun ls hl => ?_)
    refine lv_aload hx hb dX3_bank_7 (lv_at hl 0 rfl) ?_
    refine lv_ifnull hx hb dX3_bank_9 ?_
    refine lv_lload_n hx hb dX3_bank_12 rfl (lv_at hl 3 rfl) ?_
    refine lv_lconst (v := 1) hx hb dX3_bank_13 (by decide) ?_
    refine W.lcmp hx hb dX3_bank_14 ?_
    refine lv_if_lt (tgt := 26) hx hb dX3_bank_15 (by decide) (fun c_15 => ?_) (fun c_15 => ?_)
    · have c_15 := (lg_cmp_lt _ _).mp c_15
      refine lv_iconst (v := 0) hx hb dX3_bank_26 (by decide) ?_
      have hsp : sC_bank (t, lm, nN, nM, ns, ms, rt) n c_ = (0, (t, lm, nN, nM, ns, ms, rt)) := by simp [sC_bank, hxi, c_15]
      exact pc_retz hx hb hr rfl hlocks hP hD hS dX3_bank_27 ⟨ad, pg, rfl, by rw [hsp], by rw [hsp]; exact h0⟩
    · have c_15 : ¬ c_ < 1 := fun h => c_15 ((lg_cmp_lt _ _).mpr h)
      refine lv_lload_n hx hb dX3_bank_18 rfl (lv_at hl 3 rfl) ?_
      refine lv_ldc2 hx hb hown (hts _ mw_75) dX3_bank_19 ?_
      refine W.lcmp hx hb dX3_bank_22 ?_
      refine lv_if_le (tgt := 28) hx hb dX3_bank_23 (by decide) (fun c_23 => ?_) (fun c_23 => ?_)
      · have c_23 := (lg_cmp_le _ _).mp c_23
        refine lv_aload hx hb dX3_bank_28 (lv_at hl 0 rfl) ?_
        refine pw_get (ci := 1) (C := RX1) (T := TX1) (N := 7) hx hb hts inX1 hown hK hP (h0.nt hi).1.1 (h0.nt hi).2.1.1 rfl 6 (by decide) (hts _ mw_90) (fun _ h9 => h9) rfl dX3_bank_30 ?_
        refine lv_lload_n hx hb dX3_bank_33 rfl (lv_at hl 3 rfl) ?_
        refine lv_ladd hx hb dX3_bank_34 ?_
        refine lv_ldc2 hx hb hown (hts _ mw_242) dX3_bank_35 ?_
        refine W.lcmp hx hb dX3_bank_38 ?_
        refine lv_if_le (tgt := 44) hx hb dX3_bank_39 (by decide) (fun c_39 => ?_) (fun c_39 => ?_)
        · have c_39 := (lg_cmp_le _ _).mp c_39
          refine lv_aload hx hb dX3_bank_44 (lv_at hl 0 rfl) ?_
          refine lv_dup hx hb dX3_bank_46 rfl ?_
          refine pw_get (ci := 1) (C := RX1) (T := TX1) (N := 7) hx hb hts inX1 hown hK hP (h0.nt hi).1.1 (h0.nt hi).2.1.1 rfl 6 (by decide) (hts _ mw_90) (fun _ h9 => h9) rfl dX3_bank_47 ?_
          refine lv_lload_n hx hb dX3_bank_50 rfl (lv_at hl 3 rfl) ?_
          refine lv_ladd hx hb dX3_bank_51 ?_
          refine pw_put (ty := .long) (ci := 1) (v := .long (((ns i).2.2.2.2.2.2) + c_)) (C := RX1) (T := TX1) (N := 7) hx hb hts inX1 tyX1 tyX1_ok nmX1 hown hK hP hD hS (h0.nt hi).1.1 (h0.nt hi).2.1.1 rfl 6 (by decide) (hts _ mw_90) (fun _ h9 => h9) rfl (by decide +kernel) rfl rfl (Nat.le_of_ble_eq_true rfl) dX3_bank_52 (fun H locs hP hD hS => ?_)
          obtain ⟨f_2, ef_2⟩ : ∃ zz : Nat → va_E, zz = va_up f (ad (8 + 4 * i)) (.inr (1, [.long ((ns i).1), .int ((ns i).2.1), .int ((ns i).2.2.1), .ref (ad (9 + 4 * i)), .ref (ad (10 + 4 * i)), .ref (ad (11 + 4 * i)), .long (((ns i).2.2.2.2.2.2) + c_)])) := ⟨_, rfl⟩
          have hP : va_P G vwCl (va_pl L f_2) H := by rw [ef_2]; exact hP
          have hD : va_D (pw_A L s.heap.size) (va_pl L f_2) := by rw [ef_2]; exact hD
          have hf_2_ad_8_4_i : f_2 (ad (8 + 4 * i)) = .inr (1, [.long ((ns i).1), .int ((ns i).2.1), .int ((ns i).2.2.1), .ref (ad (9 + 4 * i)), .ref (ad (10 + 4 * i)), .ref (ad (11 + 4 * i)), .long (((ns i).2.2.2.2.2.2) + c_)]) := by rw [ef_2]; exact va_up_self _ _ _
          refine lv_iconst (v := 1) hx hb dX3_bank_55 (by decide) ?_
          have hps := h0.cents hi c_
          rw [← ef_2] at hps
          have hsp : sC_bank (t, lm, nN, nM, ns, ms, rt) n c_ = (1, (t, lm, nN, nM, va_up ns i (ns_bank (ns i) c_), ms, rt)) := by simp [sC_bank, hxi, c_15, c_23, c_39]
          exact pc_retz hx hb hr rfl hlocks hP hD hS dX3_bank_56 ⟨ad, pg, rfl, by rw [hsp], by rw [hsp]; exact hps⟩
        · have c_39 : ¬ (((ns i).2.2.2.2.2.2) + c_) ≤ 10000000000 := fun h => c_39 ((lg_cmp_le _ _).mpr h)
          refine lv_iconst (v := 0) hx hb dX3_bank_42 (by decide) ?_
          have hsp : sC_bank (t, lm, nN, nM, ns, ms, rt) n c_ = (0, (t, lm, nN, nM, ns, ms, rt)) := by simp [sC_bank, hxi, c_15, c_23, c_39]
          exact pc_retz hx hb hr rfl hlocks hP hD hS dX3_bank_43 ⟨ad, pg, rfl, by rw [hsp], by rw [hsp]; exact h0⟩
      · have c_23 : ¬ c_ ≤ 1000000000 := fun h => c_23 ((lg_cmp_le _ _).mpr h)
        refine lv_iconst (v := 0) hx hb dX3_bank_26 (by decide) ?_
        have hsp : sC_bank (t, lm, nN, nM, ns, ms, rt) n c_ = (0, (t, lm, nN, nM, ns, ms, rt)) := by simp [sC_bank, hxi, c_15, c_23]
        exact pc_retz hx hb hr rfl hlocks hP hD hS dX3_bank_27 ⟨ad, pg, rfl, by rw [hsp], by rw [hsp]; exact h0⟩

set_option maxHeartbeats 4000000 in
set_option maxRecDepth 100000 in
theorem k_C_country (l : Launch) (G : va_G) (cs : Nat → ClassId) (L : List Nat) (f : Nat → va_E) (sz : Nat) (ad : Nat → Nat) (t lm : Int32) (nN nM : Nat) (ns : Nat → NS) (ms : Nat → MS) (rt : Nat → Int32) (pg : sp_P) (n c_ d : Int32) (h0 : PS cs L f ad t lm nN nM ns ms rt pg) : Met l yX3_country (Cond.code yX3_country cX3_country 5 (some FieldType.boolean) :: wg) ({ frames := 1, cells := 0, slots := 0, locals := 23 }) (pc_P [.ref (ad 0), .int n, .int c_, .int d] G vwCl (tyl cs) L f sz (fun _ => True)) (va_Qi (fun r u => ∃ ad' pg', ad' 0 = ad 0 ∧ r = (sC_country (t, lm, nN, nM, ns, ms, rt) n c_ d).1 ∧ PSx cs u.1 u.2 ad' (sC_country (t, lm, nN, nM, ns, ms, rt) n c_ d).2 pg') (pc_B G vwCl L sz) (pw_A L sz)) 0 0 (pw_A L sz) := by
  refine Met.ofW (cc := cX3_country) (maxL := 5) (ret := (some FieldType.boolean)) (by decide) rfl ?_
  intro p e s m args below meth c s₁ B hml hv
  obtain ⟨rfl, hsz, hP, hK, hD0, hX⟩ := hv
  have hx := B.exec
  have hb := B.bytes
  have hr := B.returns
  have hts0 := atoms_spec (ws := (Cond.code yX3_country cX3_country 5 (some FieldType.boolean) :: wg)) B.pre
  have hts := fun (w : Cond) (h : w ∈ wg) => hts0 w (List.mem_cons_of_mem _ h)
  have hown : s.vm.findClass RX3 = some m.cls := findClass_of_methodNamed B.named
  have hlocks := B.notSynchronized
  subst hsz
  have hD := pw_selfD (sz := s.heap.size) hD0
  have hA : ∀ q : Nat, s.heap.size ≤ q → pw_A L s.heap.size q := fun q h => Or.inr h
  have hS : va_S (pw_A L s.heap.size) s.heap s.heap [] := va_S.rf
  have hl := lv_entry ([.ref (ad 0), .int n, .int c_, .int d]) (n := 5) (Nat.le_of_ble_eq_true rfl)
  rw [lg_entry_eq]
  generalize (lg_sl ([.ref (ad 0), .int n, .int c_, .int d]) ++ List.replicate (5 - (lg_sl ([.ref (ad 0), .int n, .int c_, .int d])).length) Slot.unset).toArray = ls at hl ⊢
  have hl : lv_has ls 5 [(0, .ref (ad 0)), (1, .int n), (2, .int c_), (3, .int d)] := hl
  have hN6 := h0.nN6
  have hM12 := h0.nM12
  have m0 := h0.mem (pu_lo (r := 0) (by decide))
  have e0 := h0.e0
  have m1 := h0.mem (pu_lo (r := 1) (by decide))
  have e1 := h0.e1
  have m2 := h0.mem (pu_lo (r := 2) (by decide))
  have e2 := h0.e2
  have m3 := h0.mem (pu_lo (r := 3) (by decide))
  have e3 := h0.e3
  refine lv_aload_n hx hb dX3_country_0 rfl (lv_at hl 0 rfl) ?_
  refine lv_iload_n hx hb dX3_country_1 rfl (lv_at hl 1 rfl) ?_
  refine pr_callVq (As := [.int n]) (rest := []) ⟨hx, hb, hml, hown, hts⟩ (k_C_nAt l G cs L f ad t lm nN nM ns ms rt pg n h0) (cwV 1 hts (wg_V mw_63 mw_65 ms_0 mw_1 mw_66) rfl rfl rfl (by decide +kernel) ⟨Nat.le_of_ble_eq_true rfl, Nat.le_of_ble_eq_true rfl⟩) hK hP m0 e0 rfl px_T (fun _ _ _ => trivial) rfl hl.1 rfl (lv_room (Nat.le_of_ble_eq_true rfl)) dX3_country_2 ⟨Nat.le_of_ble_eq_true rfl, Nat.le_of_ble_eq_true rfl⟩ (fun r_1 hr_1 => ?_)
  rcases ix_cases (m := nN) (by omega) n with ⟨hxi, hnoi⟩ | ⟨i, hi, eni, hxi, hci, hdi⟩
  · obtain rfl : r_1 = none := by rw [hr_1, hxi]; rfl
    refine W.eq (g2 := F0 m 5 ls [.null]) rfl ?_
    refine lv_astoreN (lv' := [(4, .null), (0, .ref (ad 0)), (1, .int n), (2, .int c_), (3, .int d)]) hx hb dX3_country_5 hl (by decide) rfl (fun ls hl => ?_)
    refine lv_aloadN hx hb dX3_country_7 (lv_at hl 0 rfl) ?_
    refine lv_ifnullN (tgt := 23) hx hb dX3_country_9 (by decide) ?_
    refine lv_iconst (v := 0) hx hb dX3_country_23 (by decide) ?_
    have hsp : sC_country (t, lm, nN, nM, ns, ms, rt) n c_ d = (0, (t, lm, nN, nM, ns, ms, rt)) := by simp [sC_country, hxi]
    exact pc_retz hx hb hr rfl hlocks hP hD hS dX3_country_24 ⟨ad, pg, rfl, by rw [hsp], by rw [hsp]; exact h0⟩
  · obtain rfl : r_1 = some (ad (8 + 4 * i)) := by rw [hr_1, hxi]; rfl
    refine W.eq (g2 := F0 m 5 ls [.ref (ad (8 + 4 * i))]) rfl ?_
    refine lv_astore (lv' := [(4, .ref (ad (8 + 4 * i))), (0, .ref (ad 0)), (1, .int n), (2, .int c_), (3, .int d)]) hx hb dX3_country_5 hl (by decide) rfl (fun ls hl => ?_)
    refine lv_aload hx hb dX3_country_7 (lv_at hl 0 rfl) ?_
    refine lv_ifnull hx hb dX3_country_9 ?_
    refine lv_iload_n hx hb dX3_country_12 rfl (lv_at hl 4 rfl) ?_
    refine lv_if_lt (tgt := 23) hx hb dX3_country_13 (by decide) (fun c_13 => ?_) (fun c_13 => ?_)
    · refine lv_iconst (v := 0) hx hb dX3_country_23 (by decide) ?_
      have hsp : sC_country (t, lm, nN, nM, ns, ms, rt) n c_ d = (0, (t, lm, nN, nM, ns, ms, rt)) := by simp [sC_country, hxi, c_13]
      exact pc_retz hx hb hr rfl hlocks hP hD hS dX3_country_24 ⟨ad, pg, rfl, by rw [hsp], by rw [hsp]; exact h0⟩
    · refine lv_iload_n hx hb dX3_country_16 rfl (lv_at hl 4 rfl) ?_
      refine lv_sipush (v := 1000) hx hb dX3_country_17 (by decide) ?_
      refine lv_icmp_le (tgt := 25) hx hb dX3_country_20 (by decide) (fun c_20 => ?_) (fun c_20 => ?_)
      · refine lv_aload hx hb dX3_country_25 (lv_at hl 0 rfl) ?_
        refine lv_iload_n hx hb dX3_country_27 rfl (lv_at hl 3 rfl) ?_
        refine lv_iload_n hx hb dX3_country_28 rfl (lv_at hl 4 rfl) ?_
        refine lv_aload_n hx hb dX3_country_29 rfl (lv_at hl 1 rfl) ?_
        refine pw_get (ci := 3) (C := RX3) (T := TX3) (N := 8) hx hb hts inX3 hown hK hP m0 e0 rfl 6 (by decide) (hts _ mw_39) (fun _ h9 => h9) rfl dX3_country_30 ?_
        refine pc_callVi (As := [.int c_, .int d, .int t]) (rest := []) ⟨hx, hb, hml, hown, hts⟩ (k_N_ask l G cs L f _ (ad (8 + 4 * i)) (ad (9 + 4 * i)) (ad (10 + 4 * i)) (ad (11 + 4 * i)) (ns i).1 (ns i).2.1 (ns i).2.2.1 (ns i).2.2.2.1 (ns i).2.2.2.2.1 (ns i).2.2.2.2.2.1 (ns i).2.2.2.2.2.2 c_ d t (h0.nt hi)) (cwV 3 hts (wg_V mw_111 mw_112 mw_113 mw_4 mw_114) rfl rfl rfl (by decide +kernel) ⟨Nat.le_of_ble_eq_true rfl, Nat.le_of_ble_eq_true rfl⟩) hK hP hD hS hA (h0.nt hi).1.1 (h0.nt hi).2.1.1 rfl px_T (fun _ _ _ => trivial) rfl hl.1 rfl (lv_room (Nat.le_of_ble_eq_true rfl)) dX3_country_33 ⟨Nat.le_of_ble_eq_true rfl, Nat.le_of_ble_eq_true rfl⟩ (fun r_2 L1 f1 H locs hr_2 hP hD hS => ?_)
        obtain ⟨hr1, hr2⟩ := Prod.mk.inj hr_2
        obtain ⟨rfl, rfl⟩ := Prod.mk.inj hr2
        obtain ⟨hq1, hps⟩ := h0.ask hi c_ d t
        rw [hq1] at hr1
        subst hr1
        have hsp : sC_country (t, lm, nN, nM, ns, ms, rt) n c_ d = ((ns_ask (ns i) c_ d t).1, (t, lm, nN, nM, va_up ns i (ns_ask (ns i) c_ d t).2, ms, rt)) := by simp [sC_country, hxi, c_13, c_20]
        exact pc_retz hx hb hr (nb_01 (ns_ask_01 _ _ _ _)) hlocks hP hD hS dX3_country_36 ⟨ad, pg, rfl, by rw [hsp], by rw [hsp]; exact hps⟩
      · refine lv_iconst (v := 0) hx hb dX3_country_23 (by decide) ?_
        have hsp : sC_country (t, lm, nN, nM, ns, ms, rt) n c_ d = (0, (t, lm, nN, nM, ns, ms, rt)) := by simp [sC_country, hxi, c_13, c_20]
        exact pc_retz hx hb hr rfl hlocks hP hD hS dX3_country_24 ⟨ad, pg, rfl, by rw [hsp], by rw [hsp]; exact h0⟩

set_option maxHeartbeats 4000000 in
set_option maxRecDepth 100000 in
theorem k_C_says (l : Launch) (G : va_G) (cs : Nat → ClassId) (L : List Nat) (f : Nat → va_E) (sz : Nat) (ad : Nat → Nat) (t lm : Int32) (nN nM : Nat) (ns : Nat → NS) (ms : Nat → MS) (rt : Nat → Int32) (pg : sp_P) (n c_ y : Int32) (h0 : PS cs L f ad t lm nN nM ns ms rt pg) : Met l yX3_says (Cond.code yX3_says cX3_says 5 (some FieldType.boolean) :: wg) ({ frames := 1, cells := 0, slots := 0, locals := 22 }) (pc_P [.ref (ad 0), .int n, .int c_, .int y] G vwCl (tyl cs) L f sz (fun _ => True)) (va_Qi (fun r u => ∃ ad' pg', ad' 0 = ad 0 ∧ r = (sC_says (t, lm, nN, nM, ns, ms, rt) n c_ y).1 ∧ PSx cs u.1 u.2 ad' (sC_says (t, lm, nN, nM, ns, ms, rt) n c_ y).2 pg') (pc_B G vwCl L sz) (pw_A L sz)) 0 0 (pw_A L sz) := by
  refine Met.ofW (cc := cX3_says) (maxL := 5) (ret := (some FieldType.boolean)) (by decide) rfl ?_
  intro p e s m args below meth c s₁ B hml hv
  obtain ⟨rfl, hsz, hP, hK, hD0, hX⟩ := hv
  have hx := B.exec
  have hb := B.bytes
  have hr := B.returns
  have hts0 := atoms_spec (ws := (Cond.code yX3_says cX3_says 5 (some FieldType.boolean) :: wg)) B.pre
  have hts := fun (w : Cond) (h : w ∈ wg) => hts0 w (List.mem_cons_of_mem _ h)
  have hown : s.vm.findClass RX3 = some m.cls := findClass_of_methodNamed B.named
  have hlocks := B.notSynchronized
  subst hsz
  have hD := pw_selfD (sz := s.heap.size) hD0
  have hA : ∀ q : Nat, s.heap.size ≤ q → pw_A L s.heap.size q := fun q h => Or.inr h
  have hS : va_S (pw_A L s.heap.size) s.heap s.heap [] := va_S.rf
  have hl := lv_entry ([.ref (ad 0), .int n, .int c_, .int y]) (n := 5) (Nat.le_of_ble_eq_true rfl)
  rw [lg_entry_eq]
  generalize (lg_sl ([.ref (ad 0), .int n, .int c_, .int y]) ++ List.replicate (5 - (lg_sl ([.ref (ad 0), .int n, .int c_, .int y])).length) Slot.unset).toArray = ls at hl ⊢
  have hl : lv_has ls 5 [(0, .ref (ad 0)), (1, .int n), (2, .int c_), (3, .int y)] := hl
  have hN6 := h0.nN6
  have hM12 := h0.nM12
  have m0 := h0.mem (pu_lo (r := 0) (by decide))
  have e0 := h0.e0
  have m1 := h0.mem (pu_lo (r := 1) (by decide))
  have e1 := h0.e1
  have m2 := h0.mem (pu_lo (r := 2) (by decide))
  have e2 := h0.e2
  have m3 := h0.mem (pu_lo (r := 3) (by decide))
  have e3 := h0.e3
  refine lv_aload_n hx hb dX3_says_0 rfl (lv_at hl 0 rfl) ?_
  refine lv_iload_n hx hb dX3_says_1 rfl (lv_at hl 1 rfl) ?_
  refine pr_callVq (As := [.int n]) (rest := []) ⟨hx, hb, hml, hown, hts⟩ (k_C_nAt l G cs L f ad t lm nN nM ns ms rt pg n h0) (cwV 1 hts (wg_V mw_63 mw_65 ms_0 mw_1 mw_66) rfl rfl rfl (by decide +kernel) ⟨Nat.le_of_ble_eq_true rfl, Nat.le_of_ble_eq_true rfl⟩) hK hP m0 e0 rfl px_T (fun _ _ _ => trivial) rfl hl.1 rfl (lv_room (Nat.le_of_ble_eq_true rfl)) dX3_says_2 ⟨Nat.le_of_ble_eq_true rfl, Nat.le_of_ble_eq_true rfl⟩ (fun r_1 hr_1 => ?_)
  rcases ix_cases (m := nN) (by omega) n with ⟨hxi, hnoi⟩ | ⟨i, hi, eni, hxi, hci, hdi⟩
  · obtain rfl : r_1 = none := by rw [hr_1, hxi]; rfl
    refine W.eq (g2 := F0 m 5 ls [.null]) rfl ?_
    refine lv_astoreN (lv' := [(4, .null), (0, .ref (ad 0)), (1, .int n), (2, .int c_), (3, .int y)]) hx hb dX3_says_5 hl (by decide) rfl (fun ls hl => ?_)
    refine lv_aloadN hx hb dX3_says_7 (lv_at hl 0 rfl) ?_
    refine lv_ifnullN (tgt := 26) hx hb dX3_says_9 (by decide) ?_
    refine lv_iconst (v := 0) hx hb dX3_says_26 (by decide) ?_
    have hsp : sC_says (t, lm, nN, nM, ns, ms, rt) n c_ y = (0, (t, lm, nN, nM, ns, ms, rt)) := by simp [sC_says, hxi]
    exact pc_retz hx hb hr rfl hlocks hP hD hS dX3_says_27 ⟨ad, pg, rfl, by rw [hsp], by rw [hsp]; exact h0⟩
  · obtain rfl : r_1 = some (ad (8 + 4 * i)) := by rw [hr_1, hxi]; rfl
    refine W.eq (g2 := F0 m 5 ls [.ref (ad (8 + 4 * i))]) rfl ?_
    refine lv_astore (lv' := [(4, .ref (ad (8 + 4 * i))), (0, .ref (ad 0)), (1, .int n), (2, .int c_), (3, .int y)]) hx hb dX3_says_5 hl (by decide) rfl (fun ls hl => ?_)
    refine lv_aload hx hb dX3_says_7 (lv_at hl 0 rfl) ?_
    refine lv_ifnull hx hb dX3_says_9 ?_
    refine lv_aload hx hb dX3_says_12 (lv_at hl 0 rfl) ?_
    refine lv_iload_n hx hb dX3_says_14 rfl (lv_at hl 3 rfl) ?_
    refine lv_iload_n hx hb dX3_says_15 rfl (lv_at hl 4 rfl) ?_
    refine pc_callVi (As := [.int c_, .int y]) (rest := []) ⟨hx, hb, hml, hown, hts⟩ (k_N_answer l G cs L f _ (ad (8 + 4 * i)) (ad (9 + 4 * i)) (ad (10 + 4 * i)) (ad (11 + 4 * i)) (ns i).1 (ns i).2.1 (ns i).2.2.1 (ns i).2.2.2.1 (ns i).2.2.2.2.1 (ns i).2.2.2.2.2.1 (ns i).2.2.2.2.2.2 c_ y (h0.nt hi)) (cwV 2 hts (wg_V mw_119 mw_120 mw_121 mw_4 mw_122) rfl rfl rfl (by decide +kernel) ⟨Nat.le_of_ble_eq_true rfl, Nat.le_of_ble_eq_true rfl⟩) hK hP hD hS hA (h0.nt hi).1.1 (h0.nt hi).2.1.1 rfl px_T (fun _ _ _ => trivial) rfl hl.1 rfl (lv_room (Nat.le_of_ble_eq_true rfl)) dX3_says_16 ⟨Nat.le_of_ble_eq_true rfl, Nat.le_of_ble_eq_true rfl⟩ (fun r_2 L1 f1 H locs hr_2 hP hD hS => ?_)
    obtain ⟨hr1, hr2⟩ := Prod.mk.inj hr_2
    obtain ⟨rfl, rfl⟩ := Prod.mk.inj hr2
    obtain ⟨hq1, hps⟩ := h0.ans hi c_ y
    rw [hq1] at hr1
    subst hr1
    refine lv_if_eq (tgt := 26) hx hb dX3_says_19 (by decide) (fun c_19 => ?_) (fun c_19 => ?_)
    · refine lv_iconst (v := 0) hx hb dX3_says_26 (by decide) ?_
      have hsp : sC_says (t, lm, nN, nM, ns, ms, rt) n c_ y = (0, (t, lm, nN, nM, va_up ns i (ns_ans (ns i) c_ y).2, ms, rt)) := by simp [sC_says, hxi, c_19]
      exact pc_retz hx hb hr rfl hlocks hP hD hS dX3_says_27 ⟨ad, pg, rfl, by rw [hsp], by rw [hsp]; exact hps⟩
    · have c_19 : (ns_ans (ns i) c_ y).1 = 1 := (ns_ans_01 _ _ _).resolve_left c_19
      refine lv_iconst (v := 1) hx hb dX3_says_22 (by decide) ?_
      refine lv_goto (tgt := 27) hx hb dX3_says_23 (by decide) ?_
      have hsp : sC_says (t, lm, nN, nM, ns, ms, rt) n c_ y = (1, (t, lm, nN, nM, va_up ns i (ns_ans (ns i) c_ y).2, ms, rt)) := by simp [sC_says, hxi, c_19]
      exact pc_retz hx hb hr rfl hlocks hP hD hS dX3_says_27 ⟨ad, pg, rfl, by rw [hsp], by rw [hsp]; exact hps⟩

set_option maxHeartbeats 4000000 in
set_option maxRecDepth 100000 in
theorem k_C_mark (l : Launch) (G : va_G) (cs : Nat → ClassId) (L : List Nat) (f : Nat → va_E) (sz : Nat) (ad : Nat → Nat) (t lm : Int32) (nN nM : Nat) (ns : Nat → NS) (ms : Nat → MS) (rt : Nat → Int32) (pg : sp_P) (n a_ b_ : Int32) (h0 : PS cs L f ad t lm nN nM ns ms rt pg) : Met l yX3_mark (Cond.code yX3_mark cX3_mark 5 (some FieldType.boolean) :: wg) ({ frames := 2, cells := 0, slots := 0, locals := 42 }) (pc_P [.ref (ad 0), .int n, .int a_, .int b_] G vwCl (tyl cs) L f sz (fun _ => True)) (va_Qi (fun r u => ∃ ad' pg', ad' 0 = ad 0 ∧ r = (sC_mark (t, lm, nN, nM, ns, ms, rt) n a_ b_).1 ∧ PSx cs u.1 u.2 ad' (sC_mark (t, lm, nN, nM, ns, ms, rt) n a_ b_).2 pg') (pc_B G vwCl L sz) (pw_A L sz)) 0 0 (pw_A L sz) := by
  refine Met.ofW (cc := cX3_mark) (maxL := 5) (ret := (some FieldType.boolean)) (by decide) rfl ?_
  intro p e s m args below meth c s₁ B hml hv
  obtain ⟨rfl, hsz, hP, hK, hD0, hX⟩ := hv
  have hx := B.exec
  have hb := B.bytes
  have hr := B.returns
  have hts0 := atoms_spec (ws := (Cond.code yX3_mark cX3_mark 5 (some FieldType.boolean) :: wg)) B.pre
  have hts := fun (w : Cond) (h : w ∈ wg) => hts0 w (List.mem_cons_of_mem _ h)
  have hown : s.vm.findClass RX3 = some m.cls := findClass_of_methodNamed B.named
  have hlocks := B.notSynchronized
  subst hsz
  have hD := pw_selfD (sz := s.heap.size) hD0
  have hA : ∀ q : Nat, s.heap.size ≤ q → pw_A L s.heap.size q := fun q h => Or.inr h
  have hS : va_S (pw_A L s.heap.size) s.heap s.heap [] := va_S.rf
  have hl := lv_entry ([.ref (ad 0), .int n, .int a_, .int b_]) (n := 5) (Nat.le_of_ble_eq_true rfl)
  rw [lg_entry_eq]
  generalize (lg_sl ([.ref (ad 0), .int n, .int a_, .int b_]) ++ List.replicate (5 - (lg_sl ([.ref (ad 0), .int n, .int a_, .int b_])).length) Slot.unset).toArray = ls at hl ⊢
  have hl : lv_has ls 5 [(0, .ref (ad 0)), (1, .int n), (2, .int a_), (3, .int b_)] := hl
  have hN6 := h0.nN6
  have hM12 := h0.nM12
  have m0 := h0.mem (pu_lo (r := 0) (by decide))
  have e0 := h0.e0
  have m1 := h0.mem (pu_lo (r := 1) (by decide))
  have e1 := h0.e1
  have m2 := h0.mem (pu_lo (r := 2) (by decide))
  have e2 := h0.e2
  have m3 := h0.mem (pu_lo (r := 3) (by decide))
  have e3 := h0.e3
  refine lv_aload_n hx hb dX3_mark_0 rfl (lv_at hl 0 rfl) ?_
  refine lv_iload_n hx hb dX3_mark_1 rfl (lv_at hl 1 rfl) ?_
  refine pr_callVq (As := [.int n]) (rest := []) ⟨hx, hb, hml, hown, hts⟩ (k_C_mAt l G cs L f ad t lm nN nM ns ms rt pg n h0) (cwV 1 hts (wg_V mw_147 mw_149 ms_3 mw_1 mw_150) rfl rfl rfl (by decide +kernel) ⟨Nat.le_of_ble_eq_true rfl, Nat.le_of_ble_eq_true rfl⟩) hK hP m0 e0 rfl px_T (fun _ _ _ => trivial) rfl hl.1 rfl (lv_room (Nat.le_of_ble_eq_true rfl)) dX3_mark_2 ⟨Nat.le_of_ble_eq_true rfl, Nat.le_of_ble_eq_true rfl⟩ (fun r_1 hr_1 => ?_)
  rcases ix_cases (m := nM) (by omega) n with ⟨hxj, hnoj⟩ | ⟨j, hj, enj, hxj, hcj, hdj⟩
  · obtain rfl : r_1 = none := by rw [hr_1, hxj]; rfl
    refine W.eq (g2 := F0 m 5 ls [.null]) rfl ?_
    refine lv_astoreN (lv' := [(4, .null), (0, .ref (ad 0)), (1, .int n), (2, .int a_), (3, .int b_)]) hx hb dX3_mark_5 hl (by decide) rfl (fun ls hl => ?_)
    refine lv_aloadN hx hb dX3_mark_7 (lv_at hl 0 rfl) ?_
    refine lv_ifnullN (tgt := 29) hx hb dX3_mark_9 (by decide) ?_
    refine lv_iconst (v := 0) hx hb dX3_mark_29 (by decide) ?_
    have hsp : sC_mark (t, lm, nN, nM, ns, ms, rt) n a_ b_ = (0, (t, lm, nN, nM, ns, ms, rt)) := by simp [sC_mark, hxj]
    exact pc_retz hx hb hr rfl hlocks hP hD hS dX3_mark_30 ⟨ad, pg, rfl, by rw [hsp], by rw [hsp]; exact h0⟩
  · obtain rfl : r_1 = some (ad (32 + 2 * j)) := by rw [hr_1, hxj]; rfl
    refine W.eq (g2 := F0 m 5 ls [.ref (ad (32 + 2 * j))]) rfl ?_
    refine lv_astore (lv' := [(4, .ref (ad (32 + 2 * j))), (0, .ref (ad 0)), (1, .int n), (2, .int a_), (3, .int b_)]) hx hb dX3_mark_5 hl (by decide) rfl (fun ls hl => ?_)
    refine lv_aload hx hb dX3_mark_7 (lv_at hl 0 rfl) ?_
    refine lv_ifnull hx hb dX3_mark_9 ?_
    refine lv_aload hx hb dX3_mark_12 (lv_at hl 0 rfl) ?_
    refine pw_get (ci := 0) (C := RX0) (T := TX0) (N := 8) hx hb hts inX0 hown hK hP (h0.mv hj).1.1.1 (h0.mv hj).1.2.1 rfl 5 (by decide) (hts _ mw_169) (fun _ h9 => h9) rfl dX3_mark_14 ?_
    refine lv_iconst (v := 2) hx hb dX3_mark_17 (by decide) ?_
    refine lv_icmp_ne (tgt := 29) hx hb dX3_mark_18 (by decide) (fun c_18 => ?_) (fun c_18 => ?_)
    · refine lv_iconst (v := 0) hx hb dX3_mark_29 (by decide) ?_
      have hsp : sC_mark (t, lm, nN, nM, ns, ms, rt) n a_ b_ = (0, (t, lm, nN, nM, ns, ms, rt)) := by simp [sC_mark, hxj, c_18]
      exact pc_retz hx hb hr rfl hlocks hP hD hS dX3_mark_30 ⟨ad, pg, rfl, by rw [hsp], by rw [hsp]; exact h0⟩
    · refine lv_aload hx hb dX3_mark_21 (lv_at hl 0 rfl) ?_
      refine pw_get (ci := 0) (C := RX0) (T := TX0) (N := 8) hx hb hts inX0 hown hK hP (h0.mv hj).1.1.1 (h0.mv hj).1.2.1 rfl 7 (by decide) (hts _ mw_172) (fun _ h9 => h9) rfl dX3_mark_23 ?_
      refine lv_if_eq (tgt := 31) hx hb dX3_mark_26 (by decide) (fun c_26 => ?_) (fun c_26 => ?_)
      · refine lv_iload_n hx hb dX3_mark_31 rfl (lv_at hl 3 rfl) ?_
        refine lv_iload_n hx hb dX3_mark_32 rfl (lv_at hl 4 rfl) ?_
        refine lv_icmp_eq (tgt := 54) hx hb dX3_mark_33 (by decide) (fun c_33 => ?_) (fun c_33 => ?_)
        · refine lv_iconst (v := 0) hx hb dX3_mark_54 (by decide) ?_
          have hsp : sC_mark (t, lm, nN, nM, ns, ms, rt) n a_ b_ = (0, (t, lm, nN, nM, ns, ms, rt)) := by simp [sC_mark, hxj, c_18, c_26, c_33]
          exact pc_retz hx hb hr rfl hlocks hP hD hS dX3_mark_55 ⟨ad, pg, rfl, by rw [hsp], by rw [hsp]; exact h0⟩
        · refine lv_aload_n hx hb dX3_mark_36 rfl (lv_at hl 1 rfl) ?_
          refine lv_iload_n hx hb dX3_mark_37 rfl (lv_at hl 3 rfl) ?_
          refine lv_iconst (v := 2) hx hb dX3_mark_38 (by decide) ?_
          refine pr_callVi (As := [.int a_, .int 2]) (rest := []) ⟨hx, hb, hml, hown, hts⟩ (k_C_has l G cs L f ad t lm nN nM ns ms rt pg a_ 2 h0) (cwV 2 hts (wg_V mw_208 mw_210 ms_4 mw_1 mw_211) rfl rfl rfl (by decide +kernel) ⟨Nat.le_of_ble_eq_true rfl, Nat.le_of_ble_eq_true rfl⟩) hK hP m0 e0 rfl px_T (fun _ _ _ => trivial) rfl hl.1 rfl (lv_room (Nat.le_of_ble_eq_true rfl)) dX3_mark_39 ⟨Nat.le_of_ble_eq_true rfl, Nat.le_of_ble_eq_true rfl⟩ (fun r_2 hr_2 => ?_)
          subst hr_2
          refine lv_if_eq (tgt := 54) hx hb dX3_mark_42 (by decide) (fun c_42 => ?_) (fun c_42 => ?_)
          · refine lv_iconst (v := 0) hx hb dX3_mark_54 (by decide) ?_
            have hsp : sC_mark (t, lm, nN, nM, ns, ms, rt) n a_ b_ = (0, (t, lm, nN, nM, ns, ms, rt)) := by simp [sC_mark, hxj, c_18, c_26, c_33, c_42]
            exact pc_retz hx hb hr rfl hlocks hP hD hS dX3_mark_55 ⟨ad, pg, rfl, by rw [hsp], by rw [hsp]; exact h0⟩
          · refine lv_aload_n hx hb dX3_mark_45 rfl (lv_at hl 1 rfl) ?_
            refine lv_iload_n hx hb dX3_mark_46 rfl (lv_at hl 4 rfl) ?_
            refine lv_iconst (v := 2) hx hb dX3_mark_47 (by decide) ?_
            refine pr_callVi (As := [.int b_, .int 2]) (rest := []) ⟨hx, hb, hml, hown, hts⟩ (k_C_has l G cs L f ad t lm nN nM ns ms rt pg b_ 2 h0) (cwV 2 hts (wg_V mw_208 mw_210 ms_4 mw_1 mw_211) rfl rfl rfl (by decide +kernel) ⟨Nat.le_of_ble_eq_true rfl, Nat.le_of_ble_eq_true rfl⟩) hK hP m0 e0 rfl px_T (fun _ _ _ => trivial) rfl hl.1 rfl (lv_room (Nat.le_of_ble_eq_true rfl)) dX3_mark_48 ⟨Nat.le_of_ble_eq_true rfl, Nat.le_of_ble_eq_true rfl⟩ (fun r_3 hr_3 => ?_)
            subst hr_3
            refine lv_if_ne (tgt := 56) hx hb dX3_mark_51 (by decide) (fun c_51 => ?_) (fun c_51 => ?_)
            · refine lv_aload hx hb dX3_mark_56 (lv_at hl 0 rfl) ?_
              refine lv_iconst (v := 1) hx hb dX3_mark_58 (by decide) ?_
              refine pw_put (ty := .boolean) (ci := 0) (v := .int 1) (C := RX0) (T := TX0) (N := 8) hx hb hts inX0 tyX0 tyX0_ok nmX0 hown hK hP hD hS (h0.mv hj).1.1.1 (h0.mv hj).1.2.1 rfl 7 (by decide) (hts _ mw_172) (fun _ h9 => h9) rfl (by decide +kernel) rfl rfl (Nat.le_of_ble_eq_true rfl) dX3_mark_59 (fun H locs hP hD hS => ?_)
              obtain ⟨f_4, ef_4⟩ : ∃ zz : Nat → va_E, zz = va_up f (ad (32 + 2 * j)) (.inr (0, [.int ((ms j).1), .long ((ms j).2.1), .int ((ms j).2.2.1), .ref (ad (33 + 2 * j)), .int (nI (ms j).2.2.2.2.1), .int ((ms j).2.2.2.2.2.1), .int ((ms j).2.2.2.2.2.2.1), .int 1])) := ⟨_, rfl⟩
              have hP : va_P G vwCl (va_pl L f_4) H := by rw [ef_4]; exact hP
              have hD : va_D (pw_A L s.heap.size) (va_pl L f_4) := by rw [ef_4]; exact hD
              have hf_4_ad_32_2_j : f_4 (ad (32 + 2 * j)) = .inr (0, [.int ((ms j).1), .long ((ms j).2.1), .int ((ms j).2.2.1), .ref (ad (33 + 2 * j)), .int (nI (ms j).2.2.2.2.1), .int ((ms j).2.2.2.2.2.1), .int ((ms j).2.2.2.2.2.2.1), .int 1]) := by rw [ef_4]; exact va_up_self _ _ _
              refine lv_iconst (v := 1) hx hb dX3_mark_62 (by decide) ?_
              have hps := h0.mobj hj (ms j).2.2.2.2.2.1 (ms j).2.2.2.2.2.2.1 1
              rw [← ef_4] at hps
              have hsp : sC_mark (t, lm, nN, nM, ns, ms, rt) n a_ b_ = (1, (t, lm, nN, nM, ns, va_up ms j (ms_mark (ms j)), rt)) := by simp [sC_mark, hxj, c_18, c_26, c_33, c_42, c_51]
              exact pc_retz hx hb hr rfl hlocks hP hD hS dX3_mark_63 ⟨ad, pg, rfl, by rw [hsp], by rw [hsp]; exact hps⟩
            · refine lv_iconst (v := 0) hx hb dX3_mark_54 (by decide) ?_
              have hsp : sC_mark (t, lm, nN, nM, ns, ms, rt) n a_ b_ = (0, (t, lm, nN, nM, ns, ms, rt)) := by simp [sC_mark, hxj, c_18, c_26, c_33, c_42, c_51]
              exact pc_retz hx hb hr rfl hlocks hP hD hS dX3_mark_55 ⟨ad, pg, rfl, by rw [hsp], by rw [hsp]; exact h0⟩
      · refine lv_iconst (v := 0) hx hb dX3_mark_29 (by decide) ?_
        have hsp : sC_mark (t, lm, nN, nM, ns, ms, rt) n a_ b_ = (0, (t, lm, nN, nM, ns, ms, rt)) := by simp [sC_mark, hxj, c_18, c_26]
        exact pc_retz hx hb hr rfl hlocks hP hD hS dX3_mark_30 ⟨ad, pg, rfl, by rw [hsp], by rw [hsp]; exact h0⟩

set_option maxHeartbeats 4000000 in
set_option maxRecDepth 100000 in
theorem k_C_carrier (l : Launch) (G : va_G) (cs : Nat → ClassId) (L : List Nat) (f : Nat → va_E) (sz : Nat) (ad : Nat → Nat) (t lm : Int32) (nN nM : Nat) (ns : Nat → NS) (ms : Nat → MS) (rt : Nat → Int32) (pg : sp_P) (n c_ : Int32) (h0 : PS cs L f ad t lm nN nM ns ms rt pg) : Met l yX3_carrier (Cond.code yX3_carrier cX3_carrier 4 (some FieldType.int) :: wg) ({ frames := 2, cells := 0, slots := 0, locals := 42 }) (pc_P [.ref (ad 0), .int n, .int c_] G vwCl (tyl cs) L f sz (fun _ => True)) (va_Qi (fun r u => ∃ ad' pg', ad' 0 = ad 0 ∧ r = (sC_carrier (t, lm, nN, nM, ns, ms, rt) n c_).1 ∧ PSx cs u.1 u.2 ad' (sC_carrier (t, lm, nN, nM, ns, ms, rt) n c_).2 pg') (pc_B G vwCl L sz) (pw_A L sz)) 0 0 (pw_A L sz) := by
  refine Met.ofW (cc := cX3_carrier) (maxL := 4) (ret := (some FieldType.int)) (by decide) rfl ?_
  intro p e s m args below meth c s₁ B hml hv
  obtain ⟨rfl, hsz, hP, hK, hD0, hX⟩ := hv
  have hx := B.exec
  have hb := B.bytes
  have hr := B.returns
  have hts0 := atoms_spec (ws := (Cond.code yX3_carrier cX3_carrier 4 (some FieldType.int) :: wg)) B.pre
  have hts := fun (w : Cond) (h : w ∈ wg) => hts0 w (List.mem_cons_of_mem _ h)
  have hown : s.vm.findClass RX3 = some m.cls := findClass_of_methodNamed B.named
  have hlocks := B.notSynchronized
  subst hsz
  have hD := pw_selfD (sz := s.heap.size) hD0
  have hA : ∀ q : Nat, s.heap.size ≤ q → pw_A L s.heap.size q := fun q h => Or.inr h
  have hS : va_S (pw_A L s.heap.size) s.heap s.heap [] := va_S.rf
  have hl := lv_entry ([.ref (ad 0), .int n, .int c_]) (n := 4) (Nat.le_of_ble_eq_true rfl)
  rw [lg_entry_eq]
  generalize (lg_sl ([.ref (ad 0), .int n, .int c_]) ++ List.replicate (4 - (lg_sl ([.ref (ad 0), .int n, .int c_])).length) Slot.unset).toArray = ls at hl ⊢
  have hl : lv_has ls 4 [(0, .ref (ad 0)), (1, .int n), (2, .int c_)] := hl
  have hN6 := h0.nN6
  have hM12 := h0.nM12
  have m0 := h0.mem (pu_lo (r := 0) (by decide))
  have e0 := h0.e0
  have m1 := h0.mem (pu_lo (r := 1) (by decide))
  have e1 := h0.e1
  have m2 := h0.mem (pu_lo (r := 2) (by decide))
  have e2 := h0.e2
  have m3 := h0.mem (pu_lo (r := 3) (by decide))
  have e3 := h0.e3
  refine lv_aload_n hx hb dX3_carrier_0 rfl (lv_at hl 0 rfl) ?_
  refine lv_iload_n hx hb dX3_carrier_1 rfl (lv_at hl 1 rfl) ?_
  refine pr_callVq (As := [.int n]) (rest := []) ⟨hx, hb, hml, hown, hts⟩ (k_C_mAt l G cs L f ad t lm nN nM ns ms rt pg n h0) (cwV 1 hts (wg_V mw_147 mw_149 ms_3 mw_1 mw_150) rfl rfl rfl (by decide +kernel) ⟨Nat.le_of_ble_eq_true rfl, Nat.le_of_ble_eq_true rfl⟩) hK hP m0 e0 rfl px_T (fun _ _ _ => trivial) rfl hl.1 rfl (lv_room (Nat.le_of_ble_eq_true rfl)) dX3_carrier_2 ⟨Nat.le_of_ble_eq_true rfl, Nat.le_of_ble_eq_true rfl⟩ (fun r_1 hr_1 => ?_)
  rcases ix_cases (m := nM) (by omega) n with ⟨hxj, hnoj⟩ | ⟨j, hj, enj, hxj, hcj, hdj⟩
  · obtain rfl : r_1 = none := by rw [hr_1, hxj]; rfl
    refine W.eq (g2 := F0 m 5 ls [.null]) rfl ?_
    refine lv_astore_nN (lv' := [(3, .null), (0, .ref (ad 0)), (1, .int n), (2, .int c_)]) hx hb dX3_carrier_5 rfl hl (by decide) rfl (fun ls hl => ?_)
    refine lv_aload_nN hx hb dX3_carrier_6 rfl (lv_at hl 0 rfl) ?_
    refine lv_ifnullN (tgt := 28) hx hb dX3_carrier_7 (by decide) ?_
    refine lv_iconst (v := (-1)) hx hb dX3_carrier_28 (by decide) ?_
    have hsp : sC_carrier (t, lm, nN, nM, ns, ms, rt) n c_ = ((-1), (t, lm, nN, nM, ns, ms, rt)) := by simp [sC_carrier, hxj]
    exact pc_reti hx hb hr hlocks hP hD hS dX3_carrier_29 ⟨ad, pg, rfl, by rw [hsp], by rw [hsp]; exact h0⟩
  · obtain rfl : r_1 = some (ad (32 + 2 * j)) := by rw [hr_1, hxj]; rfl
    refine W.eq (g2 := F0 m 5 ls [.ref (ad (32 + 2 * j))]) rfl ?_
    refine lv_astore_n (lv' := [(3, .ref (ad (32 + 2 * j))), (0, .ref (ad 0)), (1, .int n), (2, .int c_)]) hx hb dX3_carrier_5 rfl hl (by decide) rfl (fun ls hl => ?_)
    refine lv_aload_n hx hb dX3_carrier_6 rfl (lv_at hl 0 rfl) ?_
    refine lv_ifnull hx hb dX3_carrier_7 ?_
    refine lv_aload_n hx hb dX3_carrier_10 rfl (lv_at hl 0 rfl) ?_
    refine pw_get (ci := 0) (C := RX0) (T := TX0) (N := 8) hx hb hts inX0 hown hK hP (h0.mv hj).1.1.1 (h0.mv hj).1.2.1 rfl 5 (by decide) (hts _ mw_169) (fun _ h9 => h9) rfl dX3_carrier_11 ?_
    refine lv_iconst (v := 1) hx hb dX3_carrier_14 (by decide) ?_
    refine lv_icmp_ne (tgt := 28) hx hb dX3_carrier_15 (by decide) (fun c_15 => ?_) (fun c_15 => ?_)
    · refine lv_iconst (v := (-1)) hx hb dX3_carrier_28 (by decide) ?_
      have hsp : sC_carrier (t, lm, nN, nM, ns, ms, rt) n c_ = ((-1), (t, lm, nN, nM, ns, ms, rt)) := by simp [sC_carrier, hxj, c_15]
      exact pc_reti hx hb hr hlocks hP hD hS dX3_carrier_29 ⟨ad, pg, rfl, by rw [hsp], by rw [hsp]; exact h0⟩
    · refine lv_iload_n hx hb dX3_carrier_18 rfl (lv_at hl 3 rfl) ?_
      refine lv_if_lt (tgt := 28) hx hb dX3_carrier_19 (by decide) (fun c_19 => ?_) (fun c_19 => ?_)
      · refine lv_iconst (v := (-1)) hx hb dX3_carrier_28 (by decide) ?_
        have hsp : sC_carrier (t, lm, nN, nM, ns, ms, rt) n c_ = ((-1), (t, lm, nN, nM, ns, ms, rt)) := by simp [sC_carrier, hxj, c_15, c_19]
        exact pc_reti hx hb hr hlocks hP hD hS dX3_carrier_29 ⟨ad, pg, rfl, by rw [hsp], by rw [hsp]; exact h0⟩
      · refine lv_iload_n hx hb dX3_carrier_22 rfl (lv_at hl 3 rfl) ?_
        refine lv_bipush (v := 100) hx hb dX3_carrier_23 (by decide) ?_
        refine lv_icmp_lt (tgt := 30) hx hb dX3_carrier_25 (by decide) (fun c_25 => ?_) (fun c_25 => ?_)
        · refine lv_aload_n hx hb dX3_carrier_30 rfl (lv_at hl 0 rfl) ?_
          refine lv_iload_n hx hb dX3_carrier_31 rfl (lv_at hl 3 rfl) ?_
          refine pc_callVi (As := [.int c_]) (rest := []) ⟨hx, hb, hml, hown, hts⟩ (k_M_addc l G cs L f _ (ad (32 + 2 * j)) (ad (33 + 2 * j)) (ms j).1 (ms j).2.1 (ms j).2.2.1 (ms j).2.2.2.1 (ms j).2.2.2.2.1 (ms j).2.2.2.2.2.1 (ms j).2.2.2.2.2.2.1 (ms j).2.2.2.2.2.2.2 c_ (h0.mv hj).1 (h0.mv hj).2) (cwV 1 hts (wg_V mw_270 mw_271 mw_272 mw_5 mw_273) rfl rfl rfl (by decide +kernel) ⟨Nat.le_of_ble_eq_true rfl, Nat.le_of_ble_eq_true rfl⟩) hK hP hD hS hA (h0.mv hj).1.1.1 (h0.mv hj).1.2.1 rfl px_T (fun _ _ _ => trivial) rfl hl.1 rfl (lv_room (Nat.le_of_ble_eq_true rfl)) dX3_carrier_32 ⟨Nat.le_of_ble_eq_true rfl, Nat.le_of_ble_eq_true rfl⟩ (fun r_2 L1 f1 H locs hr_2 hP hD hS => ?_)
          obtain ⟨hr1, hr2⟩ := Prod.mk.inj hr_2
          obtain ⟨rfl, rfl⟩ := Prod.mk.inj hr2
          obtain ⟨hq1, hps⟩ := h0.addc hj c_
          rw [hq1] at hr1
          subst hr1
          have hsp : sC_carrier (t, lm, nN, nM, ns, ms, rt) n c_ = ((ms_addc (ms j) c_).1, (t, lm, nN, nM, ns, va_up ms j (ms_addc (ms j) c_).2, rt)) := by simp [sC_carrier, hxj, c_15, c_19, c_25]
          exact pc_reti hx hb hr hlocks hP hD hS dX3_carrier_35 ⟨ad, pg, rfl, by rw [hsp], by rw [hsp]; exact hps⟩
        · refine lv_iconst (v := (-1)) hx hb dX3_carrier_28 (by decide) ?_
          have hsp : sC_carrier (t, lm, nN, nM, ns, ms, rt) n c_ = ((-1), (t, lm, nN, nM, ns, ms, rt)) := by simp [sC_carrier, hxj, c_15, c_19, c_25]
          exact pc_reti hx hb hr hlocks hP hD hS dX3_carrier_29 ⟨ad, pg, rfl, by rw [hsp], by rw [hsp]; exact h0⟩

set_option maxHeartbeats 4000000 in
set_option maxRecDepth 100000 in
theorem k_C_event (l : Launch) (G : va_G) (cs : Nat → ClassId) (L : List Nat) (f : Nat → va_E) (sz : Nat) (ad : Nat → Nat) (t lm : Int32) (nN nM : Nat) (ns : Nat → NS) (ms : Nat → MS) (rt : Nat → Int32) (pg : sp_P) (n e_ p_ : Int32) (tL tC : Nat) (h0 : PS cs L f ad t lm nN nM ns ms rt pg) : Met l yX3_event (Cond.code yX3_event cX3_event 6 (some FieldType.int) :: wg) ({ frames := 3, cells := 0, slots := 0, locals := 66 }) (pc_P [.ref (ad 0), .int n, .int e_, .int p_] G vwCl (tyl cs) L f sz (fun U => SX tL tC (pw_A L sz) U U.heap)) (va_Qi (fun r u => ∃ ad' pg', ad' 0 = ad 0 ∧ r = (sC_event (t, lm, nN, nM, ns, ms, rt) n e_ p_).1 ∧ PSx cs u.1 u.2 ad' (sC_event (t, lm, nN, nM, ns, ms, rt) n e_ p_).2 pg') (pc_B G vwCl L sz) (pw_A L sz)) 0 0 (pw_A L sz) := by
  refine Met.ofW (cc := cX3_event) (maxL := 6) (ret := (some FieldType.int)) (by decide) rfl ?_
  intro p e s m args below meth c s₁ B hml hv
  obtain ⟨rfl, hsz, hP, hK, hD0, hX⟩ := hv
  have hx := B.exec
  have hb := B.bytes
  have hr := B.returns
  have hts0 := atoms_spec (ws := (Cond.code yX3_event cX3_event 6 (some FieldType.int) :: wg)) B.pre
  have hts := fun (w : Cond) (h : w ∈ wg) => hts0 w (List.mem_cons_of_mem _ h)
  have hown : s.vm.findClass RX3 = some m.cls := findClass_of_methodNamed B.named
  have hlocks := B.notSynchronized
  subst hsz
  have hD := pw_selfD (sz := s.heap.size) hD0
  have hA : ∀ q : Nat, s.heap.size ≤ q → pw_A L s.heap.size q := fun q h => Or.inr h
  have hS : va_S (pw_A L s.heap.size) s.heap s.heap [] := va_S.rf
  have hl := lv_entry ([.ref (ad 0), .int n, .int e_, .int p_]) (n := 6) (Nat.le_of_ble_eq_true rfl)
  rw [lg_entry_eq]
  generalize (lg_sl ([.ref (ad 0), .int n, .int e_, .int p_]) ++ List.replicate (6 - (lg_sl ([.ref (ad 0), .int n, .int e_, .int p_])).length) Slot.unset).toArray = ls at hl ⊢
  have hl : lv_has ls 6 [(0, .ref (ad 0)), (1, .int n), (2, .int e_), (3, .int p_)] := hl
  have hN6 := h0.nN6
  have hM12 := h0.nM12
  have m0 := h0.mem (pu_lo (r := 0) (by decide))
  have e0 := h0.e0
  have m1 := h0.mem (pu_lo (r := 1) (by decide))
  have e1 := h0.e1
  have m2 := h0.mem (pu_lo (r := 2) (by decide))
  have e2 := h0.e2
  have m3 := h0.mem (pu_lo (r := 3) (by decide))
  have e3 := h0.e3
  refine lv_aload_n hx hb dX3_event_0 rfl (lv_at hl 0 rfl) ?_
  refine lv_iload_n hx hb dX3_event_1 rfl (lv_at hl 1 rfl) ?_
  refine pr_callVq (As := [.int n]) (rest := []) ⟨hx, hb, hml, hown, hts⟩ (k_C_mAt l G cs L f ad t lm nN nM ns ms rt pg n h0) (cwV 1 hts (wg_V mw_147 mw_149 ms_3 mw_1 mw_150) rfl rfl rfl (by decide +kernel) ⟨Nat.le_of_ble_eq_true rfl, Nat.le_of_ble_eq_true rfl⟩) hK hP m0 e0 rfl px_T (fun _ _ _ => trivial) rfl hl.1 rfl (lv_room (Nat.le_of_ble_eq_true rfl)) dX3_event_2 ⟨Nat.le_of_ble_eq_true rfl, Nat.le_of_ble_eq_true rfl⟩ (fun r_1 hr_1 => ?_)
  rcases ix_cases (m := nM) (by omega) n with ⟨hxj, hnoj⟩ | ⟨j, hj, enj, hxj, hcj, hdj⟩
  · obtain rfl : r_1 = none := by rw [hr_1, hxj]; rfl
    refine W.eq (g2 := F0 m 5 ls [.null]) rfl ?_
    refine lv_astoreN (lv' := [(4, .null), (0, .ref (ad 0)), (1, .int n), (2, .int e_), (3, .int p_)]) hx hb dX3_event_5 hl (by decide) rfl (fun ls hl => ?_)
    refine lv_aloadN hx hb dX3_event_7 (lv_at hl 0 rfl) ?_
    refine lv_ifnullN (tgt := 26) hx hb dX3_event_9 (by decide) ?_
    refine lv_iconst (v := (-1)) hx hb dX3_event_26 (by decide) ?_
    have hsp : sC_event (t, lm, nN, nM, ns, ms, rt) n e_ p_ = ((-1), (t, lm, nN, nM, ns, ms, rt)) := by simp only [sC_event, hxj, sC_ev2, sC_evR]
    exact pc_reti hx hb hr hlocks hP hD hS dX3_event_27 ⟨ad, pg, rfl, by rw [hsp], by rw [hsp]; exact h0⟩
  · obtain rfl : r_1 = some (ad (32 + 2 * j)) := by rw [hr_1, hxj]; rfl
    refine W.eq (g2 := F0 m 5 ls [.ref (ad (32 + 2 * j))]) rfl ?_
    refine lv_astore (lv' := [(4, .ref (ad (32 + 2 * j))), (0, .ref (ad 0)), (1, .int n), (2, .int e_), (3, .int p_)]) hx hb dX3_event_5 hl (by decide) rfl (fun ls hl => ?_)
    refine lv_aload hx hb dX3_event_7 (lv_at hl 0 rfl) ?_
    refine lv_ifnull hx hb dX3_event_9 ?_
    refine lv_iload_n hx hb dX3_event_12 rfl (lv_at hl 3 rfl) ?_
    refine pr_callSi (As := [.int e_]) (rest := []) ⟨hx, hb, hml, hown, hts⟩ (k_C_isE l G cs L f e_) (cwS 1 hts (wg_S mw_201 mw_202 mw_1 mw_203) rfl rfl rfl (by decide +kernel) ⟨Nat.le_of_ble_eq_true rfl, Nat.le_of_ble_eq_true rfl⟩) hK hP px_T (fun _ _ _ => trivial) rfl hl.1 rfl (lv_room (Nat.le_of_ble_eq_true rfl)) dX3_event_13 ⟨Nat.le_of_ble_eq_true rfl, Nat.le_of_ble_eq_true rfl⟩ (fun r_2 hr_2 => ?_)
    rcases sp_in_cases (m := 5) (by decide) e_ with ⟨hxb, hsb⟩ | ⟨b, hb_, enb, hxb, hsb⟩
    · obtain rfl : r_2 = 0 := by rw [hr_2, hsb]
      refine lv_if_eq (tgt := 26) hx hb dX3_event_16 (by decide) (fun c_16 => ?_) (fun c_16 => ?_)
      · refine lv_iconst (v := (-1)) hx hb dX3_event_26 (by decide) ?_
        have hsp : sC_event (t, lm, nN, nM, ns, ms, rt) n e_ p_ = ((-1), (t, lm, nN, nM, ns, ms, rt)) := by simp only [sC_event, hxj, hxb, sC_ev2, sC_evR]
        exact pc_reti hx hb hr hlocks hP hD hS dX3_event_27 ⟨ad, pg, rfl, by rw [hsp], by rw [hsp]; exact h0⟩
      · exact absurd c_16 (by decide)
    · obtain rfl : r_2 = 1 := by rw [hr_2, hsb]
      refine lv_if_eq (tgt := 26) hx hb dX3_event_16 (by decide) (fun c_16 => ?_) (fun c_16 => ?_)
      · exact absurd c_16 (by decide)
      · refine lv_iload_n hx hb dX3_event_19 rfl (lv_at hl 4 rfl) ?_
        refine pr_callSi (As := [.int p_]) (rest := []) ⟨hx, hb, hml, hown, hts⟩ (k_C_isP l G cs L f p_) (cwS 1 hts (wg_S mw_198 mw_199 mw_1 mw_200) rfl rfl rfl (by decide +kernel) ⟨Nat.le_of_ble_eq_true rfl, Nat.le_of_ble_eq_true rfl⟩) hK hP px_T (fun _ _ _ => trivial) rfl hl.1 rfl (lv_room (Nat.le_of_ble_eq_true rfl)) dX3_event_20 ⟨Nat.le_of_ble_eq_true rfl, Nat.le_of_ble_eq_true rfl⟩ (fun r_3 hr_3 => ?_)
        rcases sp_in_cases (m := 8) (by decide) p_ with ⟨hxa, hsa⟩ | ⟨a, ha, ena, hxa, hsa⟩
        · obtain rfl : r_3 = 0 := by rw [hr_3, hsa]
          refine lv_if_ne (tgt := 28) hx hb dX3_event_23 (by decide) (fun c_23 => ?_) (fun c_23 => ?_)
          · exact absurd c_23 (by decide)
          · refine lv_iconst (v := (-1)) hx hb dX3_event_26 (by decide) ?_
            have hsp : sC_event (t, lm, nN, nM, ns, ms, rt) n e_ p_ = ((-1), (t, lm, nN, nM, ns, ms, rt)) := by simp only [sC_event, hxj, hxb, hxa, sC_ev2, sC_evR]
            exact pc_reti hx hb hr hlocks hP hD hS dX3_event_27 ⟨ad, pg, rfl, by rw [hsp], by rw [hsp]; exact h0⟩
        · obtain rfl : r_3 = 1 := by rw [hr_3, hsa]
          refine lv_if_ne (tgt := 28) hx hb dX3_event_23 (by decide) (fun c_23 => ?_) (fun c_23 => ?_)
          · refine lv_aload_n hx hb dX3_event_28 rfl (lv_at hl 1 rfl) ?_
            refine lv_iload_n hx hb dX3_event_29 rfl (lv_at hl 4 rfl) ?_
            refine lv_iload_n hx hb dX3_event_30 rfl (lv_at hl 3 rfl) ?_
            refine pr_callVi (As := [.int p_, .int e_]) (rest := []) ⟨hx, hb, hml, hown, hts⟩ (k_C_has l G cs L f ad t lm nN nM ns ms rt pg p_ e_ h0) (cwV 2 hts (wg_V mw_208 mw_210 ms_4 mw_1 mw_211) rfl rfl rfl (by decide +kernel) ⟨Nat.le_of_ble_eq_true rfl, Nat.le_of_ble_eq_true rfl⟩) hK hP m0 e0 rfl px_T (fun _ _ _ => trivial) rfl hl.1 rfl (lv_room (Nat.le_of_ble_eq_true rfl)) dX3_event_31 ⟨Nat.le_of_ble_eq_true rfl, Nat.le_of_ble_eq_true rfl⟩ (fun r_4 hr_4 => ?_)
            subst hr_4
            refine lv_if_ne (tgt := 40) hx hb dX3_event_34 (by decide) (fun c_34 => ?_) (fun c_34 => ?_)
            · refine lv_iload_n hx hb dX3_event_40 rfl (lv_at hl 3 rfl) ?_
              refine lv_aload hx hb dX3_event_41 (lv_at hl 0 rfl) ?_
              refine pw_get (ci := 0) (C := RX0) (T := TX0) (N := 8) hx hb hts inX0 hown hK hP (h0.mv hj).1.1.1 (h0.mv hj).1.2.1 rfl 5 (by decide) (hts _ mw_169) (fun _ h9 => h9) rfl dX3_event_43 ?_
              refine pr_callSi (As := [.int e_, .int ((ms j).2.2.2.2.2.1)]) (rest := []) ⟨hx, hb, hml, hown, hts⟩ (k_C_next l G cs L f e_ ((ms j).2.2.2.2.2.1) tL tC) (cwS 2 hts (wg_S mw_216 mw_217 mw_1 mw_218) rfl rfl rfl (by decide +kernel) ⟨Nat.le_of_ble_eq_true rfl, Nat.le_of_ble_eq_true rfl⟩) hK hP SX.px (SX.use hX hS (fun _ h => h.elim)) rfl hl.1 rfl (lv_room (Nat.le_of_ble_eq_true rfl)) dX3_event_46 ⟨Nat.le_of_ble_eq_true rfl, Nat.le_of_ble_eq_true rfl⟩ (fun r_5 hr_5 => ?_)
              subst hr_5
              refine lv_istore (lv' := [(5, .int (sC_next e_ ((ms j).2.2.2.2.2.1))), (4, .ref (ad (32 + 2 * j))), (0, .ref (ad 0)), (1, .int n), (2, .int e_), (3, .int p_)]) hx hb dX3_event_49 hl (by decide) rfl (fun ls hl => ?_)
              refine lv_iload hx hb dX3_event_51 (lv_at hl 0 rfl) ?_
              refine lv_iconst (v := (-1)) hx hb dX3_event_53 (by decide) ?_
              refine lv_icmp_ne (tgt := 60) hx hb dX3_event_54 (by decide) (fun c_54 => ?_) (fun c_54 => ?_)
              · refine lv_iload_n hx hb dX3_event_60 rfl (lv_at hl 4 rfl) ?_
                refine lv_if_ne (tgt := 76) hx hb dX3_event_61 (by decide) (fun c_61 => ?_) (fun c_61 => ?_)
                · refine lv_iload_n hx hb dX3_event_76 rfl (lv_at hl 4 rfl) ?_
                  refine lv_iconst (v := 2) hx hb dX3_event_77 (by decide) ?_
                  refine lv_icmp_ne (tgt := 92) hx hb dX3_event_78 (by decide) (fun c_78 => ?_) (fun c_78 => ?_)
                  · refine lv_aload hx hb dX3_event_92 (lv_at hl 1 rfl) ?_
                    refine lv_iload hx hb dX3_event_94 (lv_at hl 0 rfl) ?_
                    refine lv_aload_n hx hb dX3_event_96 rfl (lv_at hl 2 rfl) ?_
                    refine pw_get (ci := 3) (C := RX3) (T := TX3) (N := 8) hx hb hts inX3 hown hK hP m0 e0 rfl 6 (by decide) (hts _ mw_39) (fun _ h9 => h9) rfl dX3_event_97 ?_
                    refine pc_callVv (As := [.int (sC_next e_ ((ms j).2.2.2.2.2.1)), .int t]) (rest := []) ⟨hx, hb, hml, hown, hts⟩ (k_M_enter l G cs L f _ (ad (32 + 2 * j)) (ad (33 + 2 * j)) (ms j).1 (ms j).2.1 (ms j).2.2.1 (ms j).2.2.2.1 (ms j).2.2.2.2.1 (ms j).2.2.2.2.2.1 (ms j).2.2.2.2.2.2.1 (ms j).2.2.2.2.2.2.2 (sC_next e_ ((ms j).2.2.2.2.2.1)) t (h0.mv hj).1) (cwV 2 hts (wg_V mw_225 mw_226 mw_227 mw_5 mw_228) rfl rfl rfl (by decide +kernel) ⟨Nat.le_of_ble_eq_true rfl, Nat.le_of_ble_eq_true rfl⟩) hK hP hD hS hA (h0.mv hj).1.1.1 (h0.mv hj).1.2.1 rfl px_T (fun _ _ _ => trivial) rfl hl.1 rfl (lv_room (Nat.le_of_ble_eq_true rfl)) dX3_event_100 ⟨Nat.le_of_ble_eq_true rfl, Nat.le_of_ble_eq_true rfl⟩ (fun L1 f1 H locs hr_6 hP hD hS => ?_)
                    obtain ⟨rfl, rfl⟩ := Prod.mk.inj hr_6
                    have hps := h0.mobj hj (sC_next e_ ((ms j).2.2.2.2.2.1)) t (ms j).2.2.2.2.2.2.2
                    refine lv_iload hx hb dX3_event_103 (lv_at hl 0 rfl) ?_
                    have hsp : sC_event (t, lm, nN, nM, ns, ms, rt) n e_ p_ = (sC_next e_ ((ms j).2.2.2.2.2.1), (t, lm, nN, nM, ns, va_up ms j (ms_ent (ms j) (sC_next e_ ((ms j).2.2.2.2.2.1)) t), rt)) := by simp only [sC_event, hxj, hxb, hxa, if_neg c_34, if_neg c_54, if_neg c_61, if_neg c_78, sC_ev2, sC_evR]
                    exact pc_reti hx hb hr hlocks hP hD hS dX3_event_105 ⟨ad, pg, rfl, by rw [hsp], by rw [hsp]; exact hps⟩
                  · refine lv_aload hx hb dX3_event_81 (lv_at hl 1 rfl) ?_
                    refine pw_get (ci := 0) (C := RX0) (T := TX0) (N := 8) hx hb hts inX0 hown hK hP (h0.mv hj).1.1.1 (h0.mv hj).1.2.1 rfl 7 (by decide) (hts _ mw_172) (fun _ h9 => h9) rfl dX3_event_83 ?_
                    refine lv_if_ne (tgt := 92) hx hb dX3_event_86 (by decide) (fun c_86 => ?_) (fun c_86 => ?_)
                    · refine lv_aload hx hb dX3_event_92 (lv_at hl 1 rfl) ?_
                      refine lv_iload hx hb dX3_event_94 (lv_at hl 0 rfl) ?_
                      refine lv_aload_n hx hb dX3_event_96 rfl (lv_at hl 2 rfl) ?_
                      refine pw_get (ci := 3) (C := RX3) (T := TX3) (N := 8) hx hb hts inX3 hown hK hP m0 e0 rfl 6 (by decide) (hts _ mw_39) (fun _ h9 => h9) rfl dX3_event_97 ?_
                      refine pc_callVv (As := [.int (sC_next e_ ((ms j).2.2.2.2.2.1)), .int t]) (rest := []) ⟨hx, hb, hml, hown, hts⟩ (k_M_enter l G cs L f _ (ad (32 + 2 * j)) (ad (33 + 2 * j)) (ms j).1 (ms j).2.1 (ms j).2.2.1 (ms j).2.2.2.1 (ms j).2.2.2.2.1 (ms j).2.2.2.2.2.1 (ms j).2.2.2.2.2.2.1 (ms j).2.2.2.2.2.2.2 (sC_next e_ ((ms j).2.2.2.2.2.1)) t (h0.mv hj).1) (cwV 2 hts (wg_V mw_225 mw_226 mw_227 mw_5 mw_228) rfl rfl rfl (by decide +kernel) ⟨Nat.le_of_ble_eq_true rfl, Nat.le_of_ble_eq_true rfl⟩) hK hP hD hS hA (h0.mv hj).1.1.1 (h0.mv hj).1.2.1 rfl px_T (fun _ _ _ => trivial) rfl hl.1 rfl (lv_room (Nat.le_of_ble_eq_true rfl)) dX3_event_100 ⟨Nat.le_of_ble_eq_true rfl, Nat.le_of_ble_eq_true rfl⟩ (fun L1 f1 H locs hr_7 hP hD hS => ?_)
                      obtain ⟨rfl, rfl⟩ := Prod.mk.inj hr_7
                      have hps := h0.mobj hj (sC_next e_ ((ms j).2.2.2.2.2.1)) t (ms j).2.2.2.2.2.2.2
                      refine lv_iload hx hb dX3_event_103 (lv_at hl 0 rfl) ?_
                      have hsp : sC_event (t, lm, nN, nM, ns, ms, rt) n e_ p_ = (sC_next e_ ((ms j).2.2.2.2.2.1), (t, lm, nN, nM, ns, va_up ms j (ms_ent (ms j) (sC_next e_ ((ms j).2.2.2.2.2.1)) t), rt)) := by simp only [sC_event, hxj, hxb, hxa, if_neg c_34, if_neg c_54, if_neg c_61, if_pos c_78, if_neg c_86, sC_ev2, sC_evR]
                      exact pc_reti hx hb hr hlocks hP hD hS dX3_event_105 ⟨ad, pg, rfl, by rw [hsp], by rw [hsp]; exact hps⟩
                    · refine lv_bipush (v := (-5)) hx hb dX3_event_89 (by decide) ?_
                      have hsp : sC_event (t, lm, nN, nM, ns, ms, rt) n e_ p_ = ((-5), (t, lm, nN, nM, ns, ms, rt)) := by simp only [sC_event, hxj, hxb, hxa, if_neg c_34, if_neg c_54, if_neg c_61, if_pos c_78, if_pos c_86, sC_ev2, sC_evR]
                      exact pc_reti hx hb hr hlocks hP hD hS dX3_event_91 ⟨ad, pg, rfl, by rw [hsp], by rw [hsp]; exact h0⟩
                · refine lv_aload_n hx hb dX3_event_64 rfl (lv_at hl 2 rfl) ?_
                  refine lv_aload hx hb dX3_event_65 (lv_at hl 1 rfl) ?_
                  refine pr_callVi (As := [.ref (ad (32 + 2 * j))]) (rest := []) ⟨hx, hb, hml, hown, hts⟩ (k_C_can l G cs L f ad t lm nN nM ns ms rt pg j h0 hj) (cwV 1 hts (wg_V mw_221 mw_223 ms_5 mw_1 mw_224) rfl rfl rfl (by decide +kernel) ⟨Nat.le_of_ble_eq_true rfl, Nat.le_of_ble_eq_true rfl⟩) hK hP m0 e0 rfl px_T (fun _ _ _ => trivial) rfl hl.1 rfl (lv_room (Nat.le_of_ble_eq_true rfl)) dX3_event_67 ⟨Nat.le_of_ble_eq_true rfl, Nat.le_of_ble_eq_true rfl⟩ (fun r_8 hr_8 => ?_)
                  subst hr_8
                  refine lv_if_ne (tgt := 76) hx hb dX3_event_70 (by decide) (fun c_70 => ?_) (fun c_70 => ?_)
                  · refine lv_iload_n hx hb dX3_event_76 rfl (lv_at hl 4 rfl) ?_
                    refine lv_iconst (v := 2) hx hb dX3_event_77 (by decide) ?_
                    refine lv_icmp_ne (tgt := 92) hx hb dX3_event_78 (by decide) (fun c_78 => ?_) (fun c_78 => ?_)
                    · refine lv_aload hx hb dX3_event_92 (lv_at hl 1 rfl) ?_
                      refine lv_iload hx hb dX3_event_94 (lv_at hl 0 rfl) ?_
                      refine lv_aload_n hx hb dX3_event_96 rfl (lv_at hl 2 rfl) ?_
                      refine pw_get (ci := 3) (C := RX3) (T := TX3) (N := 8) hx hb hts inX3 hown hK hP m0 e0 rfl 6 (by decide) (hts _ mw_39) (fun _ h9 => h9) rfl dX3_event_97 ?_
                      refine pc_callVv (As := [.int (sC_next e_ ((ms j).2.2.2.2.2.1)), .int t]) (rest := []) ⟨hx, hb, hml, hown, hts⟩ (k_M_enter l G cs L f _ (ad (32 + 2 * j)) (ad (33 + 2 * j)) (ms j).1 (ms j).2.1 (ms j).2.2.1 (ms j).2.2.2.1 (ms j).2.2.2.2.1 (ms j).2.2.2.2.2.1 (ms j).2.2.2.2.2.2.1 (ms j).2.2.2.2.2.2.2 (sC_next e_ ((ms j).2.2.2.2.2.1)) t (h0.mv hj).1) (cwV 2 hts (wg_V mw_225 mw_226 mw_227 mw_5 mw_228) rfl rfl rfl (by decide +kernel) ⟨Nat.le_of_ble_eq_true rfl, Nat.le_of_ble_eq_true rfl⟩) hK hP hD hS hA (h0.mv hj).1.1.1 (h0.mv hj).1.2.1 rfl px_T (fun _ _ _ => trivial) rfl hl.1 rfl (lv_room (Nat.le_of_ble_eq_true rfl)) dX3_event_100 ⟨Nat.le_of_ble_eq_true rfl, Nat.le_of_ble_eq_true rfl⟩ (fun L1 f1 H locs hr_9 hP hD hS => ?_)
                      obtain ⟨rfl, rfl⟩ := Prod.mk.inj hr_9
                      have hps := h0.mobj hj (sC_next e_ ((ms j).2.2.2.2.2.1)) t (ms j).2.2.2.2.2.2.2
                      refine lv_iload hx hb dX3_event_103 (lv_at hl 0 rfl) ?_
                      have hsp : sC_event (t, lm, nN, nM, ns, ms, rt) n e_ p_ = (sC_next e_ ((ms j).2.2.2.2.2.1), (t, lm, nN, nM, ns, va_up ms j (ms_ent (ms j) (sC_next e_ ((ms j).2.2.2.2.2.1)) t), rt)) := by simp only [sC_event, hxj, hxb, hxa, if_neg c_34, if_neg c_54, if_pos c_61, if_neg c_70, if_neg c_78, sC_ev2, sC_evR]
                      exact pc_reti hx hb hr hlocks hP hD hS dX3_event_105 ⟨ad, pg, rfl, by rw [hsp], by rw [hsp]; exact hps⟩
                    · refine lv_aload hx hb dX3_event_81 (lv_at hl 1 rfl) ?_
                      refine pw_get (ci := 0) (C := RX0) (T := TX0) (N := 8) hx hb hts inX0 hown hK hP (h0.mv hj).1.1.1 (h0.mv hj).1.2.1 rfl 7 (by decide) (hts _ mw_172) (fun _ h9 => h9) rfl dX3_event_83 ?_
                      refine lv_if_ne (tgt := 92) hx hb dX3_event_86 (by decide) (fun c_86 => ?_) (fun c_86 => ?_)
                      · refine lv_aload hx hb dX3_event_92 (lv_at hl 1 rfl) ?_
                        refine lv_iload hx hb dX3_event_94 (lv_at hl 0 rfl) ?_
                        refine lv_aload_n hx hb dX3_event_96 rfl (lv_at hl 2 rfl) ?_
                        refine pw_get (ci := 3) (C := RX3) (T := TX3) (N := 8) hx hb hts inX3 hown hK hP m0 e0 rfl 6 (by decide) (hts _ mw_39) (fun _ h9 => h9) rfl dX3_event_97 ?_
                        refine pc_callVv (As := [.int (sC_next e_ ((ms j).2.2.2.2.2.1)), .int t]) (rest := []) ⟨hx, hb, hml, hown, hts⟩ (k_M_enter l G cs L f _ (ad (32 + 2 * j)) (ad (33 + 2 * j)) (ms j).1 (ms j).2.1 (ms j).2.2.1 (ms j).2.2.2.1 (ms j).2.2.2.2.1 (ms j).2.2.2.2.2.1 (ms j).2.2.2.2.2.2.1 (ms j).2.2.2.2.2.2.2 (sC_next e_ ((ms j).2.2.2.2.2.1)) t (h0.mv hj).1) (cwV 2 hts (wg_V mw_225 mw_226 mw_227 mw_5 mw_228) rfl rfl rfl (by decide +kernel) ⟨Nat.le_of_ble_eq_true rfl, Nat.le_of_ble_eq_true rfl⟩) hK hP hD hS hA (h0.mv hj).1.1.1 (h0.mv hj).1.2.1 rfl px_T (fun _ _ _ => trivial) rfl hl.1 rfl (lv_room (Nat.le_of_ble_eq_true rfl)) dX3_event_100 ⟨Nat.le_of_ble_eq_true rfl, Nat.le_of_ble_eq_true rfl⟩ (fun L1 f1 H locs hr_10 hP hD hS => ?_)
                        obtain ⟨rfl, rfl⟩ := Prod.mk.inj hr_10
                        have hps := h0.mobj hj (sC_next e_ ((ms j).2.2.2.2.2.1)) t (ms j).2.2.2.2.2.2.2
                        refine lv_iload hx hb dX3_event_103 (lv_at hl 0 rfl) ?_
                        have hsp : sC_event (t, lm, nN, nM, ns, ms, rt) n e_ p_ = (sC_next e_ ((ms j).2.2.2.2.2.1), (t, lm, nN, nM, ns, va_up ms j (ms_ent (ms j) (sC_next e_ ((ms j).2.2.2.2.2.1)) t), rt)) := by simp only [sC_event, hxj, hxb, hxa, if_neg c_34, if_neg c_54, if_pos c_61, if_neg c_70, if_pos c_78, if_neg c_86, sC_ev2, sC_evR]
                        exact pc_reti hx hb hr hlocks hP hD hS dX3_event_105 ⟨ad, pg, rfl, by rw [hsp], by rw [hsp]; exact hps⟩
                      · refine lv_bipush (v := (-5)) hx hb dX3_event_89 (by decide) ?_
                        have hsp : sC_event (t, lm, nN, nM, ns, ms, rt) n e_ p_ = ((-5), (t, lm, nN, nM, ns, ms, rt)) := by simp only [sC_event, hxj, hxb, hxa, if_neg c_34, if_neg c_54, if_pos c_61, if_neg c_70, if_pos c_78, if_pos c_86, sC_ev2, sC_evR]
                        exact pc_reti hx hb hr hlocks hP hD hS dX3_event_91 ⟨ad, pg, rfl, by rw [hsp], by rw [hsp]; exact h0⟩
                  · refine lv_bipush (v := (-4)) hx hb dX3_event_73 (by decide) ?_
                    have hsp : sC_event (t, lm, nN, nM, ns, ms, rt) n e_ p_ = ((-4), (t, lm, nN, nM, ns, ms, rt)) := by simp only [sC_event, hxj, hxb, hxa, if_neg c_34, if_neg c_54, if_pos c_61, if_pos c_70, sC_ev2, sC_evR]
                    exact pc_reti hx hb hr hlocks hP hD hS dX3_event_75 ⟨ad, pg, rfl, by rw [hsp], by rw [hsp]; exact h0⟩
              · refine lv_bipush (v := (-3)) hx hb dX3_event_57 (by decide) ?_
                have hsp : sC_event (t, lm, nN, nM, ns, ms, rt) n e_ p_ = ((-3), (t, lm, nN, nM, ns, ms, rt)) := by simp only [sC_event, hxj, hxb, hxa, if_neg c_34, if_pos c_54, sC_ev2, sC_evR]
                exact pc_reti hx hb hr hlocks hP hD hS dX3_event_59 ⟨ad, pg, rfl, by rw [hsp], by rw [hsp]; exact h0⟩
            · refine lv_bipush (v := (-2)) hx hb dX3_event_37 (by decide) ?_
              have hsp : sC_event (t, lm, nN, nM, ns, ms, rt) n e_ p_ = ((-2), (t, lm, nN, nM, ns, ms, rt)) := by simp only [sC_event, hxj, hxb, hxa, if_pos c_34, sC_ev2, sC_evR]
              exact pc_reti hx hb hr hlocks hP hD hS dX3_event_39 ⟨ad, pg, rfl, by rw [hsp], by rw [hsp]; exact h0⟩
          · exact absurd c_23 (by decide)
