/-! The reference: methods that write. Laid by wip/gen/rwrites.py. -/
set_option maxHeartbeats 4000000 in
set_option maxRecDepth 100000 in
theorem k_R_leads (l : Launch) (G : va_G) (cs : Nat → ClassId) (L : List Nat) (f : Nat → va_E) (st_ : Int32) (b1 : Nat) (hb1 : b1 < 5) : Met l yX4_leads (Cond.code yX4_leads cX4_leads 2 (some FieldType.boolean) :: wg) ({ frames := 0, cells := 0, slots := 0, locals := 0 }) (pr_P [.int st_, .int (nI b1)] G vwCl (tyl cs) L f (fun _ => True)) (vp_Si (fun r => r = sR_leads st_ (nI b1))) 0 0 (fun _ => False) := by
  refine Met.ofW (cc := cX4_leads) (maxL := 2) (ret := (some FieldType.boolean)) (by decide) rfl ?_
  intro p e s m args below meth c s₁ B hml hv
  obtain ⟨rfl, hP, hK, hX⟩ := hv
  have hx := B.exec
  have hb := B.bytes
  have hr := B.returns
  have hts0 := atoms_spec (ws := (Cond.code yX4_leads cX4_leads 2 (some FieldType.boolean) :: wg)) B.pre
  have hts := fun (w : Cond) (h : w ∈ wg) => hts0 w (List.mem_cons_of_mem _ h)
  have hown : s.vm.findClass RX4 = some m.cls := findClass_of_methodNamed B.named
  have hlocks := B.notSynchronized
  have hl := lv_entry ([.int st_, .int (nI b1)]) (n := 2) (Nat.le_of_ble_eq_true rfl)
  rw [lg_entry_eq]
  generalize (lg_sl ([.int st_, .int (nI b1)]) ++ List.replicate (2 - (lg_sl ([.int st_, .int (nI b1)])).length) Slot.unset).toArray = ls at hl ⊢
  have hl : lv_has ls 2 [(0, .int st_), (1, .int (nI b1))] := hl
  refine lv_iload_n hx hb dX4_leads_0 rfl (lv_at hl 1 rfl) ?_
  obtain rfl | rfl | rfl | rfl | rfl : b1 = 0 ∨ b1 = 1 ∨ b1 = 2 ∨ b1 = 3 ∨ b1 = 4 := by omega
  · refine lv_tableIn (x := nI 0) (off := 35) (tgt := 36) hx hb dX4_leads_1 (by decide) (by decide) rfl (by decide) ?_
    refine lv_iload_n hx hb dX4_leads_36 rfl (lv_at hl 0 rfl) ?_
    refine lv_if_ne (tgt := 44) hx hb dX4_leads_37 (by decide) (fun c_37 => ?_) (fun c_37 => ?_)
    · refine lv_iconst (v := 0) hx hb dX4_leads_44 (by decide) ?_
      exact pr_retz hx hb hr rfl hlocks dX4_leads_45 (by simp [sR_leads, show nI 0 = 0 from rfl, c_37])
    · refine lv_iconst (v := 1) hx hb dX4_leads_40 (by decide) ?_
      refine lv_goto (tgt := 45) hx hb dX4_leads_41 (by decide) ?_
      exact pr_retz hx hb hr rfl hlocks dX4_leads_45 (by simp [sR_leads, show nI 0 = 0 from rfl, c_37])
  · refine lv_tableIn (x := nI 1) (off := 45) (tgt := 46) hx hb dX4_leads_1 (by decide) (by decide) rfl (by decide) ?_
    refine lv_iload_n hx hb dX4_leads_46 rfl (lv_at hl 0 rfl) ?_
    refine lv_iconst (v := 1) hx hb dX4_leads_47 (by decide) ?_
    refine lv_icmp_ne (tgt := 55) hx hb dX4_leads_48 (by decide) (fun c_48 => ?_) (fun c_48 => ?_)
    · refine lv_iconst (v := 0) hx hb dX4_leads_55 (by decide) ?_
      exact pr_retz hx hb hr rfl hlocks dX4_leads_56 (by simp [sR_leads, show nI 1 = 1 from rfl, c_48])
    · refine lv_iconst (v := 1) hx hb dX4_leads_51 (by decide) ?_
      refine lv_goto (tgt := 56) hx hb dX4_leads_52 (by decide) ?_
      exact pr_retz hx hb hr rfl hlocks dX4_leads_56 (by simp [sR_leads, show nI 1 = 1 from rfl, c_48])
  · refine lv_tableIn (x := nI 2) (off := 56) (tgt := 57) hx hb dX4_leads_1 (by decide) (by decide) rfl (by decide) ?_
    refine lv_iload_n hx hb dX4_leads_57 rfl (lv_at hl 0 rfl) ?_
    refine lv_iconst (v := 2) hx hb dX4_leads_58 (by decide) ?_
    refine lv_icmp_ne (tgt := 66) hx hb dX4_leads_59 (by decide) (fun c_59 => ?_) (fun c_59 => ?_)
    · refine lv_iconst (v := 0) hx hb dX4_leads_66 (by decide) ?_
      exact pr_retz hx hb hr rfl hlocks dX4_leads_67 (by simp [sR_leads, show nI 2 = 2 from rfl, c_59])
    · refine lv_iconst (v := 1) hx hb dX4_leads_62 (by decide) ?_
      refine lv_goto (tgt := 67) hx hb dX4_leads_63 (by decide) ?_
      exact pr_retz hx hb hr rfl hlocks dX4_leads_67 (by simp [sR_leads, show nI 2 = 2 from rfl, c_59])
  · refine lv_tableIn (x := nI 3) (off := 67) (tgt := 68) hx hb dX4_leads_1 (by decide) (by decide) rfl (by decide) ?_
    refine lv_iload_n hx hb dX4_leads_68 rfl (lv_at hl 0 rfl) ?_
    refine lv_iconst (v := 1) hx hb dX4_leads_69 (by decide) ?_
    refine lv_icmp_eq (tgt := 78) hx hb dX4_leads_70 (by decide) (fun c_70 => ?_) (fun c_70 => ?_)
    · refine lv_iconst (v := 1) hx hb dX4_leads_78 (by decide) ?_
      refine lv_goto (tgt := 83) hx hb dX4_leads_79 (by decide) ?_
      exact pr_retz hx hb hr rfl hlocks dX4_leads_83 (by simp [sR_leads, show nI 3 = 3 from rfl, c_70])
    · refine lv_iload_n hx hb dX4_leads_73 rfl (lv_at hl 0 rfl) ?_
      refine lv_iconst (v := 2) hx hb dX4_leads_74 (by decide) ?_
      refine lv_icmp_ne (tgt := 82) hx hb dX4_leads_75 (by decide) (fun c_75 => ?_) (fun c_75 => ?_)
      · refine lv_iconst (v := 0) hx hb dX4_leads_82 (by decide) ?_
        exact pr_retz hx hb hr rfl hlocks dX4_leads_83 (by simp [sR_leads, show nI 3 = 3 from rfl, c_70, c_75])
      · refine lv_iconst (v := 1) hx hb dX4_leads_78 (by decide) ?_
        refine lv_goto (tgt := 83) hx hb dX4_leads_79 (by decide) ?_
        exact pr_retz hx hb hr rfl hlocks dX4_leads_83 (by simp [sR_leads, show nI 3 = 3 from rfl, c_70, c_75])
  · refine lv_tableIn (x := nI 4) (off := 35) (tgt := 36) hx hb dX4_leads_1 (by decide) (by decide) rfl (by decide) ?_
    refine lv_iload_n hx hb dX4_leads_36 rfl (lv_at hl 0 rfl) ?_
    refine lv_if_ne (tgt := 44) hx hb dX4_leads_37 (by decide) (fun c_37 => ?_) (fun c_37 => ?_)
    · refine lv_iconst (v := 0) hx hb dX4_leads_44 (by decide) ?_
      exact pr_retz hx hb hr rfl hlocks dX4_leads_45 (by simp [sR_leads, show nI 4 = 4 from rfl, c_37])
    · refine lv_iconst (v := 1) hx hb dX4_leads_40 (by decide) ?_
      refine lv_goto (tgt := 45) hx hb dX4_leads_41 (by decide) ?_
      exact pr_retz hx hb hr rfl hlocks dX4_leads_45 (by simp [sR_leads, show nI 4 = 4 from rfl, c_37])

set_option maxHeartbeats 4000000 in
set_option maxRecDepth 100000 in
theorem k_R_limit (l : Launch) (G : va_G) (cs : Nat → ClassId) (L : List Nat) (f : Nat → va_E) (sz : Nat) (ad : Nat → Nat) (t lm : Int32) (nN nM : Nat) (rs lk : Int32) (A : RA) (Bq : RB) (d_ : Int32) (h0 : RS cs L f ad t lm nN nM rs lk A Bq) : Met l yX4_limit (Cond.code yX4_limit cX4_limit 2 (some FieldType.boolean) :: wg) ({ frames := 1, cells := 0, slots := 0, locals := 25 }) (pc_P [.ref (ad 0), .int d_] G vwCl (tyl cs) L f sz (fun _ => True)) (va_Qi (fun r u => L = u.1 ∧ r = (sR_limit (t, lm, nN, nM, A, Bq) d_).1 ∧ ∃ rs' lk', RSx cs u.1 u.2 ad (sR_limit (t, lm, nN, nM, A, Bq) d_).2 rs' lk') (pc_B G vwCl L sz) (pw_A L sz)) 0 0 (pw_A L sz) := by
  refine Met.ofW (cc := cX4_limit) (maxL := 2) (ret := (some FieldType.boolean)) (by decide) rfl ?_
  intro p e s m args below meth c s₁ B hml hv
  obtain ⟨rfl, hsz, hP, hK, hD0, hX⟩ := hv
  have hx := B.exec
  have hb := B.bytes
  have hr := B.returns
  have hts0 := atoms_spec (ws := (Cond.code yX4_limit cX4_limit 2 (some FieldType.boolean) :: wg)) B.pre
  have hts := fun (w : Cond) (h : w ∈ wg) => hts0 w (List.mem_cons_of_mem _ h)
  have hown : s.vm.findClass RX4 = some m.cls := findClass_of_methodNamed B.named
  have hlocks := B.notSynchronized
  subst hsz
  have hD := pw_selfD (sz := s.heap.size) hD0
  have hA : ∀ q : Nat, s.heap.size ≤ q → pw_A L s.heap.size q := fun q h => Or.inr h
  have hS : va_S (pw_A L s.heap.size) s.heap s.heap [] := va_S.rf
  have hl := lv_entry ([.ref (ad 0), .int d_]) (n := 2) (Nat.le_of_ble_eq_true rfl)
  rw [lg_entry_eq]
  generalize (lg_sl ([.ref (ad 0), .int d_]) ++ List.replicate (2 - (lg_sl ([.ref (ad 0), .int d_])).length) Slot.unset).toArray = ls at hl ⊢
  have hl : lv_has ls 2 [(0, .ref (ad 0)), (1, .int d_)] := hl
  have hN6 := h0.nN6
  have hM12 := h0.nM12
  have m0 := h0.mem 0 (by decide)
  have e0 := h0.e0
  refine lv_iload_n hx hb dX4_limit_0 rfl (lv_at hl 1 rfl) ?_
  refine lv_i2l hx hb dX4_limit_1 rfl ?_
  refine lv_lconst (v := 0) hx hb dX4_limit_2 (by decide) ?_
  refine lv_ldc2 hx hb hown (hts _ mw_426) dX4_limit_3 ?_
  refine pr_callSi (As := [.long d_.toInt64, .long 0, .long 1000]) (rest := []) ⟨hx, hb, hml, hown, hts⟩ (k_R_isIn l G cs L f d_.toInt64 0 1000) (cwS 3 hts (wg_S mw_403 mw_404 mw_3 mw_405) rfl rfl rfl (by decide +kernel) ⟨Nat.le_of_ble_eq_true rfl, Nat.le_of_ble_eq_true rfl⟩) hK hP px_T (fun _ _ _ => trivial) rfl hl.1 rfl (lv_room (Nat.le_of_ble_eq_true rfl)) dX4_limit_6 ⟨Nat.le_of_ble_eq_true rfl, Nat.le_of_ble_eq_true rfl⟩ (fun r_1 hr_1 => ?_)
  subst hr_1
  refine lv_if_ne (tgt := 14) hx hb dX4_limit_9 (by decide) (fun c_9 => ?_) (fun c_9 => ?_)
  · refine lv_aload_n hx hb dX4_limit_14 rfl (lv_at hl 0 rfl) ?_
    refine lv_iload_n hx hb dX4_limit_15 rfl (lv_at hl 1 rfl) ?_
    refine pw_put (ty := .int) (ci := 4) (v := .int d_) (C := RX4) (T := TX4) (N := 23) hx hb hts inX4 tyX4 tyX4_ok nmX4 hown hK hP hD hS m0 e0 rfl 20 (by decide) (hts _ mw_347) (fun _ h9 => h9) rfl (by decide +kernel) rfl rfl (Nat.le_of_ble_eq_true rfl) dX4_limit_16 (fun H locs hP hD hS => ?_)
    obtain ⟨f_2, ef_2⟩ : ∃ zz : Nat → va_E, zz = va_up f (ad 0) (.inr (4, [.int t, .int (nI nN), .ref (ad 1), .ref (ad 2), .ref (ad 3), .ref (ad 4), .ref (ad 5), .ref (ad 6), .ref (ad 7), .ref (ad 8), .int (nI nM), .ref (ad 9), .ref (ad 10), .ref (ad 11), .ref (ad 12), .ref (ad 13), .ref (ad 14), .ref (ad 15), .ref (ad 16), .ref (ad 17), .int d_, .int rs, .int lk])) := ⟨_, rfl⟩
    have hP : va_P G vwCl (va_pl L f_2) H := by rw [ef_2]; exact hP
    have hD : va_D (pw_A L s.heap.size) (va_pl L f_2) := by rw [ef_2]; exact hD
    have hf_2_ad_0 : f_2 (ad 0) = .inr (4, [.int t, .int (nI nN), .ref (ad 1), .ref (ad 2), .ref (ad 3), .ref (ad 4), .ref (ad 5), .ref (ad 6), .ref (ad 7), .ref (ad 8), .int (nI nM), .ref (ad 9), .ref (ad 10), .ref (ad 11), .ref (ad 12), .ref (ad 13), .ref (ad 14), .ref (ad 15), .ref (ad 16), .ref (ad 17), .int d_, .int rs, .int lk]) := by rw [ef_2]; exact va_up_self _ _ _
    have qf_2 : RS cs L f_2 ad t d_ nN nM rs lk A Bq := by rw [ef_2]; exact h0.main t d_ nN nM rs lk (by omega) (by omega)
    refine lv_iconst (v := 1) hx hb dX4_limit_19 (by decide) ?_
    have hsp : sR_limit (t, lm, nN, nM, A, Bq) d_ = (1, (t, d_, nN, nM, A, Bq)) := by simp [sR_limit, c_9]
    exact pc_retz hx hb hr rfl hlocks hP hD hS dX4_limit_20 ⟨rfl, by rw [hsp], rs, lk, by rw [hsp]; exact qf_2⟩
  · refine lv_iconst (v := 0) hx hb dX4_limit_12 (by decide) ?_
    have hsp : sR_limit (t, lm, nN, nM, A, Bq) d_ = (0, (t, lm, nN, nM, A, Bq)) := by simp [sR_limit, c_9]
    exact pc_retz hx hb hr rfl hlocks hP hD hS dX4_limit_13 ⟨rfl, by rw [hsp], rs, lk, by rw [hsp]; exact h0⟩

set_option maxHeartbeats 4000000 in
set_option maxRecDepth 100000 in
theorem k_R_right (l : Launch) (G : va_G) (cs : Nat → ClassId) (L : List Nat) (f : Nat → va_E) (sz : Nat) (ad : Nat → Nat) (t lm : Int32) (nN nM : Nat) (rs lk : Int32) (A : RA) (Bq : RB) (p_ e_ o_ : Int32) (h0 : RS cs L f ad t lm nN nM rs lk A Bq) : Met l yX4_right (Cond.code yX4_right cX4_right 4 (some FieldType.boolean) :: wg) ({ frames := 1, cells := 0, slots := 0, locals := 20 }) (pc_P [.ref (ad 0), .int p_, .int e_, .int o_] G vwCl (tyl cs) L f sz (fun _ => True)) (va_Qi (fun r u => L = u.1 ∧ r = (sR_right (t, lm, nN, nM, A, Bq) p_ e_ o_).1 ∧ ∃ rs' lk', RSx cs u.1 u.2 ad (sR_right (t, lm, nN, nM, A, Bq) p_ e_ o_).2 rs' lk') (pc_B G vwCl L sz) (pw_A L sz)) 0 0 (pw_A L sz) := by
  refine Met.ofW (cc := cX4_right) (maxL := 4) (ret := (some FieldType.boolean)) (by decide) rfl ?_
  intro p e s m args below meth c s₁ B hml hv
  obtain ⟨rfl, hsz, hP, hK, hD0, hX⟩ := hv
  have hx := B.exec
  have hb := B.bytes
  have hr := B.returns
  have hts0 := atoms_spec (ws := (Cond.code yX4_right cX4_right 4 (some FieldType.boolean) :: wg)) B.pre
  have hts := fun (w : Cond) (h : w ∈ wg) => hts0 w (List.mem_cons_of_mem _ h)
  have hown : s.vm.findClass RX4 = some m.cls := findClass_of_methodNamed B.named
  have hlocks := B.notSynchronized
  subst hsz
  have hD := pw_selfD (sz := s.heap.size) hD0
  have hA : ∀ q : Nat, s.heap.size ≤ q → pw_A L s.heap.size q := fun q h => Or.inr h
  have hS : va_S (pw_A L s.heap.size) s.heap s.heap [] := va_S.rf
  have hl := lv_entry ([.ref (ad 0), .int p_, .int e_, .int o_]) (n := 4) (Nat.le_of_ble_eq_true rfl)
  rw [lg_entry_eq]
  generalize (lg_sl ([.ref (ad 0), .int p_, .int e_, .int o_]) ++ List.replicate (4 - (lg_sl ([.ref (ad 0), .int p_, .int e_, .int o_])).length) Slot.unset).toArray = ls at hl ⊢
  have hl : lv_has ls 4 [(0, .ref (ad 0)), (1, .int p_), (2, .int e_), (3, .int o_)] := hl
  have hN6 := h0.nN6
  have hM12 := h0.nM12
  have m0 := h0.mem 0 (by decide)
  have e0 := h0.e0
  have m17 := h0.mem 17 (by decide)
  have e17 : f (ad 17) = .inl (cs 2, 40, .inl (A 17)) := h0.ea 17 (by decide) (by decide)
  refine lv_iload_n hx hb dX4_right_0 rfl (lv_at hl 1 rfl) ?_
  refine pr_callSi (As := [.int p_]) (rest := []) ⟨hx, hb, hml, hown, hts⟩ (k_R_isP l G cs L f p_) (cwS 1 hts (wg_S mw_457 mw_458 mw_3 mw_459) rfl rfl rfl (by decide +kernel) ⟨Nat.le_of_ble_eq_true rfl, Nat.le_of_ble_eq_true rfl⟩) hK hP px_T (fun _ _ _ => trivial) rfl hl.1 rfl (lv_room (Nat.le_of_ble_eq_true rfl)) dX4_right_1 ⟨Nat.le_of_ble_eq_true rfl, Nat.le_of_ble_eq_true rfl⟩ (fun r_1 hr_1 => ?_)
  rcases sp_in_cases (m := 8) (by decide) p_ with ⟨hxa, hsa⟩ | ⟨a, ha, ena, hxa, hsa⟩
  · obtain rfl : r_1 = 0 := by rw [hr_1, hsa]
    refine lv_if_eq (tgt := 14) hx hb dX4_right_4 (by decide) (fun c_4 => ?_) (fun c_4 => ?_)
    · refine lv_iconst (v := 0) hx hb dX4_right_14 (by decide) ?_
      have hsp : sR_right (t, lm, nN, nM, A, Bq) p_ e_ o_ = (0, (t, lm, nN, nM, A, Bq)) := by simp [sR_right, hxa]
      exact pc_retz hx hb hr rfl hlocks hP hD hS dX4_right_15 ⟨rfl, by rw [hsp], rs, lk, by rw [hsp]; exact h0⟩
    · exact absurd c_4 (by decide)
  · obtain rfl : r_1 = 1 := by rw [hr_1, hsa]
    subst ena
    refine lv_if_eq (tgt := 14) hx hb dX4_right_4 (by decide) (fun c_4 => ?_) (fun c_4 => ?_)
    · exact absurd c_4 (by decide)
    · refine lv_iload_n hx hb dX4_right_7 rfl (lv_at hl 2 rfl) ?_
      refine pr_callSi (As := [.int e_]) (rest := []) ⟨hx, hb, hml, hown, hts⟩ (k_R_isE l G cs L f e_) (cwS 1 hts (wg_S mw_460 mw_461 mw_3 mw_462) rfl rfl rfl (by decide +kernel) ⟨Nat.le_of_ble_eq_true rfl, Nat.le_of_ble_eq_true rfl⟩) hK hP px_T (fun _ _ _ => trivial) rfl hl.1 rfl (lv_room (Nat.le_of_ble_eq_true rfl)) dX4_right_8 ⟨Nat.le_of_ble_eq_true rfl, Nat.le_of_ble_eq_true rfl⟩ (fun r_2 hr_2 => ?_)
      rcases sp_in_cases (m := 5) (by decide) e_ with ⟨hxv, hsv⟩ | ⟨v, hv, env, hxv, hsv⟩
      · obtain rfl : r_2 = 0 := by rw [hr_2, hsv]
        refine lv_if_ne (tgt := 16) hx hb dX4_right_11 (by decide) (fun c_11 => ?_) (fun c_11 => ?_)
        · exact absurd c_11 (by decide)
        · refine lv_iconst (v := 0) hx hb dX4_right_14 (by decide) ?_
          have hsp : sR_right (t, lm, nN, nM, A, Bq) (nI a) e_ o_ = (0, (t, lm, nN, nM, A, Bq)) := by simp [sR_right, hxa, hxv]
          exact pc_retz hx hb hr rfl hlocks hP hD hS dX4_right_15 ⟨rfl, by rw [hsp], rs, lk, by rw [hsp]; exact h0⟩
      · obtain rfl : r_2 = 1 := by rw [hr_2, hsv]
        subst env
        refine lv_if_ne (tgt := 16) hx hb dX4_right_11 (by decide) (fun c_11 => ?_) (fun c_11 => ?_)
        · refine lv_aload_n hx hb dX4_right_16 rfl (lv_at hl 0 rfl) ?_
          refine pw_get (ci := 4) (C := RX4) (T := TX4) (N := 23) hx hb hts inX4 hown hK hP m0 e0 rfl 19 (by decide) (hts _ mw_346) (fun _ h9 => h9) rfl dX4_right_17 ?_
          refine lv_iconst (v := 5) hx hb dX4_right_20 (by decide) ?_
          refine lv_iload_n hx hb dX4_right_21 rfl (lv_at hl 1 rfl) ?_
          refine lv_imul hx hb dX4_right_22 ?_
          refine lv_iload_n hx hb dX4_right_23 rfl (lv_at hl 2 rfl) ?_
          refine lv_iadd hx hb dX4_right_24 ?_
          refine lv_iload_n hx hb dX4_right_25 rfl (lv_at hl 3 rfl) ?_
          have eix26 : (5 * (nI a)) + (nI v) = nI (a * 5 + v) := ld5 a v
          rw [eix26]
          refine pw_zastN (k := a * 5 + v) hx hb hK hP hD hS m17 2 e17 rfl (by omega) (by decide) dX4_right_26 (fun H locs hP hD hS => ?_)
          obtain ⟨f_3, ef_3⟩ : ∃ zz : Nat → va_E, zz = va_up f (ad 17) (.inl (cs 2, 40, .inl (upd (A 17) (a * 5 + v) (vp_nar .boolean o_)))) := ⟨_, rfl⟩
          have hP : va_P G vwCl (va_pl L f_3) H := by rw [ef_3]; exact hP
          have hD : va_D (pw_A L s.heap.size) (va_pl L f_3) := by rw [ef_3]; exact hD
          have hf_3_ad_0 := (show f_3 (ad 0) = f (ad 0) by rw [ef_3]; exact va_up_ne _ _ (h0.ne 0 17 (by decide) (by decide) (by decide))).trans e0
          have hf_3_ad_17 : f_3 (ad 17) = .inl (cs 2, 40, .inl (upd (A 17) (a * 5 + v) (vp_nar .boolean o_))) := by rw [ef_3]; exact va_up_self _ _ _
          have qf_3 : RS cs L f_3 ad t lm nN nM rs lk (rA A 17 (a * 5 + v) (vp_nar .boolean o_)) Bq := by rw [ef_3]; exact h0.setA 17 (a * 5 + v) (vp_nar .boolean o_) (by decide) (by decide)
          refine lv_iconst (v := 1) hx hb dX4_right_27 (by decide) ?_
          have hsp : sR_right (t, lm, nN, nM, A, Bq) (nI a) (nI v) o_ = (1, (t, lm, nN, nM, rA A 17 (a * 5 + v) (vp_nar .boolean o_), Bq)) := by simp [sR_right, hxa, hxv]
          exact pc_retz hx hb hr rfl hlocks hP hD hS dX4_right_28 ⟨rfl, by rw [hsp], rs, lk, by rw [hsp]; exact qf_3⟩
        · exact absurd c_11 (by decide)

set_option maxHeartbeats 4000000 in
set_option maxRecDepth 100000 in
theorem k_R_bank (l : Launch) (G : va_G) (cs : Nat → ClassId) (L : List Nat) (f : Nat → va_E) (sz : Nat) (ad : Nat → Nat) (t lm : Int32) (nN nM : Nat) (rs lk : Int32) (A : RA) (Bq : RB) (n_ : Int32) (c_ : Int64) (h0 : RS cs L f ad t lm nN nM rs lk A Bq) : Met l yX4_bank (Cond.code yX4_bank cX4_bank 4 (some FieldType.boolean) :: wg) ({ frames := 1, cells := 0, slots := 0, locals := 25 }) (pc_P [.ref (ad 0), .int n_, .long c_] G vwCl (tyl cs) L f sz (fun _ => True)) (va_Qi (fun r u => L = u.1 ∧ r = (sR_bank (t, lm, nN, nM, A, Bq) n_ c_).1 ∧ ∃ rs' lk', RSx cs u.1 u.2 ad (sR_bank (t, lm, nN, nM, A, Bq) n_ c_).2 rs' lk') (pc_B G vwCl L sz) (pw_A L sz)) 0 0 (pw_A L sz) := by
  refine Met.ofW (cc := cX4_bank) (maxL := 4) (ret := (some FieldType.boolean)) (by decide) rfl ?_
  intro p e s m args below meth c s₁ B hml hv
  obtain ⟨rfl, hsz, hP, hK, hD0, hX⟩ := hv
  have hx := B.exec
  have hb := B.bytes
  have hr := B.returns
  have hts0 := atoms_spec (ws := (Cond.code yX4_bank cX4_bank 4 (some FieldType.boolean) :: wg)) B.pre
  have hts := fun (w : Cond) (h : w ∈ wg) => hts0 w (List.mem_cons_of_mem _ h)
  have hown : s.vm.findClass RX4 = some m.cls := findClass_of_methodNamed B.named
  have hlocks := B.notSynchronized
  subst hsz
  have hD := pw_selfD (sz := s.heap.size) hD0
  have hA : ∀ q : Nat, s.heap.size ≤ q → pw_A L s.heap.size q := fun q h => Or.inr h
  have hS : va_S (pw_A L s.heap.size) s.heap s.heap [] := va_S.rf
  have hl := lv_entry ([.ref (ad 0), .int n_, .long c_]) (n := 4) (Nat.le_of_ble_eq_true rfl)
  rw [lg_entry_eq]
  generalize (lg_sl ([.ref (ad 0), .int n_, .long c_]) ++ List.replicate (4 - (lg_sl ([.ref (ad 0), .int n_, .long c_])).length) Slot.unset).toArray = ls at hl ⊢
  have hl : lv_has ls 4 [(0, .ref (ad 0)), (1, .int n_), (2, .long c_)] := hl
  have hN6 := h0.nN6
  have hM12 := h0.nM12
  have m0 := h0.mem 0 (by decide)
  have e0 := h0.e0
  have m4 := h0.mem 4 (by decide)
  have e4 : f (ad 4) = .inl (cs 3, 6, .inr (.inl (Bq 4))) := h0.ea 4 (by decide) (by decide)
  refine lv_aload_n hx hb dX4_bank_0 rfl (lv_at hl 0 rfl) ?_
  refine lv_iload_n hx hb dX4_bank_1 rfl (lv_at hl 1 rfl) ?_
  refine pr_callVi (As := [.int n_]) (rest := []) ⟨hx, hb, hml, hown, hts⟩ (k_R_isN l G cs L f ad t lm nN nM rs lk A Bq n_ h0) (cwV 1 hts (wg_V mw_419 mw_421 ms_11 mw_3 mw_422) rfl rfl rfl (by decide +kernel) ⟨Nat.le_of_ble_eq_true rfl, Nat.le_of_ble_eq_true rfl⟩) hK hP m0 e0 rfl px_T (fun _ _ _ => trivial) rfl hl.1 rfl (lv_room (Nat.le_of_ble_eq_true rfl)) dX4_bank_2 ⟨Nat.le_of_ble_eq_true rfl, Nat.le_of_ble_eq_true rfl⟩ (fun r_1 hr_1 => ?_)
  rcases sp_in_cases (m := nN) (by omega) n_ with ⟨hxi, hsi⟩ | ⟨i, hi, eni, hxi, hsi⟩
  · obtain rfl : r_1 = 0 := by rw [hr_1, hsi]
    refine lv_if_eq (tgt := 34) hx hb dX4_bank_5 (by decide) (fun c_5 => ?_) (fun c_5 => ?_)
    · refine lv_iconst (v := 0) hx hb dX4_bank_34 (by decide) ?_
      have hsp : sR_bank (t, lm, nN, nM, A, Bq) n_ c_ = (0, (t, lm, nN, nM, A, Bq)) := by simp [sR_bank, hxi]
      exact pc_retz hx hb hr rfl hlocks hP hD hS dX4_bank_35 ⟨rfl, by rw [hsp], rs, lk, by rw [hsp]; exact h0⟩
    · exact absurd c_5 (by decide)
  · obtain rfl : r_1 = 1 := by rw [hr_1, hsi]
    subst eni
    refine lv_if_eq (tgt := 34) hx hb dX4_bank_5 (by decide) (fun c_5 => ?_) (fun c_5 => ?_)
    · exact absurd c_5 (by decide)
    · refine lv_lload_n hx hb dX4_bank_8 rfl (lv_at hl 2 rfl) ?_
      refine lv_lconst (v := 1) hx hb dX4_bank_9 (by decide) ?_
      refine lv_ldc2 hx hb hown (hts _ mw_414) dX4_bank_10 ?_
      refine pr_callSi (As := [.long c_, .long 1, .long 1000000000]) (rest := []) ⟨hx, hb, hml, hown, hts⟩ (k_R_isIn l G cs L f c_ 1 1000000000) (cwS 3 hts (wg_S mw_403 mw_404 mw_3 mw_405) rfl rfl rfl (by decide +kernel) ⟨Nat.le_of_ble_eq_true rfl, Nat.le_of_ble_eq_true rfl⟩) hK hP px_T (fun _ _ _ => trivial) rfl hl.1 rfl (lv_room (Nat.le_of_ble_eq_true rfl)) dX4_bank_13 ⟨Nat.le_of_ble_eq_true rfl, Nat.le_of_ble_eq_true rfl⟩ (fun r_2 hr_2 => ?_)
      subst hr_2
      refine lv_if_eq (tgt := 34) hx hb dX4_bank_16 (by decide) (fun c_16 => ?_) (fun c_16 => ?_)
      · refine lv_iconst (v := 0) hx hb dX4_bank_34 (by decide) ?_
        have hsp : sR_bank (t, lm, nN, nM, A, Bq) (nI i) c_ = (0, (t, lm, nN, nM, A, Bq)) := by simp [sR_bank, hxi, c_16]
        exact pc_retz hx hb hr rfl hlocks hP hD hS dX4_bank_35 ⟨rfl, by rw [hsp], rs, lk, by rw [hsp]; exact h0⟩
      · refine lv_aload_n hx hb dX4_bank_19 rfl (lv_at hl 0 rfl) ?_
        refine pw_get (ci := 4) (C := RX4) (T := TX4) (N := 23) hx hb hts inX4 hown hK hP m0 e0 rfl 5 (by decide) (hts _ mw_332) (fun _ h9 => h9) rfl dX4_bank_20 ?_
        refine lv_iload_n hx hb dX4_bank_23 rfl (lv_at hl 1 rfl) ?_
        refine pw_laldN (k := i) hx hb hK hP m4 3 e4 rfl (by omega) (by decide) dX4_bank_24 ?_
        refine lv_lload_n hx hb dX4_bank_25 rfl (lv_at hl 2 rfl) ?_
        refine lv_ladd hx hb dX4_bank_26 ?_
        refine lv_ldc2 hx hb hown (hts _ mw_484) dX4_bank_27 ?_
        refine W.lcmp hx hb dX4_bank_30 ?_
        refine lv_if_le (tgt := 36) hx hb dX4_bank_31 (by decide) (fun c_31 => ?_) (fun c_31 => ?_)
        · have c_31 := (lg_cmp_le _ _).mp c_31
          refine lv_aload_n hx hb dX4_bank_36 rfl (lv_at hl 0 rfl) ?_
          refine pw_get (ci := 4) (C := RX4) (T := TX4) (N := 23) hx hb hts inX4 hown hK hP m0 e0 rfl 5 (by decide) (hts _ mw_332) (fun _ h9 => h9) rfl dX4_bank_37 ?_
          refine lv_iload_n hx hb dX4_bank_40 rfl (lv_at hl 1 rfl) ?_
          refine lv_dup2_11 hx hb dX4_bank_41 rfl rfl ?_
          refine pw_laldN (k := i) hx hb hK hP m4 3 e4 rfl (by omega) (by decide) dX4_bank_42 ?_
          refine lv_lload_n hx hb dX4_bank_43 rfl (lv_at hl 2 rfl) ?_
          refine lv_ladd hx hb dX4_bank_44 ?_
          refine pw_lastN (k := i) hx hb hK hP hD hS m4 3 e4 rfl (by omega) (by decide) dX4_bank_45 (fun H locs hP hD hS => ?_)
          obtain ⟨f_3, ef_3⟩ : ∃ zz : Nat → va_E, zz = va_up f (ad 4) (.inl (cs 3, 6, .inr (.inl (vp_updL (Bq 4) i (((Bq 4) i) + c_))))) := ⟨_, rfl⟩
          have hP : va_P G vwCl (va_pl L f_3) H := by rw [ef_3]; exact hP
          have hD : va_D (pw_A L s.heap.size) (va_pl L f_3) := by rw [ef_3]; exact hD
          have hf_3_ad_0 := (show f_3 (ad 0) = f (ad 0) by rw [ef_3]; exact va_up_ne _ _ (h0.ne 0 4 (by decide) (by decide) (by decide))).trans e0
          have hf_3_ad_4 : f_3 (ad 4) = .inl (cs 3, 6, .inr (.inl (vp_updL (Bq 4) i (((Bq 4) i) + c_)))) := by rw [ef_3]; exact va_up_self _ _ _
          have qf_3 : RS cs L f_3 ad t lm nN nM rs lk A (rB Bq 4 i (((Bq 4) i) + c_)) := by rw [ef_3]; exact h0.setB 4 i (((Bq 4) i) + c_) (by decide) (by decide)
          refine lv_iconst (v := 1) hx hb dX4_bank_46 (by decide) ?_
          have hsp : sR_bank (t, lm, nN, nM, A, Bq) (nI i) c_ = (1, (t, lm, nN, nM, A, rB Bq 4 i (((Bq 4) i) + c_))) := by simp [sR_bank, hxi, c_16, c_31]
          exact pc_retz hx hb hr rfl hlocks hP hD hS dX4_bank_47 ⟨rfl, by rw [hsp], rs, lk, by rw [hsp]; exact qf_3⟩
        · have c_31 : ¬ (((Bq 4) i) + c_) ≤ 10000000000 := fun h => c_31 ((lg_cmp_le _ _).mpr h)
          refine lv_iconst (v := 0) hx hb dX4_bank_34 (by decide) ?_
          have hsp : sR_bank (t, lm, nN, nM, A, Bq) (nI i) c_ = (0, (t, lm, nN, nM, A, Bq)) := by simp [sR_bank, hxi, c_16, c_31]
          exact pc_retz hx hb hr rfl hlocks hP hD hS dX4_bank_35 ⟨rfl, by rw [hsp], rs, lk, by rw [hsp]; exact h0⟩

set_option maxHeartbeats 4000000 in
set_option maxRecDepth 100000 in
theorem k_R_mark (l : Launch) (G : va_G) (cs : Nat → ClassId) (L : List Nat) (f : Nat → va_E) (sz : Nat) (ad : Nat → Nat) (t lm : Int32) (nN nM : Nat) (rs lk : Int32) (A : RA) (Bq : RB) (m_ a_ b_ : Int32) (h0 : RS cs L f ad t lm nN nM rs lk A Bq) : Met l yX4_mark (Cond.code yX4_mark cX4_mark 4 (some FieldType.boolean) :: wg) ({ frames := 2, cells := 0, slots := 0, locals := 42 }) (pc_P [.ref (ad 0), .int m_, .int a_, .int b_] G vwCl (tyl cs) L f sz (fun _ => True)) (va_Qi (fun r u => L = u.1 ∧ r = (sR_mark (t, lm, nN, nM, A, Bq) m_ a_ b_).1 ∧ ∃ rs' lk', RSx cs u.1 u.2 ad (sR_mark (t, lm, nN, nM, A, Bq) m_ a_ b_).2 rs' lk') (pc_B G vwCl L sz) (pw_A L sz)) 0 0 (pw_A L sz) := by
  refine Met.ofW (cc := cX4_mark) (maxL := 4) (ret := (some FieldType.boolean)) (by decide) rfl ?_
  intro p e s m args below meth c s₁ B hml hv
  obtain ⟨rfl, hsz, hP, hK, hD0, hX⟩ := hv
  have hx := B.exec
  have hb := B.bytes
  have hr := B.returns
  have hts0 := atoms_spec (ws := (Cond.code yX4_mark cX4_mark 4 (some FieldType.boolean) :: wg)) B.pre
  have hts := fun (w : Cond) (h : w ∈ wg) => hts0 w (List.mem_cons_of_mem _ h)
  have hown : s.vm.findClass RX4 = some m.cls := findClass_of_methodNamed B.named
  have hlocks := B.notSynchronized
  subst hsz
  have hD := pw_selfD (sz := s.heap.size) hD0
  have hA : ∀ q : Nat, s.heap.size ≤ q → pw_A L s.heap.size q := fun q h => Or.inr h
  have hS : va_S (pw_A L s.heap.size) s.heap s.heap [] := va_S.rf
  have hl := lv_entry ([.ref (ad 0), .int m_, .int a_, .int b_]) (n := 4) (Nat.le_of_ble_eq_true rfl)
  rw [lg_entry_eq]
  generalize (lg_sl ([.ref (ad 0), .int m_, .int a_, .int b_]) ++ List.replicate (4 - (lg_sl ([.ref (ad 0), .int m_, .int a_, .int b_])).length) Slot.unset).toArray = ls at hl ⊢
  have hl : lv_has ls 4 [(0, .ref (ad 0)), (1, .int m_), (2, .int a_), (3, .int b_)] := hl
  have hN6 := h0.nN6
  have hM12 := h0.nM12
  have m0 := h0.mem 0 (by decide)
  have e0 := h0.e0
  have m12 := h0.mem 12 (by decide)
  have e12 : f (ad 12) = .inl (cs 0, 12, .inl (A 12)) := h0.ea 12 (by decide) (by decide)
  have m14 := h0.mem 14 (by decide)
  have e14 : f (ad 14) = .inl (cs 2, 12, .inl (A 14)) := h0.ea 14 (by decide) (by decide)
  refine lv_aload_n hx hb dX4_mark_0 rfl (lv_at hl 0 rfl) ?_
  refine lv_iload_n hx hb dX4_mark_1 rfl (lv_at hl 1 rfl) ?_
  refine pr_callVi (As := [.int m_]) (rest := []) ⟨hx, hb, hml, hown, hts⟩ (k_R_isM l G cs L f ad t lm nN nM rs lk A Bq m_ h0) (cwV 1 hts (wg_V mw_449 mw_451 ms_12 mw_3 mw_452) rfl rfl rfl (by decide +kernel) ⟨Nat.le_of_ble_eq_true rfl, Nat.le_of_ble_eq_true rfl⟩) hK hP m0 e0 rfl px_T (fun _ _ _ => trivial) rfl hl.1 rfl (lv_room (Nat.le_of_ble_eq_true rfl)) dX4_mark_2 ⟨Nat.le_of_ble_eq_true rfl, Nat.le_of_ble_eq_true rfl⟩ (fun r_1 hr_1 => ?_)
  rcases sp_in_cases (m := nM) (by omega) m_ with ⟨hxj, hsj⟩ | ⟨j, hj, enj, hxj, hsj⟩
  · obtain rfl : r_1 = 0 := by rw [hr_1, hsj]
    refine lv_if_eq (tgt := 50) hx hb dX4_mark_5 (by decide) (fun c_5 => ?_) (fun c_5 => ?_)
    · refine lv_iconst (v := 0) hx hb dX4_mark_50 (by decide) ?_
      have hsp : sR_mark (t, lm, nN, nM, A, Bq) m_ a_ b_ = (0, (t, lm, nN, nM, A, Bq)) := by simp [sR_mark, hxj]
      exact pc_retz hx hb hr rfl hlocks hP hD hS dX4_mark_51 ⟨rfl, by rw [hsp], rs, lk, by rw [hsp]; exact h0⟩
    · exact absurd c_5 (by decide)
  · obtain rfl : r_1 = 1 := by rw [hr_1, hsj]
    subst enj
    refine lv_if_eq (tgt := 50) hx hb dX4_mark_5 (by decide) (fun c_5 => ?_) (fun c_5 => ?_)
    · exact absurd c_5 (by decide)
    · refine lv_iload_n hx hb dX4_mark_8 rfl (lv_at hl 2 rfl) ?_
      refine lv_iload_n hx hb dX4_mark_9 rfl (lv_at hl 3 rfl) ?_
      refine lv_icmp_eq (tgt := 50) hx hb dX4_mark_10 (by decide) (fun c_10 => ?_) (fun c_10 => ?_)
      · refine lv_iconst (v := 0) hx hb dX4_mark_50 (by decide) ?_
        have hsp : sR_mark (t, lm, nN, nM, A, Bq) (nI j) a_ b_ = (0, (t, lm, nN, nM, A, Bq)) := by simp [sR_mark, hxj, c_10]
        exact pc_retz hx hb hr rfl hlocks hP hD hS dX4_mark_51 ⟨rfl, by rw [hsp], rs, lk, by rw [hsp]; exact h0⟩
      · refine lv_aload_n hx hb dX4_mark_13 rfl (lv_at hl 0 rfl) ?_
        refine lv_iload_n hx hb dX4_mark_14 rfl (lv_at hl 2 rfl) ?_
        refine lv_iconst (v := 2) hx hb dX4_mark_15 (by decide) ?_
        refine pr_callVi (As := [.int a_, .int 2]) (rest := []) ⟨hx, hb, hml, hown, hts⟩ (k_R_may l G cs L f ad t lm nN nM rs lk A Bq a_ 2 h0) (cwV 2 hts (wg_V mw_471 mw_464 mw_465 mw_3 mw_466) rfl rfl rfl (by decide +kernel) ⟨Nat.le_of_ble_eq_true rfl, Nat.le_of_ble_eq_true rfl⟩) hK hP m0 e0 rfl px_T (fun _ _ _ => trivial) rfl hl.1 rfl (lv_room (Nat.le_of_ble_eq_true rfl)) dX4_mark_16 ⟨Nat.le_of_ble_eq_true rfl, Nat.le_of_ble_eq_true rfl⟩ (fun r_2 hr_2 => ?_)
        subst hr_2
        refine lv_if_eq (tgt := 50) hx hb dX4_mark_19 (by decide) (fun c_19 => ?_) (fun c_19 => ?_)
        · refine lv_iconst (v := 0) hx hb dX4_mark_50 (by decide) ?_
          have hsp : sR_mark (t, lm, nN, nM, A, Bq) (nI j) a_ b_ = (0, (t, lm, nN, nM, A, Bq)) := by simp [sR_mark, hxj, c_10, c_19]
          exact pc_retz hx hb hr rfl hlocks hP hD hS dX4_mark_51 ⟨rfl, by rw [hsp], rs, lk, by rw [hsp]; exact h0⟩
        · refine lv_aload_n hx hb dX4_mark_22 rfl (lv_at hl 0 rfl) ?_
          refine lv_iload_n hx hb dX4_mark_23 rfl (lv_at hl 3 rfl) ?_
          refine lv_iconst (v := 2) hx hb dX4_mark_24 (by decide) ?_
          refine pr_callVi (As := [.int b_, .int 2]) (rest := []) ⟨hx, hb, hml, hown, hts⟩ (k_R_may l G cs L f ad t lm nN nM rs lk A Bq b_ 2 h0) (cwV 2 hts (wg_V mw_471 mw_464 mw_465 mw_3 mw_466) rfl rfl rfl (by decide +kernel) ⟨Nat.le_of_ble_eq_true rfl, Nat.le_of_ble_eq_true rfl⟩) hK hP m0 e0 rfl px_T (fun _ _ _ => trivial) rfl hl.1 rfl (lv_room (Nat.le_of_ble_eq_true rfl)) dX4_mark_25 ⟨Nat.le_of_ble_eq_true rfl, Nat.le_of_ble_eq_true rfl⟩ (fun r_3 hr_3 => ?_)
          subst hr_3
          refine lv_if_eq (tgt := 50) hx hb dX4_mark_28 (by decide) (fun c_28 => ?_) (fun c_28 => ?_)
          · refine lv_iconst (v := 0) hx hb dX4_mark_50 (by decide) ?_
            have hsp : sR_mark (t, lm, nN, nM, A, Bq) (nI j) a_ b_ = (0, (t, lm, nN, nM, A, Bq)) := by simp [sR_mark, hxj, c_10, c_19, c_28]
            exact pc_retz hx hb hr rfl hlocks hP hD hS dX4_mark_51 ⟨rfl, by rw [hsp], rs, lk, by rw [hsp]; exact h0⟩
          · refine lv_aload_n hx hb dX4_mark_31 rfl (lv_at hl 0 rfl) ?_
            refine pw_get (ci := 4) (C := RX4) (T := TX4) (N := 23) hx hb hts inX4 hown hK hP m0 e0 rfl 14 (by decide) (hts _ mw_341) (fun _ h9 => h9) rfl dX4_mark_32 ?_
            refine lv_iload_n hx hb dX4_mark_35 rfl (lv_at hl 1 rfl) ?_
            refine pw_ialdN (k := j) hx hb hK hP m12 0 e12 rfl (by omega) (by decide) dX4_mark_36 ?_
            refine lv_iconst (v := 2) hx hb dX4_mark_37 (by decide) ?_
            refine lv_icmp_ne (tgt := 50) hx hb dX4_mark_38 (by decide) (fun c_38 => ?_) (fun c_38 => ?_)
            · refine lv_iconst (v := 0) hx hb dX4_mark_50 (by decide) ?_
              have hsp : sR_mark (t, lm, nN, nM, A, Bq) (nI j) a_ b_ = (0, (t, lm, nN, nM, A, Bq)) := by simp [sR_mark, hxj, c_10, c_19, c_28, c_38]
              exact pc_retz hx hb hr rfl hlocks hP hD hS dX4_mark_51 ⟨rfl, by rw [hsp], rs, lk, by rw [hsp]; exact h0⟩
            · refine lv_aload_n hx hb dX4_mark_41 rfl (lv_at hl 0 rfl) ?_
              refine pw_get (ci := 4) (C := RX4) (T := TX4) (N := 23) hx hb hts inX4 hown hK hP m0 e0 rfl 16 (by decide) (hts _ mw_343) (fun _ h9 => h9) rfl dX4_mark_42 ?_
              refine lv_iload_n hx hb dX4_mark_45 rfl (lv_at hl 1 rfl) ?_
              refine pw_zaldN (k := j) hx hb hK hP m14 2 e14 rfl (by omega) (by decide) dX4_mark_46 ?_
              refine lv_if_eq (tgt := 52) hx hb dX4_mark_47 (by decide) (fun c_47 => ?_) (fun c_47 => ?_)
              · refine lv_aload_n hx hb dX4_mark_52 rfl (lv_at hl 0 rfl) ?_
                refine pw_get (ci := 4) (C := RX4) (T := TX4) (N := 23) hx hb hts inX4 hown hK hP m0 e0 rfl 16 (by decide) (hts _ mw_343) (fun _ h9 => h9) rfl dX4_mark_53 ?_
                refine lv_iload_n hx hb dX4_mark_56 rfl (lv_at hl 1 rfl) ?_
                refine lv_iconst (v := 1) hx hb dX4_mark_57 (by decide) ?_
                refine pw_zastN (k := j) hx hb hK hP hD hS m14 2 e14 rfl (by omega) (by decide) dX4_mark_58 (fun H locs hP hD hS => ?_)
                obtain ⟨f_4, ef_4⟩ : ∃ zz : Nat → va_E, zz = va_up f (ad 14) (.inl (cs 2, 12, .inl (upd (A 14) j (vp_nar .boolean 1)))) := ⟨_, rfl⟩
                have hP : va_P G vwCl (va_pl L f_4) H := by rw [ef_4]; exact hP
                have hD : va_D (pw_A L s.heap.size) (va_pl L f_4) := by rw [ef_4]; exact hD
                have hf_4_ad_0 := (show f_4 (ad 0) = f (ad 0) by rw [ef_4]; exact va_up_ne _ _ (h0.ne 0 14 (by decide) (by decide) (by decide))).trans e0
                have hf_4_ad_12 := (show f_4 (ad 12) = f (ad 12) by rw [ef_4]; exact va_up_ne _ _ (h0.ne 12 14 (by decide) (by decide) (by decide))).trans e12
                have hf_4_ad_14 : f_4 (ad 14) = .inl (cs 2, 12, .inl (upd (A 14) j (vp_nar .boolean 1))) := by rw [ef_4]; exact va_up_self _ _ _
                have qf_4 : RS cs L f_4 ad t lm nN nM rs lk (rA A 14 j 1) Bq := by rw [ef_4]; exact h0.setA 14 j 1 (by decide) (by decide)
                refine lv_iconst (v := 1) hx hb dX4_mark_59 (by decide) ?_
                have hsp : sR_mark (t, lm, nN, nM, A, Bq) (nI j) a_ b_ = (1, (t, lm, nN, nM, rA A 14 j 1, Bq)) := by simp [sR_mark, hxj, c_10, c_19, c_28, c_38, c_47]
                exact pc_retz hx hb hr rfl hlocks hP hD hS dX4_mark_60 ⟨rfl, by rw [hsp], rs, lk, by rw [hsp]; exact qf_4⟩
              · refine lv_iconst (v := 0) hx hb dX4_mark_50 (by decide) ?_
                have hsp : sR_mark (t, lm, nN, nM, A, Bq) (nI j) a_ b_ = (0, (t, lm, nN, nM, A, Bq)) := by simp [sR_mark, hxj, c_10, c_19, c_28, c_38, c_47]
                exact pc_retz hx hb hr rfl hlocks hP hD hS dX4_mark_51 ⟨rfl, by rw [hsp], rs, lk, by rw [hsp]; exact h0⟩

set_option maxHeartbeats 4000000 in
set_option maxRecDepth 100000 in
theorem k_R_country (l : Launch) (G : va_G) (cs : Nat → ClassId) (L : List Nat) (f : Nat → va_E) (sz : Nat) (ad : Nat → Nat) (t lm : Int32) (nN nM : Nat) (rs lk : Int32) (A : RA) (Bq : RB) (n_ c_ d_ : Int32) (h0 : RS cs L f ad t lm nN nM rs lk A Bq) : Met l yX4_country (Cond.code yX4_country cX4_country 5 (some FieldType.boolean) :: wg) ({ frames := 1, cells := 0, slots := 0, locals := 25 }) (pc_P [.ref (ad 0), .int n_, .int c_, .int d_] G vwCl (tyl cs) L f sz (fun _ => True)) (va_Qi (fun r u => L = u.1 ∧ r = (sR_country (t, lm, nN, nM, A, Bq) n_ c_ d_).1 ∧ ∃ rs' lk', RSx cs u.1 u.2 ad (sR_country (t, lm, nN, nM, A, Bq) n_ c_ d_).2 rs' lk') (pc_B G vwCl L sz) (pw_A L sz)) 0 0 (pw_A L sz) := by
  refine Met.ofW (cc := cX4_country) (maxL := 5) (ret := (some FieldType.boolean)) (by decide) rfl ?_
  intro p e s m args below meth c s₁ B hml hv
  obtain ⟨rfl, hsz, hP, hK, hD0, hX⟩ := hv
  have hx := B.exec
  have hb := B.bytes
  have hr := B.returns
  have hts0 := atoms_spec (ws := (Cond.code yX4_country cX4_country 5 (some FieldType.boolean) :: wg)) B.pre
  have hts := fun (w : Cond) (h : w ∈ wg) => hts0 w (List.mem_cons_of_mem _ h)
  have hown : s.vm.findClass RX4 = some m.cls := findClass_of_methodNamed B.named
  have hlocks := B.notSynchronized
  subst hsz
  have hD := pw_selfD (sz := s.heap.size) hD0
  have hA : ∀ q : Nat, s.heap.size ≤ q → pw_A L s.heap.size q := fun q h => Or.inr h
  have hS : va_S (pw_A L s.heap.size) s.heap s.heap [] := va_S.rf
  have hl := lv_entry ([.ref (ad 0), .int n_, .int c_, .int d_]) (n := 5) (Nat.le_of_ble_eq_true rfl)
  rw [lg_entry_eq]
  generalize (lg_sl ([.ref (ad 0), .int n_, .int c_, .int d_]) ++ List.replicate (5 - (lg_sl ([.ref (ad 0), .int n_, .int c_, .int d_])).length) Slot.unset).toArray = ls at hl ⊢
  have hl : lv_has ls 5 [(0, .ref (ad 0)), (1, .int n_), (2, .int c_), (3, .int d_)] := hl
  have hN6 := h0.nN6
  have hM12 := h0.nM12
  have m0 := h0.mem 0 (by decide)
  have e0 := h0.e0
  have m5 := h0.mem 5 (by decide)
  have e5 : f (ad 5) = .inl (cs 2, 36, .inl (A 5)) := h0.ea 5 (by decide) (by decide)
  have m6 := h0.mem 6 (by decide)
  have e6 : f (ad 6) = .inl (cs 0, 36, .inl (A 6)) := h0.ea 6 (by decide) (by decide)
  have m7 := h0.mem 7 (by decide)
  have e7 : f (ad 7) = .inl (cs 0, 36, .inl (A 7)) := h0.ea 7 (by decide) (by decide)
  have m8 := h0.mem 8 (by decide)
  have e8 : f (ad 8) = .inl (cs 0, 36, .inl (A 8)) := h0.ea 8 (by decide) (by decide)
  refine lv_aload_n hx hb dX4_country_0 rfl (lv_at hl 0 rfl) ?_
  refine lv_iload_n hx hb dX4_country_1 rfl (lv_at hl 1 rfl) ?_
  refine pr_callVi (As := [.int n_]) (rest := []) ⟨hx, hb, hml, hown, hts⟩ (k_R_isN l G cs L f ad t lm nN nM rs lk A Bq n_ h0) (cwV 1 hts (wg_V mw_419 mw_421 ms_11 mw_3 mw_422) rfl rfl rfl (by decide +kernel) ⟨Nat.le_of_ble_eq_true rfl, Nat.le_of_ble_eq_true rfl⟩) hK hP m0 e0 rfl px_T (fun _ _ _ => trivial) rfl hl.1 rfl (lv_room (Nat.le_of_ble_eq_true rfl)) dX4_country_2 ⟨Nat.le_of_ble_eq_true rfl, Nat.le_of_ble_eq_true rfl⟩ (fun r_1 hr_1 => ?_)
  rcases sp_in_cases (m := nN) (by omega) n_ with ⟨hxi, hsi⟩ | ⟨i, hi, eni, hxi, hsi⟩
  · obtain rfl : r_1 = 0 := by rw [hr_1, hsi]
    refine lv_if_eq (tgt := 41) hx hb dX4_country_5 (by decide) (fun c_5 => ?_) (fun c_5 => ?_)
    · refine lv_iconst (v := 0) hx hb dX4_country_41 (by decide) ?_
      have hsp : sR_country (t, lm, nN, nM, A, Bq) n_ c_ d_ = (0, (t, lm, nN, nM, A, Bq)) := by simp [sR_country, hxi]
      exact pc_retz hx hb hr rfl hlocks hP hD hS dX4_country_42 ⟨rfl, by rw [hsp], rs, lk, by rw [hsp]; exact h0⟩
    · exact absurd c_5 (by decide)
  · obtain rfl : r_1 = 1 := by rw [hr_1, hsi]
    subst eni
    refine lv_if_eq (tgt := 41) hx hb dX4_country_5 (by decide) (fun c_5 => ?_) (fun c_5 => ?_)
    · exact absurd c_5 (by decide)
    · refine lv_iload_n hx hb dX4_country_8 rfl (lv_at hl 2 rfl) ?_
      refine pr_callSi (As := [.int c_]) (rest := []) ⟨hx, hb, hml, hown, hts⟩ (k_R_isC l G cs L f c_) (cwS 1 hts (wg_S mw_423 mw_424 mw_3 mw_425) rfl rfl rfl (by decide +kernel) ⟨Nat.le_of_ble_eq_true rfl, Nat.le_of_ble_eq_true rfl⟩) hK hP px_T (fun _ _ _ => trivial) rfl hl.1 rfl (lv_room (Nat.le_of_ble_eq_true rfl)) dX4_country_9 ⟨Nat.le_of_ble_eq_true rfl, Nat.le_of_ble_eq_true rfl⟩ (fun r_2 hr_2 => ?_)
      rcases sp_in_cases (m := 6) (by decide) c_ with ⟨hxu, hsu⟩ | ⟨u, hu, enu, hxu, hsu⟩
      · obtain rfl : r_2 = 0 := by rw [hr_2, hsu]
        refine lv_if_eq (tgt := 41) hx hb dX4_country_12 (by decide) (fun c_12 => ?_) (fun c_12 => ?_)
        · refine lv_iconst (v := 0) hx hb dX4_country_41 (by decide) ?_
          have hsp : sR_country (t, lm, nN, nM, A, Bq) (nI i) c_ d_ = (0, (t, lm, nN, nM, A, Bq)) := by simp [sR_country, hxi, hxu]
          exact pc_retz hx hb hr rfl hlocks hP hD hS dX4_country_42 ⟨rfl, by rw [hsp], rs, lk, by rw [hsp]; exact h0⟩
        · exact absurd c_12 (by decide)
      · obtain rfl : r_2 = 1 := by rw [hr_2, hsu]
        subst enu
        refine lv_if_eq (tgt := 41) hx hb dX4_country_12 (by decide) (fun c_12 => ?_) (fun c_12 => ?_)
        · exact absurd c_12 (by decide)
        · refine lv_iload_n hx hb dX4_country_15 rfl (lv_at hl 3 rfl) ?_
          refine lv_i2l hx hb dX4_country_16 rfl ?_
          refine lv_lconst (v := 0) hx hb dX4_country_17 (by decide) ?_
          refine lv_ldc2 hx hb hown (hts _ mw_426) dX4_country_18 ?_
          refine pr_callSi (As := [.long d_.toInt64, .long 0, .long 1000]) (rest := []) ⟨hx, hb, hml, hown, hts⟩ (k_R_isIn l G cs L f d_.toInt64 0 1000) (cwS 3 hts (wg_S mw_403 mw_404 mw_3 mw_405) rfl rfl rfl (by decide +kernel) ⟨Nat.le_of_ble_eq_true rfl, Nat.le_of_ble_eq_true rfl⟩) hK hP px_T (fun _ _ _ => trivial) rfl hl.1 rfl (lv_room (Nat.le_of_ble_eq_true rfl)) dX4_country_21 ⟨Nat.le_of_ble_eq_true rfl, Nat.le_of_ble_eq_true rfl⟩ (fun r_3 hr_3 => ?_)
          subst hr_3
          refine lv_if_eq (tgt := 41) hx hb dX4_country_24 (by decide) (fun c_24 => ?_) (fun c_24 => ?_)
          · refine lv_iconst (v := 0) hx hb dX4_country_41 (by decide) ?_
            have hsp : sR_country (t, lm, nN, nM, A, Bq) (nI i) (nI u) d_ = (0, (t, lm, nN, nM, A, Bq)) := by simp [sR_country, hxi, hxu, c_24]
            exact pc_retz hx hb hr rfl hlocks hP hD hS dX4_country_42 ⟨rfl, by rw [hsp], rs, lk, by rw [hsp]; exact h0⟩
          · refine lv_aload_n hx hb dX4_country_27 rfl (lv_at hl 0 rfl) ?_
            refine pw_get (ci := 4) (C := RX4) (T := TX4) (N := 23) hx hb hts inX4 hown hK hP m0 e0 rfl 6 (by decide) (hts _ mw_333) (fun _ h9 => h9) rfl dX4_country_28 ?_
            refine lv_bipush (v := 6) hx hb dX4_country_31 (by decide) ?_
            refine lv_iload_n hx hb dX4_country_33 rfl (lv_at hl 1 rfl) ?_
            refine lv_imul hx hb dX4_country_34 ?_
            refine lv_iload_n hx hb dX4_country_35 rfl (lv_at hl 2 rfl) ?_
            refine lv_iadd hx hb dX4_country_36 ?_
            have eix37 : (6 * (nI i)) + (nI u) = nI (6 * i + u) := ld6 i u
            rw [eix37]
            refine pw_zaldN (k := 6 * i + u) hx hb hK hP m5 2 e5 rfl (by omega) (by decide) dX4_country_37 ?_
            refine lv_if_eq (tgt := 43) hx hb dX4_country_38 (by decide) (fun c_38 => ?_) (fun c_38 => ?_)
            · refine lv_bipush (v := 6) hx hb dX4_country_43 (by decide) ?_
              refine lv_iload_n hx hb dX4_country_45 rfl (lv_at hl 1 rfl) ?_
              refine lv_imul hx hb dX4_country_46 ?_
              refine lv_iload_n hx hb dX4_country_47 rfl (lv_at hl 2 rfl) ?_
              refine lv_iadd hx hb dX4_country_48 ?_
              have eix49 : (6 * (nI i)) + (nI u) = nI (6 * i + u) := ld6 i u
              rw [eix49]
              refine lv_istore (lv' := [(4, .int (nI (6 * i + u))), (0, .ref (ad 0)), (1, .int (nI i)), (2, .int (nI u)), (3, .int d_)]) hx hb dX4_country_49 hl (by decide) rfl (fun ls hl => ?_)
              refine lv_aload_n hx hb dX4_country_51 rfl (lv_at hl 1 rfl) ?_
              refine pw_get (ci := 4) (C := RX4) (T := TX4) (N := 23) hx hb hts inX4 hown hK hP m0 e0 rfl 6 (by decide) (hts _ mw_333) (fun _ h9 => h9) rfl dX4_country_52 ?_
              refine lv_iload hx hb dX4_country_55 (lv_at hl 0 rfl) ?_
              refine lv_iconst (v := 1) hx hb dX4_country_57 (by decide) ?_
              refine pw_zastN (k := 6 * i + u) hx hb hK hP hD hS m5 2 e5 rfl (by omega) (by decide) dX4_country_58 (fun H locs hP hD hS => ?_)
              obtain ⟨f_4, ef_4⟩ : ∃ zz : Nat → va_E, zz = va_up f (ad 5) (.inl (cs 2, 36, .inl (upd (A 5) (6 * i + u) (vp_nar .boolean 1)))) := ⟨_, rfl⟩
              have hP : va_P G vwCl (va_pl L f_4) H := by rw [ef_4]; exact hP
              have hD : va_D (pw_A L s.heap.size) (va_pl L f_4) := by rw [ef_4]; exact hD
              have hf_4_ad_0 := (show f_4 (ad 0) = f (ad 0) by rw [ef_4]; exact va_up_ne _ _ (h0.ne 0 5 (by decide) (by decide) (by decide))).trans e0
              have hf_4_ad_5 : f_4 (ad 5) = .inl (cs 2, 36, .inl (upd (A 5) (6 * i + u) (vp_nar .boolean 1))) := by rw [ef_4]; exact va_up_self _ _ _
              have hf_4_ad_6 := (show f_4 (ad 6) = f (ad 6) by rw [ef_4]; exact va_up_ne _ _ (h0.ne 6 5 (by decide) (by decide) (by decide))).trans e6
              have hf_4_ad_7 := (show f_4 (ad 7) = f (ad 7) by rw [ef_4]; exact va_up_ne _ _ (h0.ne 7 5 (by decide) (by decide) (by decide))).trans e7
              have hf_4_ad_8 := (show f_4 (ad 8) = f (ad 8) by rw [ef_4]; exact va_up_ne _ _ (h0.ne 8 5 (by decide) (by decide) (by decide))).trans e8
              have qf_4 : RS cs L f_4 ad t lm nN nM rs lk (rA A 5 (6 * i + u) 1) Bq := by rw [ef_4]; exact h0.setA 5 (6 * i + u) 1 (by decide) (by decide)
              refine lv_aload_n hx hb dX4_country_59 rfl (lv_at hl 1 rfl) ?_
              refine pw_get (ci := 4) (C := RX4) (T := TX4) (N := 23) hx hb hts inX4 hown hK hP m0 hf_4_ad_0 rfl 7 (by decide) (hts _ mw_334) (fun _ h9 => h9) rfl dX4_country_60 ?_
              refine lv_iload hx hb dX4_country_63 (lv_at hl 0 rfl) ?_
              refine lv_iload_n hx hb dX4_country_65 rfl (lv_at hl 4 rfl) ?_
              refine pw_iastN (k := 6 * i + u) hx hb hK hP hD hS m6 0 hf_4_ad_6 rfl (by omega) (by decide) dX4_country_66 (fun H locs hP hD hS => ?_)
              obtain ⟨f_5, ef_5⟩ : ∃ zz : Nat → va_E, zz = va_up f_4 (ad 6) (.inl (cs 0, 36, .inl (upd (A 6) (6 * i + u) d_))) := ⟨_, rfl⟩
              have hP : va_P G vwCl (va_pl L f_5) H := by rw [ef_5]; exact hP
              have hD : va_D (pw_A L s.heap.size) (va_pl L f_5) := by rw [ef_5]; exact hD
              have hf_5_ad_0 := (show f_5 (ad 0) = f_4 (ad 0) by rw [ef_5]; exact va_up_ne _ _ (h0.ne 0 6 (by decide) (by decide) (by decide))).trans hf_4_ad_0
              have hf_5_ad_5 := (show f_5 (ad 5) = f_4 (ad 5) by rw [ef_5]; exact va_up_ne _ _ (h0.ne 5 6 (by decide) (by decide) (by decide))).trans hf_4_ad_5
              have hf_5_ad_6 : f_5 (ad 6) = .inl (cs 0, 36, .inl (upd (A 6) (6 * i + u) d_)) := by rw [ef_5]; exact va_up_self _ _ _
              have hf_5_ad_7 := (show f_5 (ad 7) = f_4 (ad 7) by rw [ef_5]; exact va_up_ne _ _ (h0.ne 7 6 (by decide) (by decide) (by decide))).trans hf_4_ad_7
              have hf_5_ad_8 := (show f_5 (ad 8) = f_4 (ad 8) by rw [ef_5]; exact va_up_ne _ _ (h0.ne 8 6 (by decide) (by decide) (by decide))).trans hf_4_ad_8
              have qf_5 : RS cs L f_5 ad t lm nN nM rs lk (rA (rA A 5 (6 * i + u) 1) 6 (6 * i + u) d_) Bq := by rw [ef_5]; exact qf_4.setA 6 (6 * i + u) d_ (by decide) (by decide)
              refine lv_aload_n hx hb dX4_country_67 rfl (lv_at hl 1 rfl) ?_
              refine pw_get (ci := 4) (C := RX4) (T := TX4) (N := 23) hx hb hts inX4 hown hK hP m0 hf_5_ad_0 rfl 8 (by decide) (hts _ mw_335) (fun _ h9 => h9) rfl dX4_country_68 ?_
              refine lv_iload hx hb dX4_country_71 (lv_at hl 0 rfl) ?_
              refine lv_aload_n hx hb dX4_country_73 rfl (lv_at hl 1 rfl) ?_
              refine pw_get (ci := 4) (C := RX4) (T := TX4) (N := 23) hx hb hts inX4 hown hK hP m0 hf_5_ad_0 rfl 0 (by decide) (hts _ mw_327) (fun _ h9 => h9) rfl dX4_country_74 ?_
              refine pw_iastN (k := 6 * i + u) hx hb hK hP hD hS m7 0 hf_5_ad_7 rfl (by omega) (by decide) dX4_country_77 (fun H locs hP hD hS => ?_)
              obtain ⟨f_6, ef_6⟩ : ∃ zz : Nat → va_E, zz = va_up f_5 (ad 7) (.inl (cs 0, 36, .inl (upd (A 7) (6 * i + u) t))) := ⟨_, rfl⟩
              have hP : va_P G vwCl (va_pl L f_6) H := by rw [ef_6]; exact hP
              have hD : va_D (pw_A L s.heap.size) (va_pl L f_6) := by rw [ef_6]; exact hD
              have hf_6_ad_0 := (show f_6 (ad 0) = f_5 (ad 0) by rw [ef_6]; exact va_up_ne _ _ (h0.ne 0 7 (by decide) (by decide) (by decide))).trans hf_5_ad_0
              have hf_6_ad_5 := (show f_6 (ad 5) = f_5 (ad 5) by rw [ef_6]; exact va_up_ne _ _ (h0.ne 5 7 (by decide) (by decide) (by decide))).trans hf_5_ad_5
              have hf_6_ad_6 := (show f_6 (ad 6) = f_5 (ad 6) by rw [ef_6]; exact va_up_ne _ _ (h0.ne 6 7 (by decide) (by decide) (by decide))).trans hf_5_ad_6
              have hf_6_ad_7 : f_6 (ad 7) = .inl (cs 0, 36, .inl (upd (A 7) (6 * i + u) t)) := by rw [ef_6]; exact va_up_self _ _ _
              have hf_6_ad_8 := (show f_6 (ad 8) = f_5 (ad 8) by rw [ef_6]; exact va_up_ne _ _ (h0.ne 8 7 (by decide) (by decide) (by decide))).trans hf_5_ad_8
              have qf_6 : RS cs L f_6 ad t lm nN nM rs lk (rA (rA (rA A 5 (6 * i + u) 1) 6 (6 * i + u) d_) 7 (6 * i + u) t) Bq := by rw [ef_6]; exact qf_5.setA 7 (6 * i + u) t (by decide) (by decide)
              refine lv_aload_n hx hb dX4_country_78 rfl (lv_at hl 1 rfl) ?_
              refine pw_get (ci := 4) (C := RX4) (T := TX4) (N := 23) hx hb hts inX4 hown hK hP m0 hf_6_ad_0 rfl 9 (by decide) (hts _ mw_336) (fun _ h9 => h9) rfl dX4_country_79 ?_
              refine lv_iload hx hb dX4_country_82 (lv_at hl 0 rfl) ?_
              refine lv_iconst (v := 0) hx hb dX4_country_84 (by decide) ?_
              refine pw_iastN (k := 6 * i + u) hx hb hK hP hD hS m8 0 hf_6_ad_8 rfl (by omega) (by decide) dX4_country_85 (fun H locs hP hD hS => ?_)
              obtain ⟨f_7, ef_7⟩ : ∃ zz : Nat → va_E, zz = va_up f_6 (ad 8) (.inl (cs 0, 36, .inl (upd (A 8) (6 * i + u) 0))) := ⟨_, rfl⟩
              have hP : va_P G vwCl (va_pl L f_7) H := by rw [ef_7]; exact hP
              have hD : va_D (pw_A L s.heap.size) (va_pl L f_7) := by rw [ef_7]; exact hD
              have hf_7_ad_0 := (show f_7 (ad 0) = f_6 (ad 0) by rw [ef_7]; exact va_up_ne _ _ (h0.ne 0 8 (by decide) (by decide) (by decide))).trans hf_6_ad_0
              have hf_7_ad_5 := (show f_7 (ad 5) = f_6 (ad 5) by rw [ef_7]; exact va_up_ne _ _ (h0.ne 5 8 (by decide) (by decide) (by decide))).trans hf_6_ad_5
              have hf_7_ad_6 := (show f_7 (ad 6) = f_6 (ad 6) by rw [ef_7]; exact va_up_ne _ _ (h0.ne 6 8 (by decide) (by decide) (by decide))).trans hf_6_ad_6
              have hf_7_ad_7 := (show f_7 (ad 7) = f_6 (ad 7) by rw [ef_7]; exact va_up_ne _ _ (h0.ne 7 8 (by decide) (by decide) (by decide))).trans hf_6_ad_7
              have hf_7_ad_8 : f_7 (ad 8) = .inl (cs 0, 36, .inl (upd (A 8) (6 * i + u) 0)) := by rw [ef_7]; exact va_up_self _ _ _
              have qf_7 : RS cs L f_7 ad t lm nN nM rs lk (rA (rA (rA (rA A 5 (6 * i + u) 1) 6 (6 * i + u) d_) 7 (6 * i + u) t) 8 (6 * i + u) 0) Bq := by rw [ef_7]; exact qf_6.setA 8 (6 * i + u) 0 (by decide) (by decide)
              refine lv_iconst (v := 1) hx hb dX4_country_86 (by decide) ?_
              have hsp : sR_country (t, lm, nN, nM, A, Bq) (nI i) (nI u) d_ = (1, (t, lm, nN, nM, rA (rA (rA (rA A 5 (6 * i + u) 1) 6 (6 * i + u) d_) 7 (6 * i + u) t) 8 (6 * i + u) 0, Bq)) := by simp [sR_country, hxi, hxu, c_24, c_38]
              exact pc_retz hx hb hr rfl hlocks hP hD hS dX4_country_87 ⟨rfl, by rw [hsp], rs, lk, by rw [hsp]; exact qf_7⟩
            · refine lv_iconst (v := 0) hx hb dX4_country_41 (by decide) ?_
              have hsp : sR_country (t, lm, nN, nM, A, Bq) (nI i) (nI u) d_ = (0, (t, lm, nN, nM, A, Bq)) := by simp [sR_country, hxi, hxu, c_24, c_38]
              exact pc_retz hx hb hr rfl hlocks hP hD hS dX4_country_42 ⟨rfl, by rw [hsp], rs, lk, by rw [hsp]; exact h0⟩

set_option maxHeartbeats 4000000 in
set_option maxRecDepth 100000 in
theorem k_R_says (l : Launch) (G : va_G) (cs : Nat → ClassId) (L : List Nat) (f : Nat → va_E) (sz : Nat) (ad : Nat → Nat) (t lm : Int32) (nN nM : Nat) (rs lk : Int32) (A : RA) (Bq : RB) (n_ c_ y_ : Int32) (h0 : RS cs L f ad t lm nN nM rs lk A Bq) : Met l yX4_says (Cond.code yX4_says cX4_says 5 (some FieldType.boolean) :: wg) ({ frames := 1, cells := 0, slots := 0, locals := 22 }) (pc_P [.ref (ad 0), .int n_, .int c_, .int y_] G vwCl (tyl cs) L f sz (fun _ => True)) (va_Qi (fun r u => L = u.1 ∧ r = (sR_says (t, lm, nN, nM, A, Bq) n_ c_ y_).1 ∧ ∃ rs' lk', RSx cs u.1 u.2 ad (sR_says (t, lm, nN, nM, A, Bq) n_ c_ y_).2 rs' lk') (pc_B G vwCl L sz) (pw_A L sz)) 0 0 (pw_A L sz) := by
  refine Met.ofW (cc := cX4_says) (maxL := 5) (ret := (some FieldType.boolean)) (by decide) rfl ?_
  intro p e s m args below meth c s₁ B hml hv
  obtain ⟨rfl, hsz, hP, hK, hD0, hX⟩ := hv
  have hx := B.exec
  have hb := B.bytes
  have hr := B.returns
  have hts0 := atoms_spec (ws := (Cond.code yX4_says cX4_says 5 (some FieldType.boolean) :: wg)) B.pre
  have hts := fun (w : Cond) (h : w ∈ wg) => hts0 w (List.mem_cons_of_mem _ h)
  have hown : s.vm.findClass RX4 = some m.cls := findClass_of_methodNamed B.named
  have hlocks := B.notSynchronized
  subst hsz
  have hD := pw_selfD (sz := s.heap.size) hD0
  have hA : ∀ q : Nat, s.heap.size ≤ q → pw_A L s.heap.size q := fun q h => Or.inr h
  have hS : va_S (pw_A L s.heap.size) s.heap s.heap [] := va_S.rf
  have hl := lv_entry ([.ref (ad 0), .int n_, .int c_, .int y_]) (n := 5) (Nat.le_of_ble_eq_true rfl)
  rw [lg_entry_eq]
  generalize (lg_sl ([.ref (ad 0), .int n_, .int c_, .int y_]) ++ List.replicate (5 - (lg_sl ([.ref (ad 0), .int n_, .int c_, .int y_])).length) Slot.unset).toArray = ls at hl ⊢
  have hl : lv_has ls 5 [(0, .ref (ad 0)), (1, .int n_), (2, .int c_), (3, .int y_)] := hl
  have hN6 := h0.nN6
  have hM12 := h0.nM12
  have m0 := h0.mem 0 (by decide)
  have e0 := h0.e0
  have m5 := h0.mem 5 (by decide)
  have e5 : f (ad 5) = .inl (cs 2, 36, .inl (A 5)) := h0.ea 5 (by decide) (by decide)
  have m8 := h0.mem 8 (by decide)
  have e8 : f (ad 8) = .inl (cs 0, 36, .inl (A 8)) := h0.ea 8 (by decide) (by decide)
  refine lv_aload_n hx hb dX4_says_0 rfl (lv_at hl 0 rfl) ?_
  refine lv_iload_n hx hb dX4_says_1 rfl (lv_at hl 1 rfl) ?_
  refine pr_callVi (As := [.int n_]) (rest := []) ⟨hx, hb, hml, hown, hts⟩ (k_R_isN l G cs L f ad t lm nN nM rs lk A Bq n_ h0) (cwV 1 hts (wg_V mw_419 mw_421 ms_11 mw_3 mw_422) rfl rfl rfl (by decide +kernel) ⟨Nat.le_of_ble_eq_true rfl, Nat.le_of_ble_eq_true rfl⟩) hK hP m0 e0 rfl px_T (fun _ _ _ => trivial) rfl hl.1 rfl (lv_room (Nat.le_of_ble_eq_true rfl)) dX4_says_2 ⟨Nat.le_of_ble_eq_true rfl, Nat.le_of_ble_eq_true rfl⟩ (fun r_1 hr_1 => ?_)
  rcases sp_in_cases (m := nN) (by omega) n_ with ⟨hxi, hsi⟩ | ⟨i, hi, eni, hxi, hsi⟩
  · obtain rfl : r_1 = 0 := by rw [hr_1, hsi]
    refine lv_if_eq (tgt := 15) hx hb dX4_says_5 (by decide) (fun c_5 => ?_) (fun c_5 => ?_)
    · refine lv_iconst (v := 0) hx hb dX4_says_15 (by decide) ?_
      have hsp : sR_says (t, lm, nN, nM, A, Bq) n_ c_ y_ = (0, (t, lm, nN, nM, A, Bq)) := by simp [sR_says, hxi]
      exact pc_retz hx hb hr rfl hlocks hP hD hS dX4_says_16 ⟨rfl, by rw [hsp], rs, lk, by rw [hsp]; exact h0⟩
    · exact absurd c_5 (by decide)
  · obtain rfl : r_1 = 1 := by rw [hr_1, hsi]
    subst eni
    refine lv_if_eq (tgt := 15) hx hb dX4_says_5 (by decide) (fun c_5 => ?_) (fun c_5 => ?_)
    · exact absurd c_5 (by decide)
    · refine lv_iload_n hx hb dX4_says_8 rfl (lv_at hl 2 rfl) ?_
      refine pr_callSi (As := [.int c_]) (rest := []) ⟨hx, hb, hml, hown, hts⟩ (k_R_isC l G cs L f c_) (cwS 1 hts (wg_S mw_423 mw_424 mw_3 mw_425) rfl rfl rfl (by decide +kernel) ⟨Nat.le_of_ble_eq_true rfl, Nat.le_of_ble_eq_true rfl⟩) hK hP px_T (fun _ _ _ => trivial) rfl hl.1 rfl (lv_room (Nat.le_of_ble_eq_true rfl)) dX4_says_9 ⟨Nat.le_of_ble_eq_true rfl, Nat.le_of_ble_eq_true rfl⟩ (fun r_2 hr_2 => ?_)
      rcases sp_in_cases (m := 6) (by decide) c_ with ⟨hxu, hsu⟩ | ⟨u, hu, enu, hxu, hsu⟩
      · obtain rfl : r_2 = 0 := by rw [hr_2, hsu]
        refine lv_if_ne (tgt := 17) hx hb dX4_says_12 (by decide) (fun c_12 => ?_) (fun c_12 => ?_)
        · exact absurd c_12 (by decide)
        · refine lv_iconst (v := 0) hx hb dX4_says_15 (by decide) ?_
          have hsp : sR_says (t, lm, nN, nM, A, Bq) (nI i) c_ y_ = (0, (t, lm, nN, nM, A, Bq)) := by simp [sR_says, hxi, hxu]
          exact pc_retz hx hb hr rfl hlocks hP hD hS dX4_says_16 ⟨rfl, by rw [hsp], rs, lk, by rw [hsp]; exact h0⟩
      · obtain rfl : r_2 = 1 := by rw [hr_2, hsu]
        subst enu
        refine lv_if_ne (tgt := 17) hx hb dX4_says_12 (by decide) (fun c_12 => ?_) (fun c_12 => ?_)
        · refine lv_bipush (v := 6) hx hb dX4_says_17 (by decide) ?_
          refine lv_iload_n hx hb dX4_says_19 rfl (lv_at hl 1 rfl) ?_
          refine lv_imul hx hb dX4_says_20 ?_
          refine lv_iload_n hx hb dX4_says_21 rfl (lv_at hl 2 rfl) ?_
          refine lv_iadd hx hb dX4_says_22 ?_
          have eix23 : (6 * (nI i)) + (nI u) = nI (6 * i + u) := ld6 i u
          rw [eix23]
          refine lv_istore (lv' := [(4, .int (nI (6 * i + u))), (0, .ref (ad 0)), (1, .int (nI i)), (2, .int (nI u)), (3, .int y_)]) hx hb dX4_says_23 hl (by decide) rfl (fun ls hl => ?_)
          refine lv_aload_n hx hb dX4_says_25 rfl (lv_at hl 1 rfl) ?_
          refine pw_get (ci := 4) (C := RX4) (T := TX4) (N := 23) hx hb hts inX4 hown hK hP m0 e0 rfl 6 (by decide) (hts _ mw_333) (fun _ h9 => h9) rfl dX4_says_26 ?_
          refine lv_iload hx hb dX4_says_29 (lv_at hl 0 rfl) ?_
          refine pw_zaldN (k := 6 * i + u) hx hb hK hP m5 2 e5 rfl (by omega) (by decide) dX4_says_31 ?_
          refine lv_if_eq (tgt := 58) hx hb dX4_says_32 (by decide) (fun c_32 => ?_) (fun c_32 => ?_)
          · refine lv_iconst (v := 0) hx hb dX4_says_58 (by decide) ?_
            have hsp : sR_says (t, lm, nN, nM, A, Bq) (nI i) (nI u) y_ = (0, (t, lm, nN, nM, A, Bq)) := by simp [sR_says, hxi, hxu, c_32]
            exact pc_retz hx hb hr rfl hlocks hP hD hS dX4_says_59 ⟨rfl, by rw [hsp], rs, lk, by rw [hsp]; exact h0⟩
          · refine lv_aload_n hx hb dX4_says_35 rfl (lv_at hl 1 rfl) ?_
            refine pw_get (ci := 4) (C := RX4) (T := TX4) (N := 23) hx hb hts inX4 hown hK hP m0 e0 rfl 9 (by decide) (hts _ mw_336) (fun _ h9 => h9) rfl dX4_says_36 ?_
            refine lv_iload hx hb dX4_says_39 (lv_at hl 0 rfl) ?_
            refine pw_ialdN (k := 6 * i + u) hx hb hK hP m8 0 e8 rfl (by omega) (by decide) dX4_says_41 ?_
            refine lv_if_ne (tgt := 58) hx hb dX4_says_42 (by decide) (fun c_42 => ?_) (fun c_42 => ?_)
            · refine lv_iconst (v := 0) hx hb dX4_says_58 (by decide) ?_
              have hsp : sR_says (t, lm, nN, nM, A, Bq) (nI i) (nI u) y_ = (0, (t, lm, nN, nM, A, Bq)) := by simp [sR_says, hxi, hxu, c_32, c_42]
              exact pc_retz hx hb hr rfl hlocks hP hD hS dX4_says_59 ⟨rfl, by rw [hsp], rs, lk, by rw [hsp]; exact h0⟩
            · refine lv_aload_n hx hb dX4_says_45 rfl (lv_at hl 1 rfl) ?_
              refine lv_iload hx hb dX4_says_46 (lv_at hl 0 rfl) ?_
              refine lv_aload_n hx hb dX4_says_48 rfl (lv_at hl 1 rfl) ?_
              refine pw_get (ci := 4) (C := RX4) (T := TX4) (N := 23) hx hb hts inX4 hown hK hP m0 e0 rfl 0 (by decide) (hts _ mw_327) (fun _ h9 => h9) rfl dX4_says_49 ?_
              refine pr_callVi (As := [.int (nI (6 * i + u)), .int t]) (rest := []) ⟨hx, hb, hml, hown, hts⟩ (k_R_sil l G cs L f ad t lm nN nM rs lk A Bq (6 * i + u) t h0 (by omega)) (cwV 2 hts (wg_V mw_406 mw_408 ms_10 mw_3 mw_409) rfl rfl rfl (by decide +kernel) ⟨Nat.le_of_ble_eq_true rfl, Nat.le_of_ble_eq_true rfl⟩) hK hP m0 e0 rfl px_T (fun _ _ _ => trivial) rfl hl.1 rfl (lv_room (Nat.le_of_ble_eq_true rfl)) dX4_says_52 ⟨Nat.le_of_ble_eq_true rfl, Nat.le_of_ble_eq_true rfl⟩ (fun r_3 hr_3 => ?_)
              subst hr_3
              refine lv_if_eq (tgt := 60) hx hb dX4_says_55 (by decide) (fun c_55 => ?_) (fun c_55 => ?_)
              · refine lv_aload_n hx hb dX4_says_60 rfl (lv_at hl 1 rfl) ?_
                refine pw_get (ci := 4) (C := RX4) (T := TX4) (N := 23) hx hb hts inX4 hown hK hP m0 e0 rfl 9 (by decide) (hts _ mw_336) (fun _ h9 => h9) rfl dX4_says_61 ?_
                refine lv_iload hx hb dX4_says_64 (lv_at hl 0 rfl) ?_
                refine lv_iload_n hx hb dX4_says_66 rfl (lv_at hl 4 rfl) ?_
                refine lv_if_eq (tgt := 74) hx hb dX4_says_67 (by decide) (fun c_67 => ?_) (fun c_67 => ?_)
                · refine lv_iconst (v := 2) hx hb dX4_says_74 (by decide) ?_
                  refine pw_iastN (k := 6 * i + u) hx hb hK hP hD hS m8 0 e8 rfl (by omega) (by decide) dX4_says_75 (fun H locs hP hD hS => ?_)
                  obtain ⟨f_4, ef_4⟩ : ∃ zz : Nat → va_E, zz = va_up f (ad 8) (.inl (cs 0, 36, .inl (upd (A 8) (6 * i + u) 2))) := ⟨_, rfl⟩
                  have hP : va_P G vwCl (va_pl L f_4) H := by rw [ef_4]; exact hP
                  have hD : va_D (pw_A L s.heap.size) (va_pl L f_4) := by rw [ef_4]; exact hD
                  have hf_4_ad_0 := (show f_4 (ad 0) = f (ad 0) by rw [ef_4]; exact va_up_ne _ _ (h0.ne 0 8 (by decide) (by decide) (by decide))).trans e0
                  have hf_4_ad_5 := (show f_4 (ad 5) = f (ad 5) by rw [ef_4]; exact va_up_ne _ _ (h0.ne 5 8 (by decide) (by decide) (by decide))).trans e5
                  have hf_4_ad_8 : f_4 (ad 8) = .inl (cs 0, 36, .inl (upd (A 8) (6 * i + u) 2)) := by rw [ef_4]; exact va_up_self _ _ _
                  have qf_4 : RS cs L f_4 ad t lm nN nM rs lk (rA A 8 (6 * i + u) 2) Bq := by rw [ef_4]; exact h0.setA 8 (6 * i + u) 2 (by decide) (by decide)
                  refine lv_iconst (v := 1) hx hb dX4_says_76 (by decide) ?_
                  have hsp : sR_says (t, lm, nN, nM, A, Bq) (nI i) (nI u) y_ = (1, (t, lm, nN, nM, rA A 8 (6 * i + u) 2, Bq)) := by simp [sR_says, hxi, hxu, c_32, c_42, c_55, c_67]
                  exact pc_retz hx hb hr rfl hlocks hP hD hS dX4_says_77 ⟨rfl, by rw [hsp], rs, lk, by rw [hsp]; exact qf_4⟩
                · refine lv_iconst (v := 1) hx hb dX4_says_70 (by decide) ?_
                  refine lv_goto (tgt := 75) hx hb dX4_says_71 (by decide) ?_
                  refine pw_iastN (k := 6 * i + u) hx hb hK hP hD hS m8 0 e8 rfl (by omega) (by decide) dX4_says_75 (fun H locs hP hD hS => ?_)
                  obtain ⟨f_5, ef_5⟩ : ∃ zz : Nat → va_E, zz = va_up f (ad 8) (.inl (cs 0, 36, .inl (upd (A 8) (6 * i + u) 1))) := ⟨_, rfl⟩
                  have hP : va_P G vwCl (va_pl L f_5) H := by rw [ef_5]; exact hP
                  have hD : va_D (pw_A L s.heap.size) (va_pl L f_5) := by rw [ef_5]; exact hD
                  have hf_5_ad_0 := (show f_5 (ad 0) = f (ad 0) by rw [ef_5]; exact va_up_ne _ _ (h0.ne 0 8 (by decide) (by decide) (by decide))).trans e0
                  have hf_5_ad_5 := (show f_5 (ad 5) = f (ad 5) by rw [ef_5]; exact va_up_ne _ _ (h0.ne 5 8 (by decide) (by decide) (by decide))).trans e5
                  have hf_5_ad_8 : f_5 (ad 8) = .inl (cs 0, 36, .inl (upd (A 8) (6 * i + u) 1)) := by rw [ef_5]; exact va_up_self _ _ _
                  have qf_5 : RS cs L f_5 ad t lm nN nM rs lk (rA A 8 (6 * i + u) 1) Bq := by rw [ef_5]; exact h0.setA 8 (6 * i + u) 1 (by decide) (by decide)
                  refine lv_iconst (v := 1) hx hb dX4_says_76 (by decide) ?_
                  have hsp : sR_says (t, lm, nN, nM, A, Bq) (nI i) (nI u) y_ = (1, (t, lm, nN, nM, rA A 8 (6 * i + u) 1, Bq)) := by simp [sR_says, hxi, hxu, c_32, c_42, c_55, c_67]
                  exact pc_retz hx hb hr rfl hlocks hP hD hS dX4_says_77 ⟨rfl, by rw [hsp], rs, lk, by rw [hsp]; exact qf_5⟩
              · refine lv_iconst (v := 0) hx hb dX4_says_58 (by decide) ?_
                have hsp : sR_says (t, lm, nN, nM, A, Bq) (nI i) (nI u) y_ = (0, (t, lm, nN, nM, A, Bq)) := by simp [sR_says, hxi, hxu, c_32, c_42, c_55]
                exact pc_retz hx hb hr rfl hlocks hP hD hS dX4_says_59 ⟨rfl, by rw [hsp], rs, lk, by rw [hsp]; exact h0⟩
        · exact absurd c_12 (by decide)

set_option maxHeartbeats 4000000 in
set_option maxRecDepth 100000 in
theorem k_R_notice (l : Launch) (G : va_G) (cs : Nat → ClassId) (L : List Nat) (f : Nat → va_E) (sz : Nat) (ad : Nat → Nat) (t lm : Int32) (nN nM : Nat) (rs lk : Int32) (A : RA) (Bq : RB) (g_ : Int64) (f_ t_ : Int32) (h0 : RS cs L f ad t lm nN nM rs lk A Bq) : Met l yX4_notice (Cond.code yX4_notice cX4_notice 5 (some FieldType.int) :: wg) ({ frames := 1, cells := 0, slots := 0, locals := 25 }) (pc_P [.ref (ad 0), .long g_, .int f_, .int t_] G vwCl (tyl cs) L f sz (fun _ => True)) (va_Qi (fun r u => L = u.1 ∧ r = (sR_notice (t, lm, nN, nM, A, Bq) g_ f_ t_).1 ∧ ∃ rs' lk', RSx cs u.1 u.2 ad (sR_notice (t, lm, nN, nM, A, Bq) g_ f_ t_).2 rs' lk') (pc_B G vwCl L sz) (pw_A L sz)) 0 0 (pw_A L sz) := by
  refine Met.ofW (cc := cX4_notice) (maxL := 5) (ret := (some FieldType.int)) (by decide) rfl ?_
  intro p e s m args below meth c s₁ B hml hv
  obtain ⟨rfl, hsz, hP, hK, hD0, hX⟩ := hv
  have hx := B.exec
  have hb := B.bytes
  have hr := B.returns
  have hts0 := atoms_spec (ws := (Cond.code yX4_notice cX4_notice 5 (some FieldType.int) :: wg)) B.pre
  have hts := fun (w : Cond) (h : w ∈ wg) => hts0 w (List.mem_cons_of_mem _ h)
  have hown : s.vm.findClass RX4 = some m.cls := findClass_of_methodNamed B.named
  have hlocks := B.notSynchronized
  subst hsz
  have hD := pw_selfD (sz := s.heap.size) hD0
  have hA : ∀ q : Nat, s.heap.size ≤ q → pw_A L s.heap.size q := fun q h => Or.inr h
  have hS : va_S (pw_A L s.heap.size) s.heap s.heap [] := va_S.rf
  have hl := lv_entry ([.ref (ad 0), .long g_, .int f_, .int t_]) (n := 5) (Nat.le_of_ble_eq_true rfl)
  rw [lg_entry_eq]
  generalize (lg_sl ([.ref (ad 0), .long g_, .int f_, .int t_]) ++ List.replicate (5 - (lg_sl ([.ref (ad 0), .long g_, .int f_, .int t_])).length) Slot.unset).toArray = ls at hl ⊢
  have hl : lv_has ls 5 [(0, .ref (ad 0)), (1, .long g_), (3, .int f_), (4, .int t_)] := hl
  have hN6 := h0.nN6
  have hM12 := h0.nM12
  have m0 := h0.mem 0 (by decide)
  have e0 := h0.e0
  have m1 := h0.mem 1 (by decide)
  have e1 : f (ad 1) = .inl (cs 3, 6, .inr (.inl (Bq 1))) := h0.ea 1 (by decide) (by decide)
  have m2 := h0.mem 2 (by decide)
  have e2 : f (ad 2) = .inl (cs 0, 6, .inl (A 2)) := h0.ea 2 (by decide) (by decide)
  have m3 := h0.mem 3 (by decide)
  have e3 : f (ad 3) = .inl (cs 0, 6, .inl (A 3)) := h0.ea 3 (by decide) (by decide)
  refine lv_aload_n hx hb dX4_notice_0 rfl (lv_at hl 0 rfl) ?_
  refine pw_get (ci := 4) (C := RX4) (T := TX4) (N := 23) hx hb hts inX4 hown hK hP m0 e0 rfl 1 (by decide) (hts _ mw_328) (fun _ h9 => h9) rfl dX4_notice_1 ?_
  refine lv_bipush (v := 6) hx hb dX4_notice_4 (by decide) ?_
  refine lv_icmp_eq (tgt := 46) hx hb dX4_notice_6 (by decide) (fun c_6 => ?_) (fun c_6 => ?_)
  · have d_6 : nN = 6 := (nI_eq (a := nN) (b := 6) (by omega) (by decide)).mp c_6
    refine lv_iconst (v := (-1)) hx hb dX4_notice_46 (by decide) ?_
    have hsp : sR_notice (t, lm, nN, nM, A, Bq) g_ f_ t_ = ((-1), (t, lm, nN, nM, A, Bq)) := by simp [sR_notice, d_6]
    exact pc_reti hx hb hr hlocks hP hD hS dX4_notice_47 ⟨rfl, by rw [hsp], rs, lk, by rw [hsp]; exact h0⟩
  · have d_6 : ¬ nN = 6 := fun z => c_6 ((nI_eq (a := nN) (b := 6) (by omega) (by decide)).mpr z)
    refine lv_lload_n hx hb dX4_notice_9 rfl (lv_at hl 1 rfl) ?_
    refine lv_lconst (v := 1) hx hb dX4_notice_10 (by decide) ?_
    refine lv_ldc2 hx hb hown (hts _ mw_414) dX4_notice_11 ?_
    refine pr_callSi (As := [.long g_, .long 1, .long 1000000000]) (rest := []) ⟨hx, hb, hml, hown, hts⟩ (k_R_isIn l G cs L f g_ 1 1000000000) (cwS 3 hts (wg_S mw_403 mw_404 mw_3 mw_405) rfl rfl rfl (by decide +kernel) ⟨Nat.le_of_ble_eq_true rfl, Nat.le_of_ble_eq_true rfl⟩) hK hP px_T (fun _ _ _ => trivial) rfl hl.1 rfl (lv_room (Nat.le_of_ble_eq_true rfl)) dX4_notice_14 ⟨Nat.le_of_ble_eq_true rfl, Nat.le_of_ble_eq_true rfl⟩ (fun r_1 hr_1 => ?_)
    subst hr_1
    refine lv_if_eq (tgt := 46) hx hb dX4_notice_17 (by decide) (fun c_17 => ?_) (fun c_17 => ?_)
    · refine lv_iconst (v := (-1)) hx hb dX4_notice_46 (by decide) ?_
      have hsp : sR_notice (t, lm, nN, nM, A, Bq) g_ f_ t_ = ((-1), (t, lm, nN, nM, A, Bq)) := by simp [sR_notice, d_6, c_17]
      exact pc_reti hx hb hr hlocks hP hD hS dX4_notice_47 ⟨rfl, by rw [hsp], rs, lk, by rw [hsp]; exact h0⟩
    · refine lv_iload_n hx hb dX4_notice_20 rfl (lv_at hl 2 rfl) ?_
      refine lv_i2l hx hb dX4_notice_21 rfl ?_
      refine lv_lconst (v := 0) hx hb dX4_notice_22 (by decide) ?_
      refine lv_ldc2 hx hb hown (hts _ mw_402) dX4_notice_23 ?_
      refine pr_callSi (As := [.long f_.toInt64, .long 0, .long 100000]) (rest := []) ⟨hx, hb, hml, hown, hts⟩ (k_R_isIn l G cs L f f_.toInt64 0 100000) (cwS 3 hts (wg_S mw_403 mw_404 mw_3 mw_405) rfl rfl rfl (by decide +kernel) ⟨Nat.le_of_ble_eq_true rfl, Nat.le_of_ble_eq_true rfl⟩) hK hP px_T (fun _ _ _ => trivial) rfl hl.1 rfl (lv_room (Nat.le_of_ble_eq_true rfl)) dX4_notice_26 ⟨Nat.le_of_ble_eq_true rfl, Nat.le_of_ble_eq_true rfl⟩ (fun r_2 hr_2 => ?_)
      subst hr_2
      refine lv_if_eq (tgt := 46) hx hb dX4_notice_29 (by decide) (fun c_29 => ?_) (fun c_29 => ?_)
      · refine lv_iconst (v := (-1)) hx hb dX4_notice_46 (by decide) ?_
        have hsp : sR_notice (t, lm, nN, nM, A, Bq) g_ f_ t_ = ((-1), (t, lm, nN, nM, A, Bq)) := by simp [sR_notice, d_6, c_17, c_29]
        exact pc_reti hx hb hr hlocks hP hD hS dX4_notice_47 ⟨rfl, by rw [hsp], rs, lk, by rw [hsp]; exact h0⟩
      · refine lv_iload hx hb dX4_notice_32 (lv_at hl 3 rfl) ?_
        refine lv_i2l hx hb dX4_notice_34 rfl ?_
        refine lv_iload_n hx hb dX4_notice_35 rfl (lv_at hl 2 rfl) ?_
        refine lv_i2l hx hb dX4_notice_36 rfl ?_
        refine lv_ldc2 hx hb hown (hts _ mw_402) dX4_notice_37 ?_
        refine pr_callSi (As := [.long t_.toInt64, .long f_.toInt64, .long 100000]) (rest := []) ⟨hx, hb, hml, hown, hts⟩ (k_R_isIn l G cs L f t_.toInt64 f_.toInt64 100000) (cwS 3 hts (wg_S mw_403 mw_404 mw_3 mw_405) rfl rfl rfl (by decide +kernel) ⟨Nat.le_of_ble_eq_true rfl, Nat.le_of_ble_eq_true rfl⟩) hK hP px_T (fun _ _ _ => trivial) rfl hl.1 rfl (lv_room (Nat.le_of_ble_eq_true rfl)) dX4_notice_40 ⟨Nat.le_of_ble_eq_true rfl, Nat.le_of_ble_eq_true rfl⟩ (fun r_3 hr_3 => ?_)
        subst hr_3
        refine lv_if_ne (tgt := 48) hx hb dX4_notice_43 (by decide) (fun c_43 => ?_) (fun c_43 => ?_)
        · refine lv_aload_n hx hb dX4_notice_48 rfl (lv_at hl 0 rfl) ?_
          refine pw_get (ci := 4) (C := RX4) (T := TX4) (N := 23) hx hb hts inX4 hown hK hP m0 e0 rfl 2 (by decide) (hts _ mw_329) (fun _ h9 => h9) rfl dX4_notice_49 ?_
          refine lv_aload_n hx hb dX4_notice_52 rfl (lv_at hl 0 rfl) ?_
          refine pw_get (ci := 4) (C := RX4) (T := TX4) (N := 23) hx hb hts inX4 hown hK hP m0 e0 rfl 1 (by decide) (hts _ mw_328) (fun _ h9 => h9) rfl dX4_notice_53 ?_
          refine lv_lload_n hx hb dX4_notice_56 rfl (lv_at hl 1 rfl) ?_
          refine pw_lastN (k := nN) hx hb hK hP hD hS m1 3 e1 rfl (by omega) (by decide) dX4_notice_57 (fun H locs hP hD hS => ?_)
          obtain ⟨f_4, ef_4⟩ : ∃ zz : Nat → va_E, zz = va_up f (ad 1) (.inl (cs 3, 6, .inr (.inl (vp_updL (Bq 1) nN g_)))) := ⟨_, rfl⟩
          have hP : va_P G vwCl (va_pl L f_4) H := by rw [ef_4]; exact hP
          have hD : va_D (pw_A L s.heap.size) (va_pl L f_4) := by rw [ef_4]; exact hD
          have hf_4_ad_0 := (show f_4 (ad 0) = f (ad 0) by rw [ef_4]; exact va_up_ne _ _ (h0.ne 0 1 (by decide) (by decide) (by decide))).trans e0
          have hf_4_ad_1 : f_4 (ad 1) = .inl (cs 3, 6, .inr (.inl (vp_updL (Bq 1) nN g_))) := by rw [ef_4]; exact va_up_self _ _ _
          have hf_4_ad_2 := (show f_4 (ad 2) = f (ad 2) by rw [ef_4]; exact va_up_ne _ _ (h0.ne 2 1 (by decide) (by decide) (by decide))).trans e2
          have hf_4_ad_3 := (show f_4 (ad 3) = f (ad 3) by rw [ef_4]; exact va_up_ne _ _ (h0.ne 3 1 (by decide) (by decide) (by decide))).trans e3
          have qf_4 : RS cs L f_4 ad t lm nN nM rs lk A (rB Bq 1 nN g_) := by rw [ef_4]; exact h0.setB 1 nN g_ (by decide) (by decide)
          refine lv_aload_n hx hb dX4_notice_58 rfl (lv_at hl 0 rfl) ?_
          refine pw_get (ci := 4) (C := RX4) (T := TX4) (N := 23) hx hb hts inX4 hown hK hP m0 hf_4_ad_0 rfl 3 (by decide) (hts _ mw_330) (fun _ h9 => h9) rfl dX4_notice_59 ?_
          refine lv_aload_n hx hb dX4_notice_62 rfl (lv_at hl 0 rfl) ?_
          refine pw_get (ci := 4) (C := RX4) (T := TX4) (N := 23) hx hb hts inX4 hown hK hP m0 hf_4_ad_0 rfl 1 (by decide) (hts _ mw_328) (fun _ h9 => h9) rfl dX4_notice_63 ?_
          refine lv_iload_n hx hb dX4_notice_66 rfl (lv_at hl 2 rfl) ?_
          refine pw_iastN (k := nN) hx hb hK hP hD hS m2 0 hf_4_ad_2 rfl (by omega) (by decide) dX4_notice_67 (fun H locs hP hD hS => ?_)
          obtain ⟨f_5, ef_5⟩ : ∃ zz : Nat → va_E, zz = va_up f_4 (ad 2) (.inl (cs 0, 6, .inl (upd (A 2) nN f_))) := ⟨_, rfl⟩
          have hP : va_P G vwCl (va_pl L f_5) H := by rw [ef_5]; exact hP
          have hD : va_D (pw_A L s.heap.size) (va_pl L f_5) := by rw [ef_5]; exact hD
          have hf_5_ad_0 := (show f_5 (ad 0) = f_4 (ad 0) by rw [ef_5]; exact va_up_ne _ _ (h0.ne 0 2 (by decide) (by decide) (by decide))).trans hf_4_ad_0
          have hf_5_ad_1 := (show f_5 (ad 1) = f_4 (ad 1) by rw [ef_5]; exact va_up_ne _ _ (h0.ne 1 2 (by decide) (by decide) (by decide))).trans hf_4_ad_1
          have hf_5_ad_2 : f_5 (ad 2) = .inl (cs 0, 6, .inl (upd (A 2) nN f_)) := by rw [ef_5]; exact va_up_self _ _ _
          have hf_5_ad_3 := (show f_5 (ad 3) = f_4 (ad 3) by rw [ef_5]; exact va_up_ne _ _ (h0.ne 3 2 (by decide) (by decide) (by decide))).trans hf_4_ad_3
          have qf_5 : RS cs L f_5 ad t lm nN nM rs lk (rA A 2 nN f_) (rB Bq 1 nN g_) := by rw [ef_5]; exact qf_4.setA 2 nN f_ (by decide) (by decide)
          refine lv_aload_n hx hb dX4_notice_68 rfl (lv_at hl 0 rfl) ?_
          refine pw_get (ci := 4) (C := RX4) (T := TX4) (N := 23) hx hb hts inX4 hown hK hP m0 hf_5_ad_0 rfl 4 (by decide) (hts _ mw_331) (fun _ h9 => h9) rfl dX4_notice_69 ?_
          refine lv_aload_n hx hb dX4_notice_72 rfl (lv_at hl 0 rfl) ?_
          refine pw_get (ci := 4) (C := RX4) (T := TX4) (N := 23) hx hb hts inX4 hown hK hP m0 hf_5_ad_0 rfl 1 (by decide) (hts _ mw_328) (fun _ h9 => h9) rfl dX4_notice_73 ?_
          refine lv_iload hx hb dX4_notice_76 (lv_at hl 3 rfl) ?_
          refine pw_iastN (k := nN) hx hb hK hP hD hS m3 0 hf_5_ad_3 rfl (by omega) (by decide) dX4_notice_78 (fun H locs hP hD hS => ?_)
          obtain ⟨f_6, ef_6⟩ : ∃ zz : Nat → va_E, zz = va_up f_5 (ad 3) (.inl (cs 0, 6, .inl (upd (A 3) nN t_))) := ⟨_, rfl⟩
          have hP : va_P G vwCl (va_pl L f_6) H := by rw [ef_6]; exact hP
          have hD : va_D (pw_A L s.heap.size) (va_pl L f_6) := by rw [ef_6]; exact hD
          have hf_6_ad_0 := (show f_6 (ad 0) = f_5 (ad 0) by rw [ef_6]; exact va_up_ne _ _ (h0.ne 0 3 (by decide) (by decide) (by decide))).trans hf_5_ad_0
          have hf_6_ad_1 := (show f_6 (ad 1) = f_5 (ad 1) by rw [ef_6]; exact va_up_ne _ _ (h0.ne 1 3 (by decide) (by decide) (by decide))).trans hf_5_ad_1
          have hf_6_ad_2 := (show f_6 (ad 2) = f_5 (ad 2) by rw [ef_6]; exact va_up_ne _ _ (h0.ne 2 3 (by decide) (by decide) (by decide))).trans hf_5_ad_2
          have hf_6_ad_3 : f_6 (ad 3) = .inl (cs 0, 6, .inl (upd (A 3) nN t_)) := by rw [ef_6]; exact va_up_self _ _ _
          have qf_6 : RS cs L f_6 ad t lm nN nM rs lk (rA (rA A 2 nN f_) 3 nN t_) (rB Bq 1 nN g_) := by rw [ef_6]; exact qf_5.setA 3 nN t_ (by decide) (by decide)
          refine lv_aload_n hx hb dX4_notice_79 rfl (lv_at hl 0 rfl) ?_
          refine lv_dup hx hb dX4_notice_80 rfl ?_
          refine pw_get (ci := 4) (C := RX4) (T := TX4) (N := 23) hx hb hts inX4 hown hK hP m0 hf_6_ad_0 rfl 1 (by decide) (hts _ mw_328) (fun _ h9 => h9) rfl dX4_notice_81 ?_
          refine lv_iconst (v := 1) hx hb dX4_notice_84 (by decide) ?_
          refine lv_iadd hx hb dX4_notice_85 ?_
          have eix86 : (nI nN) + 1 = nI (nN + 1) := nI_1 nN
          rw [eix86]
          refine pw_put (ty := .int) (ci := 4) (v := .int (nI (nN + 1))) (C := RX4) (T := TX4) (N := 23) hx hb hts inX4 tyX4 tyX4_ok nmX4 hown hK hP hD hS m0 hf_6_ad_0 rfl 1 (by decide) (hts _ mw_328) (fun _ h9 => h9) rfl (by decide +kernel) rfl rfl (Nat.le_of_ble_eq_true rfl) dX4_notice_86 (fun H locs hP hD hS => ?_)
          obtain ⟨f_7, ef_7⟩ : ∃ zz : Nat → va_E, zz = va_up f_6 (ad 0) (.inr (4, [.int t, .int (nI (nN + 1)), .ref (ad 1), .ref (ad 2), .ref (ad 3), .ref (ad 4), .ref (ad 5), .ref (ad 6), .ref (ad 7), .ref (ad 8), .int (nI nM), .ref (ad 9), .ref (ad 10), .ref (ad 11), .ref (ad 12), .ref (ad 13), .ref (ad 14), .ref (ad 15), .ref (ad 16), .ref (ad 17), .int lm, .int rs, .int lk])) := ⟨_, rfl⟩
          have hP : va_P G vwCl (va_pl L f_7) H := by rw [ef_7]; exact hP
          have hD : va_D (pw_A L s.heap.size) (va_pl L f_7) := by rw [ef_7]; exact hD
          have hf_7_ad_0 : f_7 (ad 0) = .inr (4, [.int t, .int (nI (nN + 1)), .ref (ad 1), .ref (ad 2), .ref (ad 3), .ref (ad 4), .ref (ad 5), .ref (ad 6), .ref (ad 7), .ref (ad 8), .int (nI nM), .ref (ad 9), .ref (ad 10), .ref (ad 11), .ref (ad 12), .ref (ad 13), .ref (ad 14), .ref (ad 15), .ref (ad 16), .ref (ad 17), .int lm, .int rs, .int lk]) := by rw [ef_7]; exact va_up_self _ _ _
          have hf_7_ad_1 := (show f_7 (ad 1) = f_6 (ad 1) by rw [ef_7]; exact va_up_ne _ _ (h0.ne 1 0 (by decide) (by decide) (by decide))).trans hf_6_ad_1
          have hf_7_ad_2 := (show f_7 (ad 2) = f_6 (ad 2) by rw [ef_7]; exact va_up_ne _ _ (h0.ne 2 0 (by decide) (by decide) (by decide))).trans hf_6_ad_2
          have hf_7_ad_3 := (show f_7 (ad 3) = f_6 (ad 3) by rw [ef_7]; exact va_up_ne _ _ (h0.ne 3 0 (by decide) (by decide) (by decide))).trans hf_6_ad_3
          have qf_7 : RS cs L f_7 ad t lm (nN + 1) nM rs lk (rA (rA A 2 nN f_) 3 nN t_) (rB Bq 1 nN g_) := by rw [ef_7]; exact qf_6.main t lm (nN + 1) nM rs lk (by omega) (by omega)
          refine lv_aload_n hx hb dX4_notice_89 rfl (lv_at hl 0 rfl) ?_
          refine pw_get (ci := 4) (C := RX4) (T := TX4) (N := 23) hx hb hts inX4 hown hK hP m0 hf_7_ad_0 rfl 1 (by decide) (hts _ mw_328) (fun _ h9 => h9) rfl dX4_notice_90 ?_
          refine lv_iconst (v := 1) hx hb dX4_notice_93 (by decide) ?_
          refine lv_isub hx hb dX4_notice_94 ?_
          have eix95 : (nI (nN + 1)) - 1 = nI nN := nI_pred nN
          rw [eix95]
          have hsp : sR_notice (t, lm, nN, nM, A, Bq) g_ f_ t_ = (nI nN, (t, lm, (nN + 1), nM, rA (rA A 2 nN f_) 3 nN t_, rB Bq 1 nN g_)) := by simp [sR_notice, d_6, c_17, c_29, c_43]
          exact pc_reti hx hb hr hlocks hP hD hS dX4_notice_95 ⟨rfl, by rw [hsp], rs, lk, by rw [hsp]; exact qf_7⟩
        · refine lv_iconst (v := (-1)) hx hb dX4_notice_46 (by decide) ?_
          have hsp : sR_notice (t, lm, nN, nM, A, Bq) g_ f_ t_ = ((-1), (t, lm, nN, nM, A, Bq)) := by simp [sR_notice, d_6, c_17, c_29, c_43]
          exact pc_reti hx hb hr hlocks hP hD hS dX4_notice_47 ⟨rfl, by rw [hsp], rs, lk, by rw [hsp]; exact h0⟩

set_option maxHeartbeats 4000000 in
set_option maxRecDepth 100000 in
theorem k_R_day (l : Launch) (G : va_G) (cs : Nat → ClassId) (L : List Nat) (f : Nat → va_E) (sz : Nat) (ad : Nat → Nat) (t lm : Int32) (nN nM : Nat) (rs lk : Int32) (A : RA) (Bq : RB) (a_ : Int32) (h0 : RS cs L f ad t lm nN nM rs lk A Bq) : Met l yX4_day (Cond.code yX4_day cX4_day 4 (some FieldType.int) :: wg) ({ frames := 1, cells := 0, slots := 0, locals := 25 }) (pc_P [.ref (ad 0), .int a_] G vwCl (tyl cs) L f sz (fun _ => True)) (va_Qi (fun r u => L = u.1 ∧ r = (sR_day (t, lm, nN, nM, A, Bq) a_).1 ∧ ∃ rs' lk', RSx cs u.1 u.2 ad (sR_day (t, lm, nN, nM, A, Bq) a_).2 rs' lk') (pc_B G vwCl L sz) (pw_A L sz)) 0 0 (pw_A L sz) := by
  refine Met.ofW (cc := cX4_day) (maxL := 4) (ret := (some FieldType.int)) (by decide) rfl ?_
  intro p e s m args below meth c s₁ B hml hv
  obtain ⟨rfl, hsz, hP, hK, hD0, hX⟩ := hv
  have hx := B.exec
  have hb := B.bytes
  have hr := B.returns
  have hts0 := atoms_spec (ws := (Cond.code yX4_day cX4_day 4 (some FieldType.int) :: wg)) B.pre
  have hts := fun (w : Cond) (h : w ∈ wg) => hts0 w (List.mem_cons_of_mem _ h)
  have hown : s.vm.findClass RX4 = some m.cls := findClass_of_methodNamed B.named
  have hlocks := B.notSynchronized
  subst hsz
  have hD := pw_selfD (sz := s.heap.size) hD0
  have hA : ∀ q : Nat, s.heap.size ≤ q → pw_A L s.heap.size q := fun q h => Or.inr h
  have hS : va_S (pw_A L s.heap.size) s.heap s.heap [] := va_S.rf
  have hl := lv_entry ([.ref (ad 0), .int a_]) (n := 4) (Nat.le_of_ble_eq_true rfl)
  rw [lg_entry_eq]
  generalize (lg_sl ([.ref (ad 0), .int a_]) ++ List.replicate (4 - (lg_sl ([.ref (ad 0), .int a_])).length) Slot.unset).toArray = ls at hl ⊢
  have hl : lv_has ls 4 [(0, .ref (ad 0)), (1, .int a_)] := hl
  have hN6 := h0.nN6
  have hM12 := h0.nM12
  have m0 := h0.mem 0 (by decide)
  have e0 := h0.e0
  refine lv_iload_n hx hb dX4_day_0 rfl (lv_at hl 1 rfl) ?_
  refine lv_i2l hx hb dX4_day_1 rfl ?_
  refine lv_aload_n hx hb dX4_day_2 rfl (lv_at hl 0 rfl) ?_
  refine pw_get (ci := 4) (C := RX4) (T := TX4) (N := 23) hx hb hts inX4 hown hK hP m0 e0 rfl 0 (by decide) (hts _ mw_327) (fun _ h9 => h9) rfl dX4_day_3 ?_
  refine lv_i2l hx hb dX4_day_6 rfl ?_
  refine lv_ldc2 hx hb hown (hts _ mw_402) dX4_day_7 ?_
  refine pr_callSi (As := [.long a_.toInt64, .long t.toInt64, .long 100000]) (rest := []) ⟨hx, hb, hml, hown, hts⟩ (k_R_isIn l G cs L f a_.toInt64 t.toInt64 100000) (cwS 3 hts (wg_S mw_403 mw_404 mw_3 mw_405) rfl rfl rfl (by decide +kernel) ⟨Nat.le_of_ble_eq_true rfl, Nat.le_of_ble_eq_true rfl⟩) hK hP px_T (fun _ _ _ => trivial) rfl hl.1 rfl (lv_room (Nat.le_of_ble_eq_true rfl)) dX4_day_10 ⟨Nat.le_of_ble_eq_true rfl, Nat.le_of_ble_eq_true rfl⟩ (fun r_1 hr_1 => ?_)
  subst hr_1
  refine lv_if_ne (tgt := 18) hx hb dX4_day_13 (by decide) (fun c_13 => ?_) (fun c_13 => ?_)
  · refine lv_iconst (v := 0) hx hb dX4_day_18 (by decide) ?_
    refine lv_istore_n (lv' := [(2, .int 0), (0, .ref (ad 0)), (1, .int a_)]) hx hb dX4_day_19 rfl hl (by decide) rfl (fun ls hl => ?_)
    refine lv_iconst (v := 0) hx hb dX4_day_20 (by decide) ?_
    refine lv_istore_n (lv' := [(3, .int 0), (2, .int 0), (0, .ref (ad 0)), (1, .int a_)]) hx hb dX4_day_21 rfl hl (by decide) rfl (fun ls hl => ?_)
    refine pr_loop (σ := Nat) (nL := 4) (fun k => 6 * nN - k) (fun k => k ≤ 6 * nN) (fun k => [(3, .int (nI k)), (2, .int (sR_dn A t a_ k)), (0, .ref (ad 0)), (1, .int a_)]) ?_ 0 (Nat.zero_le _) ls (lv_sub hl [0, 1, 2, 3] rfl)
    intro k hk ih ls hl
    refine lv_iload_n hx hb dX4_day_22 rfl (lv_at hl 0 rfl) ?_
    refine lv_bipush (v := 6) hx hb dX4_day_23 (by decide) ?_
    refine lv_aload_n hx hb dX4_day_25 rfl (lv_at hl 2 rfl) ?_
    refine pw_get (ci := 4) (C := RX4) (T := TX4) (N := 23) hx hb hts inX4 hown hK hP m0 e0 rfl 1 (by decide) (hts _ mw_328) (fun _ h9 => h9) rfl dX4_day_26 ?_
    refine lv_imul hx hb dX4_day_29 ?_
    have eix30 : 6 * (nI nN) = nI (6 * nN) := pk_mul 6 nN
    rw [eix30]
    refine lv_icmp_ge (tgt := 68) hx hb dX4_day_30 (by decide) (fun c_30 => ?_) (fun c_30 => ?_)
    · have hk2 : k = 6 * nN := Nat.le_antisymm hk (nI_of_le c_30 (by omega))
      subst hk2
      refine lv_aload_n hx hb dX4_day_68 rfl (lv_at hl 2 rfl) ?_
      refine lv_iload_n hx hb dX4_day_69 rfl (lv_at hl 3 rfl) ?_
      refine pw_put (ty := .int) (ci := 4) (v := .int a_) (C := RX4) (T := TX4) (N := 23) hx hb hts inX4 tyX4 tyX4_ok nmX4 hown hK hP hD hS m0 e0 rfl 0 (by decide) (hts _ mw_327) (fun _ h9 => h9) rfl (by decide +kernel) rfl rfl (Nat.le_of_ble_eq_true rfl) dX4_day_70 (fun H locs hP hD hS => ?_)
      obtain ⟨f_2, ef_2⟩ : ∃ zz : Nat → va_E, zz = va_up f (ad 0) (.inr (4, [.int a_, .int (nI nN), .ref (ad 1), .ref (ad 2), .ref (ad 3), .ref (ad 4), .ref (ad 5), .ref (ad 6), .ref (ad 7), .ref (ad 8), .int (nI nM), .ref (ad 9), .ref (ad 10), .ref (ad 11), .ref (ad 12), .ref (ad 13), .ref (ad 14), .ref (ad 15), .ref (ad 16), .ref (ad 17), .int lm, .int rs, .int lk])) := ⟨_, rfl⟩
      have hP : va_P G vwCl (va_pl L f_2) H := by rw [ef_2]; exact hP
      have hD : va_D (pw_A L s.heap.size) (va_pl L f_2) := by rw [ef_2]; exact hD
      have hf_2_ad_0 : f_2 (ad 0) = .inr (4, [.int a_, .int (nI nN), .ref (ad 1), .ref (ad 2), .ref (ad 3), .ref (ad 4), .ref (ad 5), .ref (ad 6), .ref (ad 7), .ref (ad 8), .int (nI nM), .ref (ad 9), .ref (ad 10), .ref (ad 11), .ref (ad 12), .ref (ad 13), .ref (ad 14), .ref (ad 15), .ref (ad 16), .ref (ad 17), .int lm, .int rs, .int lk]) := by rw [ef_2]; exact va_up_self _ _ _
      have qf_2 : RS cs L f_2 ad a_ lm nN nM rs lk A Bq := by rw [ef_2]; exact h0.main a_ lm nN nM rs lk (by omega) (by omega)
      refine lv_iload_n hx hb dX4_day_73 rfl (lv_at hl 1 rfl) ?_
      have hsp : sR_day (t, lm, nN, nM, A, Bq) a_ = (sR_dn A t a_ (6 * nN), (a_, lm, nN, nM, A, Bq)) := by simp [sR_day, c_13]
      exact pc_reti hx hb hr hlocks hP hD hS dX4_day_74 ⟨rfl, by rw [hsp], rs, lk, by rw [hsp]; exact qf_2⟩
    · have hk2 : k < 6 * nN := nI_of_ge c_30 (by omega)
      refine lv_iload_n hx hb dX4_day_33 rfl (lv_at hl 1 rfl) ?_
      refine lv_aload_n hx hb dX4_day_34 rfl (lv_at hl 2 rfl) ?_
      refine lv_iload_n hx hb dX4_day_35 rfl (lv_at hl 0 rfl) ?_
      refine lv_iload_n hx hb dX4_day_36 rfl (lv_at hl 3 rfl) ?_
      refine pr_callVi (As := [.int (nI k), .int a_]) (rest := [.int (sR_dn A t a_ k)]) ⟨hx, hb, hml, hown, hts⟩ (k_R_sil l G cs L f ad t lm nN nM rs lk A Bq k a_ h0 (by omega)) (cwV 2 hts (wg_V mw_406 mw_408 ms_10 mw_3 mw_409) rfl rfl rfl (by decide +kernel) ⟨Nat.le_of_ble_eq_true rfl, Nat.le_of_ble_eq_true rfl⟩) hK hP m0 e0 rfl px_T (fun _ _ _ => trivial) rfl hl.1 rfl (lv_room (Nat.le_of_ble_eq_true rfl)) dX4_day_37 ⟨Nat.le_of_ble_eq_true rfl, Nat.le_of_ble_eq_true rfl⟩ (fun r_3 hr_3 => ?_)
      subst hr_3
      refine lv_if_eq (tgt := 59) hx hb dX4_day_40 (by decide) (fun c_40 => ?_) (fun c_40 => ?_)
      · refine lv_iconst (v := 0) hx hb dX4_day_59 (by decide) ?_
        refine lv_iadd hx hb dX4_day_60 ?_
        refine lv_istore_n (lv' := [(2, .int ((sR_dn A t a_ k) + 0)), (3, .int (nI k)), (0, .ref (ad 0)), (1, .int a_)]) hx hb dX4_day_61 rfl hl (by decide) rfl (fun ls hl => ?_)
        obtain ⟨z_4, ez_4⟩ : ∃ z : Int32, z = (nI k) + 1 := ⟨_, rfl⟩
        refine lv_iinc (v := z_4) (lv' := [(3, .int z_4), (2, .int ((sR_dn A t a_ k) + 0)), (0, .ref (ad 0)), (1, .int a_)]) hx hb dX4_day_62 hl (k := 1) rfl (by rw [ez_4]; rfl) (by decide) rfl (fun ls hl => ?_)
        refine lv_goto (tgt := 22) hx hb dX4_day_65 (by decide) ?_
        obtain rfl : z_4 = nI (k + 1) := by rw [ez_4]; exact nI_1 k
        have hsum : sR_dn A t a_ (k + 1) = (sR_dn A t a_ k) + 0 := by simp [sR_dn, c_13, c_40]
        rw [← hsum] at hl
        exact ih (k + 1) (by show k + 1 ≤ 6 * nN; omega) (by show 6 * nN - (k + 1) < 6 * nN - k; omega) ls (lv_sub hl [0, 1, 2, 3] rfl)
      · refine lv_aload_n hx hb dX4_day_43 rfl (lv_at hl 2 rfl) ?_
        refine lv_iload_n hx hb dX4_day_44 rfl (lv_at hl 0 rfl) ?_
        refine lv_aload_n hx hb dX4_day_45 rfl (lv_at hl 2 rfl) ?_
        refine pw_get (ci := 4) (C := RX4) (T := TX4) (N := 23) hx hb hts inX4 hown hK hP m0 e0 rfl 0 (by decide) (hts _ mw_327) (fun _ h9 => h9) rfl dX4_day_46 ?_
        refine pr_callVi (As := [.int (nI k), .int t]) (rest := [.int (sR_dn A t a_ k)]) ⟨hx, hb, hml, hown, hts⟩ (k_R_sil l G cs L f ad t lm nN nM rs lk A Bq k t h0 (by omega)) (cwV 2 hts (wg_V mw_406 mw_408 ms_10 mw_3 mw_409) rfl rfl rfl (by decide +kernel) ⟨Nat.le_of_ble_eq_true rfl, Nat.le_of_ble_eq_true rfl⟩) hK hP m0 e0 rfl px_T (fun _ _ _ => trivial) rfl hl.1 rfl (lv_room (Nat.le_of_ble_eq_true rfl)) dX4_day_49 ⟨Nat.le_of_ble_eq_true rfl, Nat.le_of_ble_eq_true rfl⟩ (fun r_5 hr_5 => ?_)
        subst hr_5
        refine lv_if_ne (tgt := 59) hx hb dX4_day_52 (by decide) (fun c_52 => ?_) (fun c_52 => ?_)
        · refine lv_iconst (v := 0) hx hb dX4_day_59 (by decide) ?_
          refine lv_iadd hx hb dX4_day_60 ?_
          refine lv_istore_n (lv' := [(2, .int ((sR_dn A t a_ k) + 0)), (3, .int (nI k)), (0, .ref (ad 0)), (1, .int a_)]) hx hb dX4_day_61 rfl hl (by decide) rfl (fun ls hl => ?_)
          obtain ⟨z_6, ez_6⟩ : ∃ z : Int32, z = (nI k) + 1 := ⟨_, rfl⟩
          refine lv_iinc (v := z_6) (lv' := [(3, .int z_6), (2, .int ((sR_dn A t a_ k) + 0)), (0, .ref (ad 0)), (1, .int a_)]) hx hb dX4_day_62 hl (k := 1) rfl (by rw [ez_6]; rfl) (by decide) rfl (fun ls hl => ?_)
          refine lv_goto (tgt := 22) hx hb dX4_day_65 (by decide) ?_
          obtain rfl : z_6 = nI (k + 1) := by rw [ez_6]; exact nI_1 k
          have hsum : sR_dn A t a_ (k + 1) = (sR_dn A t a_ k) + 0 := by simp [sR_dn, c_13, c_40, c_52]
          rw [← hsum] at hl
          exact ih (k + 1) (by show k + 1 ≤ 6 * nN; omega) (by show 6 * nN - (k + 1) < 6 * nN - k; omega) ls (lv_sub hl [0, 1, 2, 3] rfl)
        · refine lv_iconst (v := 1) hx hb dX4_day_55 (by decide) ?_
          refine lv_goto (tgt := 60) hx hb dX4_day_56 (by decide) ?_
          refine lv_iadd hx hb dX4_day_60 ?_
          refine lv_istore_n (lv' := [(2, .int ((sR_dn A t a_ k) + 1)), (3, .int (nI k)), (0, .ref (ad 0)), (1, .int a_)]) hx hb dX4_day_61 rfl hl (by decide) rfl (fun ls hl => ?_)
          obtain ⟨z_7, ez_7⟩ : ∃ z : Int32, z = (nI k) + 1 := ⟨_, rfl⟩
          refine lv_iinc (v := z_7) (lv' := [(3, .int z_7), (2, .int ((sR_dn A t a_ k) + 1)), (0, .ref (ad 0)), (1, .int a_)]) hx hb dX4_day_62 hl (k := 1) rfl (by rw [ez_7]; rfl) (by decide) rfl (fun ls hl => ?_)
          refine lv_goto (tgt := 22) hx hb dX4_day_65 (by decide) ?_
          obtain rfl : z_7 = nI (k + 1) := by rw [ez_7]; exact nI_1 k
          have hsum : sR_dn A t a_ (k + 1) = (sR_dn A t a_ k) + 1 := by simp [sR_dn, c_13, c_40, c_52]
          rw [← hsum] at hl
          exact ih (k + 1) (by show k + 1 ≤ 6 * nN; omega) (by show 6 * nN - (k + 1) < 6 * nN - k; omega) ls (lv_sub hl [0, 1, 2, 3] rfl)
  · refine lv_iconst (v := (-1)) hx hb dX4_day_16 (by decide) ?_
    have hsp : sR_day (t, lm, nN, nM, A, Bq) a_ = ((-1), (t, lm, nN, nM, A, Bq)) := by simp [sR_day, c_13]
    exact pc_reti hx hb hr hlocks hP hD hS dX4_day_17 ⟨rfl, by rw [hsp], rs, lk, by rw [hsp]; exact h0⟩

set_option maxHeartbeats 4000000 in
set_option maxRecDepth 100000 in
theorem k_R_move (l : Launch) (G : va_G) (cs : Nat → ClassId) (L : List Nat) (f : Nat → va_E) (sz : Nat) (ad : Nat → Nat) (t lm : Int32) (nN nM : Nat) (rs lk : Int32) (A : RA) (Bq : RB) (n_ : Int32) (g_ : Int64) (d_ : Int32) (h0 : RS cs L f ad t lm nN nM rs lk A Bq) : Met l yX4_move (Cond.code yX4_move cX4_move 5 (some FieldType.int) :: wg) ({ frames := 2, cells := 0, slots := 0, locals := 48 }) (pc_P [.ref (ad 0), .int n_, .long g_, .int d_] G vwCl (tyl cs) L f sz (fun _ => True)) (va_Qi (fun r u => L = u.1 ∧ r = (sR_move (t, lm, nN, nM, A, Bq) n_ g_ d_).1 ∧ ∃ rs' lk', RSx cs u.1 u.2 ad (sR_move (t, lm, nN, nM, A, Bq) n_ g_ d_).2 rs' lk') (pc_B G vwCl L sz) (pw_A L sz)) 0 0 (pw_A L sz) := by
  refine Met.ofW (cc := cX4_move) (maxL := 5) (ret := (some FieldType.int)) (by decide) rfl ?_
  intro p e s m args below meth c s₁ B hml hv
  obtain ⟨rfl, hsz, hP, hK, hD0, hX⟩ := hv
  have hx := B.exec
  have hb := B.bytes
  have hr := B.returns
  have hts0 := atoms_spec (ws := (Cond.code yX4_move cX4_move 5 (some FieldType.int) :: wg)) B.pre
  have hts := fun (w : Cond) (h : w ∈ wg) => hts0 w (List.mem_cons_of_mem _ h)
  have hown : s.vm.findClass RX4 = some m.cls := findClass_of_methodNamed B.named
  have hlocks := B.notSynchronized
  subst hsz
  have hD := pw_selfD (sz := s.heap.size) hD0
  have hA : ∀ q : Nat, s.heap.size ≤ q → pw_A L s.heap.size q := fun q h => Or.inr h
  have hS : va_S (pw_A L s.heap.size) s.heap s.heap [] := va_S.rf
  have hl := lv_entry ([.ref (ad 0), .int n_, .long g_, .int d_]) (n := 5) (Nat.le_of_ble_eq_true rfl)
  rw [lg_entry_eq]
  generalize (lg_sl ([.ref (ad 0), .int n_, .long g_, .int d_]) ++ List.replicate (5 - (lg_sl ([.ref (ad 0), .int n_, .long g_, .int d_])).length) Slot.unset).toArray = ls at hl ⊢
  have hl : lv_has ls 5 [(0, .ref (ad 0)), (1, .int n_), (2, .long g_), (4, .int d_)] := hl
  have hN6 := h0.nN6
  have hM12 := h0.nM12
  have m0 := h0.mem 0 (by decide)
  have e0 := h0.e0
  have m2 := h0.mem 2 (by decide)
  have e2 : f (ad 2) = .inl (cs 0, 6, .inl (A 2)) := h0.ea 2 (by decide) (by decide)
  have m3 := h0.mem 3 (by decide)
  have e3 : f (ad 3) = .inl (cs 0, 6, .inl (A 3)) := h0.ea 3 (by decide) (by decide)
  have m9 := h0.mem 9 (by decide)
  have e9 : f (ad 9) = .inl (cs 0, 12, .inl (A 9)) := h0.ea 9 (by decide) (by decide)
  have m10 := h0.mem 10 (by decide)
  have e10 : f (ad 10) = .inl (cs 3, 12, .inr (.inl (Bq 10))) := h0.ea 10 (by decide) (by decide)
  have m11 := h0.mem 11 (by decide)
  have e11 : f (ad 11) = .inl (cs 0, 12, .inl (A 11)) := h0.ea 11 (by decide) (by decide)
  have m12 := h0.mem 12 (by decide)
  have e12 : f (ad 12) = .inl (cs 0, 12, .inl (A 12)) := h0.ea 12 (by decide) (by decide)
  have m13 := h0.mem 13 (by decide)
  have e13 : f (ad 13) = .inl (cs 0, 12, .inl (A 13)) := h0.ea 13 (by decide) (by decide)
  refine lv_aload_n hx hb dX4_move_0 rfl (lv_at hl 0 rfl) ?_
  refine lv_iload_n hx hb dX4_move_1 rfl (lv_at hl 1 rfl) ?_
  refine pr_callVi (As := [.int n_]) (rest := []) ⟨hx, hb, hml, hown, hts⟩ (k_R_isN l G cs L f ad t lm nN nM rs lk A Bq n_ h0) (cwV 1 hts (wg_V mw_419 mw_421 ms_11 mw_3 mw_422) rfl rfl rfl (by decide +kernel) ⟨Nat.le_of_ble_eq_true rfl, Nat.le_of_ble_eq_true rfl⟩) hK hP m0 e0 rfl px_T (fun _ _ _ => trivial) rfl hl.1 rfl (lv_room (Nat.le_of_ble_eq_true rfl)) dX4_move_2 ⟨Nat.le_of_ble_eq_true rfl, Nat.le_of_ble_eq_true rfl⟩ (fun r_1 hr_1 => ?_)
  rcases sp_in_cases (m := nN) (by omega) n_ with ⟨hxi, hsi⟩ | ⟨i, hi, eni, hxi, hsi⟩
  · obtain rfl : r_1 = 0 := by rw [hr_1, hsi]
    refine lv_if_eq (tgt := 57) hx hb dX4_move_5 (by decide) (fun c_5 => ?_) (fun c_5 => ?_)
    · refine lv_iconst (v := (-1)) hx hb dX4_move_57 (by decide) ?_
      have hsp : sR_move (t, lm, nN, nM, A, Bq) n_ g_ d_ = ((-1), (t, lm, nN, nM, A, Bq)) := by simp [sR_move, hxi]
      exact pc_reti hx hb hr hlocks hP hD hS dX4_move_58 ⟨rfl, by rw [hsp], rs, lk, by rw [hsp]; exact h0⟩
    · exact absurd c_5 (by decide)
  · obtain rfl : r_1 = 1 := by rw [hr_1, hsi]
    subst eni
    refine lv_if_eq (tgt := 57) hx hb dX4_move_5 (by decide) (fun c_5 => ?_) (fun c_5 => ?_)
    · exact absurd c_5 (by decide)
    · refine lv_lload_n hx hb dX4_move_8 rfl (lv_at hl 2 rfl) ?_
      refine lv_lconst (v := 1) hx hb dX4_move_9 (by decide) ?_
      refine W.lcmp hx hb dX4_move_10 ?_
      refine lv_if_lt (tgt := 57) hx hb dX4_move_11 (by decide) (fun c_11 => ?_) (fun c_11 => ?_)
      · have c_11 := (lg_cmp_lt _ _).mp c_11
        refine lv_iconst (v := (-1)) hx hb dX4_move_57 (by decide) ?_
        have hsp : sR_move (t, lm, nN, nM, A, Bq) (nI i) g_ d_ = ((-1), (t, lm, nN, nM, A, Bq)) := by simp [sR_move, hxi, c_11]
        exact pc_reti hx hb hr hlocks hP hD hS dX4_move_58 ⟨rfl, by rw [hsp], rs, lk, by rw [hsp]; exact h0⟩
      · have c_11 : ¬ g_ < 1 := fun h => c_11 ((lg_cmp_lt _ _).mpr h)
        refine lv_iload hx hb dX4_move_14 (lv_at hl 3 rfl) ?_
        refine lv_i2l hx hb dX4_move_16 rfl ?_
        refine lv_aload_n hx hb dX4_move_17 rfl (lv_at hl 0 rfl) ?_
        refine pw_get (ci := 4) (C := RX4) (T := TX4) (N := 23) hx hb hts inX4 hown hK hP m0 e0 rfl 3 (by decide) (hts _ mw_330) (fun _ h9 => h9) rfl dX4_move_18 ?_
        refine lv_iload_n hx hb dX4_move_21 rfl (lv_at hl 1 rfl) ?_
        refine pw_ialdN (k := i) hx hb hK hP m2 0 e2 rfl (by omega) (by decide) dX4_move_22 ?_
        refine lv_i2l hx hb dX4_move_23 rfl ?_
        refine lv_aload_n hx hb dX4_move_24 rfl (lv_at hl 0 rfl) ?_
        refine pw_get (ci := 4) (C := RX4) (T := TX4) (N := 23) hx hb hts inX4 hown hK hP m0 e0 rfl 4 (by decide) (hts _ mw_331) (fun _ h9 => h9) rfl dX4_move_25 ?_
        refine lv_iload_n hx hb dX4_move_28 rfl (lv_at hl 1 rfl) ?_
        refine pw_ialdN (k := i) hx hb hK hP m3 0 e3 rfl (by omega) (by decide) dX4_move_29 ?_
        refine lv_i2l hx hb dX4_move_30 rfl ?_
        refine pr_callSi (As := [.long d_.toInt64, .long (((A 2) i).toInt64), .long (((A 3) i).toInt64)]) (rest := []) ⟨hx, hb, hml, hown, hts⟩ (k_R_isIn l G cs L f d_.toInt64 (((A 2) i).toInt64) (((A 3) i).toInt64)) (cwS 3 hts (wg_S mw_403 mw_404 mw_3 mw_405) rfl rfl rfl (by decide +kernel) ⟨Nat.le_of_ble_eq_true rfl, Nat.le_of_ble_eq_true rfl⟩) hK hP px_T (fun _ _ _ => trivial) rfl hl.1 rfl (lv_room (Nat.le_of_ble_eq_true rfl)) dX4_move_31 ⟨Nat.le_of_ble_eq_true rfl, Nat.le_of_ble_eq_true rfl⟩ (fun r_2 hr_2 => ?_)
        subst hr_2
        refine lv_if_eq (tgt := 57) hx hb dX4_move_34 (by decide) (fun c_34 => ?_) (fun c_34 => ?_)
        · refine lv_iconst (v := (-1)) hx hb dX4_move_57 (by decide) ?_
          have hsp : sR_move (t, lm, nN, nM, A, Bq) (nI i) g_ d_ = ((-1), (t, lm, nN, nM, A, Bq)) := by simp [sR_move, hxi, c_11, c_34]
          exact pc_reti hx hb hr hlocks hP hD hS dX4_move_58 ⟨rfl, by rw [hsp], rs, lk, by rw [hsp]; exact h0⟩
        · refine lv_iload hx hb dX4_move_37 (lv_at hl 3 rfl) ?_
          refine lv_aload_n hx hb dX4_move_39 rfl (lv_at hl 0 rfl) ?_
          refine pw_get (ci := 4) (C := RX4) (T := TX4) (N := 23) hx hb hts inX4 hown hK hP m0 e0 rfl 0 (by decide) (hts _ mw_327) (fun _ h9 => h9) rfl dX4_move_40 ?_
          refine lv_iconst (v := 3) hx hb dX4_move_43 (by decide) ?_
          refine lv_iadd hx hb dX4_move_44 ?_
          refine lv_icmp_lt (tgt := 57) hx hb dX4_move_45 (by decide) (fun c_45 => ?_) (fun c_45 => ?_)
          · refine lv_iconst (v := (-1)) hx hb dX4_move_57 (by decide) ?_
            have hsp : sR_move (t, lm, nN, nM, A, Bq) (nI i) g_ d_ = ((-1), (t, lm, nN, nM, A, Bq)) := by simp [sR_move, hxi, c_11, c_34, c_45]
            exact pc_reti hx hb hr hlocks hP hD hS dX4_move_58 ⟨rfl, by rw [hsp], rs, lk, by rw [hsp]; exact h0⟩
          · refine lv_aload_n hx hb dX4_move_48 rfl (lv_at hl 0 rfl) ?_
            refine pw_get (ci := 4) (C := RX4) (T := TX4) (N := 23) hx hb hts inX4 hown hK hP m0 e0 rfl 10 (by decide) (hts _ mw_337) (fun _ h9 => h9) rfl dX4_move_49 ?_
            refine lv_bipush (v := 12) hx hb dX4_move_52 (by decide) ?_
            refine lv_icmp_ne (tgt := 59) hx hb dX4_move_54 (by decide) (fun c_54 => ?_) (fun c_54 => ?_)
            · have d_54 : ¬ nM = 12 := fun z => c_54 ((nI_eq (a := nM) (b := 12) (by omega) (by decide)).mpr z)
              refine lv_aload_n hx hb dX4_move_59 rfl (lv_at hl 0 rfl) ?_
              refine lv_iload_n hx hb dX4_move_60 rfl (lv_at hl 1 rfl) ?_
              refine pr_callVi (As := [.int (nI i)]) (rest := []) ⟨hx, hb, hml, hown, hts⟩ (k_R_state l G cs L f ad t lm nN nM rs lk A Bq (nI i) h0) (cwV 1 hts (wg_V mw_439 mw_432 mw_433 mw_3 mw_434) rfl rfl rfl (by decide +kernel) ⟨Nat.le_of_ble_eq_true rfl, Nat.le_of_ble_eq_true rfl⟩) hK hP m0 e0 rfl px_T (fun _ _ _ => trivial) rfl hl.1 rfl (lv_room (Nat.le_of_ble_eq_true rfl)) dX4_move_61 ⟨Nat.le_of_ble_eq_true rfl, Nat.le_of_ble_eq_true rfl⟩ (fun r_3 hr_3 => ?_)
              subst hr_3
              have est : sR_state t nN A (nI i) = sR_stt A t i := by simp [sR_state, hxi]
              rw [est]
              refine lv_iconst (v := 1) hx hb dX4_move_64 (by decide) ?_
              refine lv_icmp_eq (tgt := 71) hx hb dX4_move_65 (by decide) (fun c_65 => ?_) (fun c_65 => ?_)
              · refine lv_lload_n hx hb dX4_move_71 rfl (lv_at hl 2 rfl) ?_
                refine lv_aload_n hx hb dX4_move_72 rfl (lv_at hl 0 rfl) ?_
                refine lv_iload_n hx hb dX4_move_73 rfl (lv_at hl 1 rfl) ?_
                refine pr_callVl (As := [.int (nI i)]) (rest := [.long g_]) ⟨hx, hb, hml, hown, hts⟩ (k_R_left l G cs L f ad t lm nN nM rs lk A Bq (nI i) h0) (cwV 1 hts (wg_V mw_440 mw_441 mw_442 mw_3 mw_443) rfl rfl rfl (by decide +kernel) ⟨Nat.le_of_ble_eq_true rfl, Nat.le_of_ble_eq_true rfl⟩) hK hP m0 e0 rfl px_T (fun _ _ _ => trivial) rfl hl.1 rfl (lv_room (Nat.le_of_ble_eq_true rfl)) dX4_move_74 ⟨Nat.le_of_ble_eq_true rfl, Nat.le_of_ble_eq_true rfl⟩ (fun r_4 hr_4 => ?_)
                subst hr_4
                have elf : sR_left nN nM A Bq (nI i) = sR_lf A Bq (Bq 1 i) (nI i) nM := by simp [sR_left, hxi]
                rw [elf]
                refine W.lcmp hx hb dX4_move_77 ?_
                refine lv_if_le (tgt := 84) hx hb dX4_move_78 (by decide) (fun c_78 => ?_) (fun c_78 => ?_)
                · have c_78 := (lg_cmp_le _ _).mp c_78
                  refine lv_aload_n hx hb dX4_move_84 rfl (lv_at hl 0 rfl) ?_
                  refine pw_get (ci := 4) (C := RX4) (T := TX4) (N := 23) hx hb hts inX4 hown hK hP m0 e0 rfl 11 (by decide) (hts _ mw_338) (fun _ h9 => h9) rfl dX4_move_85 ?_
                  refine lv_aload_n hx hb dX4_move_88 rfl (lv_at hl 0 rfl) ?_
                  refine pw_get (ci := 4) (C := RX4) (T := TX4) (N := 23) hx hb hts inX4 hown hK hP m0 e0 rfl 10 (by decide) (hts _ mw_337) (fun _ h9 => h9) rfl dX4_move_89 ?_
                  refine lv_iload_n hx hb dX4_move_92 rfl (lv_at hl 1 rfl) ?_
                  refine pw_iastN (k := nM) hx hb hK hP hD hS m9 0 e9 rfl (by omega) (by decide) dX4_move_93 (fun H locs hP hD hS => ?_)
                  obtain ⟨f_5, ef_5⟩ : ∃ zz : Nat → va_E, zz = va_up f (ad 9) (.inl (cs 0, 12, .inl (upd (A 9) nM (nI i)))) := ⟨_, rfl⟩
                  have hP : va_P G vwCl (va_pl L f_5) H := by rw [ef_5]; exact hP
                  have hD : va_D (pw_A L s.heap.size) (va_pl L f_5) := by rw [ef_5]; exact hD
                  have hf_5_ad_0 := (show f_5 (ad 0) = f (ad 0) by rw [ef_5]; exact va_up_ne _ _ (h0.ne 0 9 (by decide) (by decide) (by decide))).trans e0
                  have hf_5_ad_2 := (show f_5 (ad 2) = f (ad 2) by rw [ef_5]; exact va_up_ne _ _ (h0.ne 2 9 (by decide) (by decide) (by decide))).trans e2
                  have hf_5_ad_3 := (show f_5 (ad 3) = f (ad 3) by rw [ef_5]; exact va_up_ne _ _ (h0.ne 3 9 (by decide) (by decide) (by decide))).trans e3
                  have hf_5_ad_9 : f_5 (ad 9) = .inl (cs 0, 12, .inl (upd (A 9) nM (nI i))) := by rw [ef_5]; exact va_up_self _ _ _
                  have hf_5_ad_10 := (show f_5 (ad 10) = f (ad 10) by rw [ef_5]; exact va_up_ne _ _ (h0.ne 10 9 (by decide) (by decide) (by decide))).trans e10
                  have hf_5_ad_11 := (show f_5 (ad 11) = f (ad 11) by rw [ef_5]; exact va_up_ne _ _ (h0.ne 11 9 (by decide) (by decide) (by decide))).trans e11
                  have hf_5_ad_12 := (show f_5 (ad 12) = f (ad 12) by rw [ef_5]; exact va_up_ne _ _ (h0.ne 12 9 (by decide) (by decide) (by decide))).trans e12
                  have hf_5_ad_13 := (show f_5 (ad 13) = f (ad 13) by rw [ef_5]; exact va_up_ne _ _ (h0.ne 13 9 (by decide) (by decide) (by decide))).trans e13
                  have qf_5 : RS cs L f_5 ad t lm nN nM rs lk (rA A 9 nM (nI i)) Bq := by rw [ef_5]; exact h0.setA 9 nM (nI i) (by decide) (by decide)
                  refine lv_aload_n hx hb dX4_move_94 rfl (lv_at hl 0 rfl) ?_
                  refine pw_get (ci := 4) (C := RX4) (T := TX4) (N := 23) hx hb hts inX4 hown hK hP m0 hf_5_ad_0 rfl 12 (by decide) (hts _ mw_339) (fun _ h9 => h9) rfl dX4_move_95 ?_
                  refine lv_aload_n hx hb dX4_move_98 rfl (lv_at hl 0 rfl) ?_
                  refine pw_get (ci := 4) (C := RX4) (T := TX4) (N := 23) hx hb hts inX4 hown hK hP m0 hf_5_ad_0 rfl 10 (by decide) (hts _ mw_337) (fun _ h9 => h9) rfl dX4_move_99 ?_
                  refine lv_lload_n hx hb dX4_move_102 rfl (lv_at hl 2 rfl) ?_
                  refine pw_lastN (k := nM) hx hb hK hP hD hS m10 3 hf_5_ad_10 rfl (by omega) (by decide) dX4_move_103 (fun H locs hP hD hS => ?_)
                  obtain ⟨f_6, ef_6⟩ : ∃ zz : Nat → va_E, zz = va_up f_5 (ad 10) (.inl (cs 3, 12, .inr (.inl (vp_updL (Bq 10) nM g_)))) := ⟨_, rfl⟩
                  have hP : va_P G vwCl (va_pl L f_6) H := by rw [ef_6]; exact hP
                  have hD : va_D (pw_A L s.heap.size) (va_pl L f_6) := by rw [ef_6]; exact hD
                  have hf_6_ad_0 := (show f_6 (ad 0) = f_5 (ad 0) by rw [ef_6]; exact va_up_ne _ _ (h0.ne 0 10 (by decide) (by decide) (by decide))).trans hf_5_ad_0
                  have hf_6_ad_2 := (show f_6 (ad 2) = f_5 (ad 2) by rw [ef_6]; exact va_up_ne _ _ (h0.ne 2 10 (by decide) (by decide) (by decide))).trans hf_5_ad_2
                  have hf_6_ad_3 := (show f_6 (ad 3) = f_5 (ad 3) by rw [ef_6]; exact va_up_ne _ _ (h0.ne 3 10 (by decide) (by decide) (by decide))).trans hf_5_ad_3
                  have hf_6_ad_9 := (show f_6 (ad 9) = f_5 (ad 9) by rw [ef_6]; exact va_up_ne _ _ (h0.ne 9 10 (by decide) (by decide) (by decide))).trans hf_5_ad_9
                  have hf_6_ad_10 : f_6 (ad 10) = .inl (cs 3, 12, .inr (.inl (vp_updL (Bq 10) nM g_))) := by rw [ef_6]; exact va_up_self _ _ _
                  have hf_6_ad_11 := (show f_6 (ad 11) = f_5 (ad 11) by rw [ef_6]; exact va_up_ne _ _ (h0.ne 11 10 (by decide) (by decide) (by decide))).trans hf_5_ad_11
                  have hf_6_ad_12 := (show f_6 (ad 12) = f_5 (ad 12) by rw [ef_6]; exact va_up_ne _ _ (h0.ne 12 10 (by decide) (by decide) (by decide))).trans hf_5_ad_12
                  have hf_6_ad_13 := (show f_6 (ad 13) = f_5 (ad 13) by rw [ef_6]; exact va_up_ne _ _ (h0.ne 13 10 (by decide) (by decide) (by decide))).trans hf_5_ad_13
                  have qf_6 : RS cs L f_6 ad t lm nN nM rs lk (rA A 9 nM (nI i)) (rB Bq 10 nM g_) := by rw [ef_6]; exact qf_5.setB 10 nM g_ (by decide) (by decide)
                  refine lv_aload_n hx hb dX4_move_104 rfl (lv_at hl 0 rfl) ?_
                  refine pw_get (ci := 4) (C := RX4) (T := TX4) (N := 23) hx hb hts inX4 hown hK hP m0 hf_6_ad_0 rfl 13 (by decide) (hts _ mw_340) (fun _ h9 => h9) rfl dX4_move_105 ?_
                  refine lv_aload_n hx hb dX4_move_108 rfl (lv_at hl 0 rfl) ?_
                  refine pw_get (ci := 4) (C := RX4) (T := TX4) (N := 23) hx hb hts inX4 hown hK hP m0 hf_6_ad_0 rfl 10 (by decide) (hts _ mw_337) (fun _ h9 => h9) rfl dX4_move_109 ?_
                  refine lv_iload hx hb dX4_move_112 (lv_at hl 3 rfl) ?_
                  refine pw_iastN (k := nM) hx hb hK hP hD hS m11 0 hf_6_ad_11 rfl (by omega) (by decide) dX4_move_114 (fun H locs hP hD hS => ?_)
                  obtain ⟨f_7, ef_7⟩ : ∃ zz : Nat → va_E, zz = va_up f_6 (ad 11) (.inl (cs 0, 12, .inl (upd (A 11) nM d_))) := ⟨_, rfl⟩
                  have hP : va_P G vwCl (va_pl L f_7) H := by rw [ef_7]; exact hP
                  have hD : va_D (pw_A L s.heap.size) (va_pl L f_7) := by rw [ef_7]; exact hD
                  have hf_7_ad_0 := (show f_7 (ad 0) = f_6 (ad 0) by rw [ef_7]; exact va_up_ne _ _ (h0.ne 0 11 (by decide) (by decide) (by decide))).trans hf_6_ad_0
                  have hf_7_ad_2 := (show f_7 (ad 2) = f_6 (ad 2) by rw [ef_7]; exact va_up_ne _ _ (h0.ne 2 11 (by decide) (by decide) (by decide))).trans hf_6_ad_2
                  have hf_7_ad_3 := (show f_7 (ad 3) = f_6 (ad 3) by rw [ef_7]; exact va_up_ne _ _ (h0.ne 3 11 (by decide) (by decide) (by decide))).trans hf_6_ad_3
                  have hf_7_ad_9 := (show f_7 (ad 9) = f_6 (ad 9) by rw [ef_7]; exact va_up_ne _ _ (h0.ne 9 11 (by decide) (by decide) (by decide))).trans hf_6_ad_9
                  have hf_7_ad_10 := (show f_7 (ad 10) = f_6 (ad 10) by rw [ef_7]; exact va_up_ne _ _ (h0.ne 10 11 (by decide) (by decide) (by decide))).trans hf_6_ad_10
                  have hf_7_ad_11 : f_7 (ad 11) = .inl (cs 0, 12, .inl (upd (A 11) nM d_)) := by rw [ef_7]; exact va_up_self _ _ _
                  have hf_7_ad_12 := (show f_7 (ad 12) = f_6 (ad 12) by rw [ef_7]; exact va_up_ne _ _ (h0.ne 12 11 (by decide) (by decide) (by decide))).trans hf_6_ad_12
                  have hf_7_ad_13 := (show f_7 (ad 13) = f_6 (ad 13) by rw [ef_7]; exact va_up_ne _ _ (h0.ne 13 11 (by decide) (by decide) (by decide))).trans hf_6_ad_13
                  have qf_7 : RS cs L f_7 ad t lm nN nM rs lk (rA (rA A 9 nM (nI i)) 11 nM d_) (rB Bq 10 nM g_) := by rw [ef_7]; exact qf_6.setA 11 nM d_ (by decide) (by decide)
                  refine lv_aload_n hx hb dX4_move_115 rfl (lv_at hl 0 rfl) ?_
                  refine pw_get (ci := 4) (C := RX4) (T := TX4) (N := 23) hx hb hts inX4 hown hK hP m0 hf_7_ad_0 rfl 14 (by decide) (hts _ mw_341) (fun _ h9 => h9) rfl dX4_move_116 ?_
                  refine lv_aload_n hx hb dX4_move_119 rfl (lv_at hl 0 rfl) ?_
                  refine pw_get (ci := 4) (C := RX4) (T := TX4) (N := 23) hx hb hts inX4 hown hK hP m0 hf_7_ad_0 rfl 10 (by decide) (hts _ mw_337) (fun _ h9 => h9) rfl dX4_move_120 ?_
                  refine lv_iconst (v := 0) hx hb dX4_move_123 (by decide) ?_
                  refine pw_iastN (k := nM) hx hb hK hP hD hS m12 0 hf_7_ad_12 rfl (by omega) (by decide) dX4_move_124 (fun H locs hP hD hS => ?_)
                  obtain ⟨f_8, ef_8⟩ : ∃ zz : Nat → va_E, zz = va_up f_7 (ad 12) (.inl (cs 0, 12, .inl (upd (A 12) nM 0))) := ⟨_, rfl⟩
                  have hP : va_P G vwCl (va_pl L f_8) H := by rw [ef_8]; exact hP
                  have hD : va_D (pw_A L s.heap.size) (va_pl L f_8) := by rw [ef_8]; exact hD
                  have hf_8_ad_0 := (show f_8 (ad 0) = f_7 (ad 0) by rw [ef_8]; exact va_up_ne _ _ (h0.ne 0 12 (by decide) (by decide) (by decide))).trans hf_7_ad_0
                  have hf_8_ad_2 := (show f_8 (ad 2) = f_7 (ad 2) by rw [ef_8]; exact va_up_ne _ _ (h0.ne 2 12 (by decide) (by decide) (by decide))).trans hf_7_ad_2
                  have hf_8_ad_3 := (show f_8 (ad 3) = f_7 (ad 3) by rw [ef_8]; exact va_up_ne _ _ (h0.ne 3 12 (by decide) (by decide) (by decide))).trans hf_7_ad_3
                  have hf_8_ad_9 := (show f_8 (ad 9) = f_7 (ad 9) by rw [ef_8]; exact va_up_ne _ _ (h0.ne 9 12 (by decide) (by decide) (by decide))).trans hf_7_ad_9
                  have hf_8_ad_10 := (show f_8 (ad 10) = f_7 (ad 10) by rw [ef_8]; exact va_up_ne _ _ (h0.ne 10 12 (by decide) (by decide) (by decide))).trans hf_7_ad_10
                  have hf_8_ad_11 := (show f_8 (ad 11) = f_7 (ad 11) by rw [ef_8]; exact va_up_ne _ _ (h0.ne 11 12 (by decide) (by decide) (by decide))).trans hf_7_ad_11
                  have hf_8_ad_12 : f_8 (ad 12) = .inl (cs 0, 12, .inl (upd (A 12) nM 0)) := by rw [ef_8]; exact va_up_self _ _ _
                  have hf_8_ad_13 := (show f_8 (ad 13) = f_7 (ad 13) by rw [ef_8]; exact va_up_ne _ _ (h0.ne 13 12 (by decide) (by decide) (by decide))).trans hf_7_ad_13
                  have qf_8 : RS cs L f_8 ad t lm nN nM rs lk (rA (rA (rA A 9 nM (nI i)) 11 nM d_) 12 nM 0) (rB Bq 10 nM g_) := by rw [ef_8]; exact qf_7.setA 12 nM 0 (by decide) (by decide)
                  refine lv_aload_n hx hb dX4_move_125 rfl (lv_at hl 0 rfl) ?_
                  refine pw_get (ci := 4) (C := RX4) (T := TX4) (N := 23) hx hb hts inX4 hown hK hP m0 hf_8_ad_0 rfl 15 (by decide) (hts _ mw_342) (fun _ h9 => h9) rfl dX4_move_126 ?_
                  refine lv_aload_n hx hb dX4_move_129 rfl (lv_at hl 0 rfl) ?_
                  refine pw_get (ci := 4) (C := RX4) (T := TX4) (N := 23) hx hb hts inX4 hown hK hP m0 hf_8_ad_0 rfl 10 (by decide) (hts _ mw_337) (fun _ h9 => h9) rfl dX4_move_130 ?_
                  refine lv_aload_n hx hb dX4_move_133 rfl (lv_at hl 0 rfl) ?_
                  refine pw_get (ci := 4) (C := RX4) (T := TX4) (N := 23) hx hb hts inX4 hown hK hP m0 hf_8_ad_0 rfl 0 (by decide) (hts _ mw_327) (fun _ h9 => h9) rfl dX4_move_134 ?_
                  refine pw_iastN (k := nM) hx hb hK hP hD hS m13 0 hf_8_ad_13 rfl (by omega) (by decide) dX4_move_137 (fun H locs hP hD hS => ?_)
                  obtain ⟨f_9, ef_9⟩ : ∃ zz : Nat → va_E, zz = va_up f_8 (ad 13) (.inl (cs 0, 12, .inl (upd (A 13) nM t))) := ⟨_, rfl⟩
                  have hP : va_P G vwCl (va_pl L f_9) H := by rw [ef_9]; exact hP
                  have hD : va_D (pw_A L s.heap.size) (va_pl L f_9) := by rw [ef_9]; exact hD
                  have hf_9_ad_0 := (show f_9 (ad 0) = f_8 (ad 0) by rw [ef_9]; exact va_up_ne _ _ (h0.ne 0 13 (by decide) (by decide) (by decide))).trans hf_8_ad_0
                  have hf_9_ad_2 := (show f_9 (ad 2) = f_8 (ad 2) by rw [ef_9]; exact va_up_ne _ _ (h0.ne 2 13 (by decide) (by decide) (by decide))).trans hf_8_ad_2
                  have hf_9_ad_3 := (show f_9 (ad 3) = f_8 (ad 3) by rw [ef_9]; exact va_up_ne _ _ (h0.ne 3 13 (by decide) (by decide) (by decide))).trans hf_8_ad_3
                  have hf_9_ad_9 := (show f_9 (ad 9) = f_8 (ad 9) by rw [ef_9]; exact va_up_ne _ _ (h0.ne 9 13 (by decide) (by decide) (by decide))).trans hf_8_ad_9
                  have hf_9_ad_10 := (show f_9 (ad 10) = f_8 (ad 10) by rw [ef_9]; exact va_up_ne _ _ (h0.ne 10 13 (by decide) (by decide) (by decide))).trans hf_8_ad_10
                  have hf_9_ad_11 := (show f_9 (ad 11) = f_8 (ad 11) by rw [ef_9]; exact va_up_ne _ _ (h0.ne 11 13 (by decide) (by decide) (by decide))).trans hf_8_ad_11
                  have hf_9_ad_12 := (show f_9 (ad 12) = f_8 (ad 12) by rw [ef_9]; exact va_up_ne _ _ (h0.ne 12 13 (by decide) (by decide) (by decide))).trans hf_8_ad_12
                  have hf_9_ad_13 : f_9 (ad 13) = .inl (cs 0, 12, .inl (upd (A 13) nM t)) := by rw [ef_9]; exact va_up_self _ _ _
                  have qf_9 : RS cs L f_9 ad t lm nN nM rs lk (rA (rA (rA (rA A 9 nM (nI i)) 11 nM d_) 12 nM 0) 13 nM t) (rB Bq 10 nM g_) := by rw [ef_9]; exact qf_8.setA 13 nM t (by decide) (by decide)
                  refine lv_aload_n hx hb dX4_move_138 rfl (lv_at hl 0 rfl) ?_
                  refine lv_dup hx hb dX4_move_139 rfl ?_
                  refine pw_get (ci := 4) (C := RX4) (T := TX4) (N := 23) hx hb hts inX4 hown hK hP m0 hf_9_ad_0 rfl 10 (by decide) (hts _ mw_337) (fun _ h9 => h9) rfl dX4_move_140 ?_
                  refine lv_iconst (v := 1) hx hb dX4_move_143 (by decide) ?_
                  refine lv_iadd hx hb dX4_move_144 ?_
                  have eix145 : (nI nM) + 1 = nI (nM + 1) := nI_1 nM
                  rw [eix145]
                  refine pw_put (ty := .int) (ci := 4) (v := .int (nI (nM + 1))) (C := RX4) (T := TX4) (N := 23) hx hb hts inX4 tyX4 tyX4_ok nmX4 hown hK hP hD hS m0 hf_9_ad_0 rfl 10 (by decide) (hts _ mw_337) (fun _ h9 => h9) rfl (by decide +kernel) rfl rfl (Nat.le_of_ble_eq_true rfl) dX4_move_145 (fun H locs hP hD hS => ?_)
                  obtain ⟨f_10, ef_10⟩ : ∃ zz : Nat → va_E, zz = va_up f_9 (ad 0) (.inr (4, [.int t, .int (nI nN), .ref (ad 1), .ref (ad 2), .ref (ad 3), .ref (ad 4), .ref (ad 5), .ref (ad 6), .ref (ad 7), .ref (ad 8), .int (nI (nM + 1)), .ref (ad 9), .ref (ad 10), .ref (ad 11), .ref (ad 12), .ref (ad 13), .ref (ad 14), .ref (ad 15), .ref (ad 16), .ref (ad 17), .int lm, .int rs, .int lk])) := ⟨_, rfl⟩
                  have hP : va_P G vwCl (va_pl L f_10) H := by rw [ef_10]; exact hP
                  have hD : va_D (pw_A L s.heap.size) (va_pl L f_10) := by rw [ef_10]; exact hD
                  have hf_10_ad_0 : f_10 (ad 0) = .inr (4, [.int t, .int (nI nN), .ref (ad 1), .ref (ad 2), .ref (ad 3), .ref (ad 4), .ref (ad 5), .ref (ad 6), .ref (ad 7), .ref (ad 8), .int (nI (nM + 1)), .ref (ad 9), .ref (ad 10), .ref (ad 11), .ref (ad 12), .ref (ad 13), .ref (ad 14), .ref (ad 15), .ref (ad 16), .ref (ad 17), .int lm, .int rs, .int lk]) := by rw [ef_10]; exact va_up_self _ _ _
                  have hf_10_ad_2 := (show f_10 (ad 2) = f_9 (ad 2) by rw [ef_10]; exact va_up_ne _ _ (h0.ne 2 0 (by decide) (by decide) (by decide))).trans hf_9_ad_2
                  have hf_10_ad_3 := (show f_10 (ad 3) = f_9 (ad 3) by rw [ef_10]; exact va_up_ne _ _ (h0.ne 3 0 (by decide) (by decide) (by decide))).trans hf_9_ad_3
                  have hf_10_ad_9 := (show f_10 (ad 9) = f_9 (ad 9) by rw [ef_10]; exact va_up_ne _ _ (h0.ne 9 0 (by decide) (by decide) (by decide))).trans hf_9_ad_9
                  have hf_10_ad_10 := (show f_10 (ad 10) = f_9 (ad 10) by rw [ef_10]; exact va_up_ne _ _ (h0.ne 10 0 (by decide) (by decide) (by decide))).trans hf_9_ad_10
                  have hf_10_ad_11 := (show f_10 (ad 11) = f_9 (ad 11) by rw [ef_10]; exact va_up_ne _ _ (h0.ne 11 0 (by decide) (by decide) (by decide))).trans hf_9_ad_11
                  have hf_10_ad_12 := (show f_10 (ad 12) = f_9 (ad 12) by rw [ef_10]; exact va_up_ne _ _ (h0.ne 12 0 (by decide) (by decide) (by decide))).trans hf_9_ad_12
                  have hf_10_ad_13 := (show f_10 (ad 13) = f_9 (ad 13) by rw [ef_10]; exact va_up_ne _ _ (h0.ne 13 0 (by decide) (by decide) (by decide))).trans hf_9_ad_13
                  have qf_10 : RS cs L f_10 ad t lm nN (nM + 1) rs lk (rA (rA (rA (rA A 9 nM (nI i)) 11 nM d_) 12 nM 0) 13 nM t) (rB Bq 10 nM g_) := by rw [ef_10]; exact qf_9.main t lm nN (nM + 1) rs lk (by omega) (by omega)
                  refine lv_aload_n hx hb dX4_move_148 rfl (lv_at hl 0 rfl) ?_
                  refine pw_get (ci := 4) (C := RX4) (T := TX4) (N := 23) hx hb hts inX4 hown hK hP m0 hf_10_ad_0 rfl 10 (by decide) (hts _ mw_337) (fun _ h9 => h9) rfl dX4_move_149 ?_
                  refine lv_iconst (v := 1) hx hb dX4_move_152 (by decide) ?_
                  refine lv_isub hx hb dX4_move_153 ?_
                  have eix154 : (nI (nM + 1)) - 1 = nI nM := nI_pred nM
                  rw [eix154]
                  have hsp : sR_move (t, lm, nN, nM, A, Bq) (nI i) g_ d_ = (nI nM, (t, lm, nN, (nM + 1), rA (rA (rA (rA A 9 nM (nI i)) 11 nM d_) 12 nM 0) 13 nM t, rB Bq 10 nM g_)) := by simp [sR_move, hxi, c_11, c_34, c_45, d_54, c_65, c_78]
                  exact pc_reti hx hb hr hlocks hP hD hS dX4_move_154 ⟨rfl, by rw [hsp], rs, lk, by rw [hsp]; exact qf_10⟩
                · have c_78 : ¬ g_ ≤ (sR_lf A Bq (Bq 1 i) (nI i) nM) := fun h => c_78 ((lg_cmp_le _ _).mpr h)
                  refine lv_bipush (v := (-3)) hx hb dX4_move_81 (by decide) ?_
                  have hsp : sR_move (t, lm, nN, nM, A, Bq) (nI i) g_ d_ = ((-3), (t, lm, nN, nM, A, Bq)) := by simp [sR_move, hxi, c_11, c_34, c_45, d_54, c_65, c_78]
                  exact pc_reti hx hb hr hlocks hP hD hS dX4_move_83 ⟨rfl, by rw [hsp], rs, lk, by rw [hsp]; exact h0⟩
              · refine lv_bipush (v := (-2)) hx hb dX4_move_68 (by decide) ?_
                have hsp : sR_move (t, lm, nN, nM, A, Bq) (nI i) g_ d_ = ((-2), (t, lm, nN, nM, A, Bq)) := by simp [sR_move, hxi, c_11, c_34, c_45, d_54, c_65]
                exact pc_reti hx hb hr hlocks hP hD hS dX4_move_70 ⟨rfl, by rw [hsp], rs, lk, by rw [hsp]; exact h0⟩
            · have d_54 : nM = 12 := (nI_eq (a := nM) (b := 12) (by omega) (by decide)).mp c_54
              refine lv_iconst (v := (-1)) hx hb dX4_move_57 (by decide) ?_
              have hsp : sR_move (t, lm, nN, nM, A, Bq) (nI i) g_ d_ = ((-1), (t, lm, nN, nM, A, Bq)) := by simp [sR_move, hxi, c_11, c_34, c_45, d_54]
              exact pc_reti hx hb hr hlocks hP hD hS dX4_move_58 ⟨rfl, by rw [hsp], rs, lk, by rw [hsp]; exact h0⟩

set_option maxHeartbeats 4000000 in
set_option maxRecDepth 100000 in
theorem k_R_event (l : Launch) (G : va_G) (cs : Nat → ClassId) (L : List Nat) (f : Nat → va_E) (sz : Nat) (ad : Nat → Nat) (t lm : Int32) (nN nM : Nat) (rs lk : Int32) (A : RA) (Bq : RB) (m_ e_ p_ : Int32) (h0 : RS cs L f ad t lm nN nM rs lk A Bq) : Met l yX4_event (Cond.code yX4_event cX4_event 4 (some FieldType.int) :: wg) ({ frames := 2, cells := 0, slots := 0, locals := 48 }) (pc_P [.ref (ad 0), .int m_, .int e_, .int p_] G vwCl (tyl cs) L f sz (fun _ => True)) (va_Qi (fun r u => L = u.1 ∧ r = (sR_event (t, lm, nN, nM, A, Bq) m_ e_ p_).1 ∧ ∃ rs' lk', RSx cs u.1 u.2 ad (sR_event (t, lm, nN, nM, A, Bq) m_ e_ p_).2 rs' lk') (pc_B G vwCl L sz) (pw_A L sz)) 0 0 (pw_A L sz) := by
  refine Met.ofW (cc := cX4_event) (maxL := 4) (ret := (some FieldType.int)) (by decide) rfl ?_
  intro p e s m args below meth c s₁ B hml hv
  obtain ⟨rfl, hsz, hP, hK, hD0, hX⟩ := hv
  have hx := B.exec
  have hb := B.bytes
  have hr := B.returns
  have hts0 := atoms_spec (ws := (Cond.code yX4_event cX4_event 4 (some FieldType.int) :: wg)) B.pre
  have hts := fun (w : Cond) (h : w ∈ wg) => hts0 w (List.mem_cons_of_mem _ h)
  have hown : s.vm.findClass RX4 = some m.cls := findClass_of_methodNamed B.named
  have hlocks := B.notSynchronized
  subst hsz
  have hD := pw_selfD (sz := s.heap.size) hD0
  have hA : ∀ q : Nat, s.heap.size ≤ q → pw_A L s.heap.size q := fun q h => Or.inr h
  have hS : va_S (pw_A L s.heap.size) s.heap s.heap [] := va_S.rf
  have hl := lv_entry ([.ref (ad 0), .int m_, .int e_, .int p_]) (n := 4) (Nat.le_of_ble_eq_true rfl)
  rw [lg_entry_eq]
  generalize (lg_sl ([.ref (ad 0), .int m_, .int e_, .int p_]) ++ List.replicate (4 - (lg_sl ([.ref (ad 0), .int m_, .int e_, .int p_])).length) Slot.unset).toArray = ls at hl ⊢
  have hl : lv_has ls 4 [(0, .ref (ad 0)), (1, .int m_), (2, .int e_), (3, .int p_)] := hl
  have hN6 := h0.nN6
  have hM12 := h0.nM12
  have m0 := h0.mem 0 (by decide)
  have e0 := h0.e0
  have m9 := h0.mem 9 (by decide)
  have e9 : f (ad 9) = .inl (cs 0, 12, .inl (A 9)) := h0.ea 9 (by decide) (by decide)
  have m11 := h0.mem 11 (by decide)
  have e11 : f (ad 11) = .inl (cs 0, 12, .inl (A 11)) := h0.ea 11 (by decide) (by decide)
  have m12 := h0.mem 12 (by decide)
  have e12 : f (ad 12) = .inl (cs 0, 12, .inl (A 12)) := h0.ea 12 (by decide) (by decide)
  have m13 := h0.mem 13 (by decide)
  have e13 : f (ad 13) = .inl (cs 0, 12, .inl (A 13)) := h0.ea 13 (by decide) (by decide)
  have m14 := h0.mem 14 (by decide)
  have e14 : f (ad 14) = .inl (cs 2, 12, .inl (A 14)) := h0.ea 14 (by decide) (by decide)
  refine lv_aload_n hx hb dX4_event_0 rfl (lv_at hl 0 rfl) ?_
  refine lv_iload_n hx hb dX4_event_1 rfl (lv_at hl 1 rfl) ?_
  refine pr_callVi (As := [.int m_]) (rest := []) ⟨hx, hb, hml, hown, hts⟩ (k_R_isM l G cs L f ad t lm nN nM rs lk A Bq m_ h0) (cwV 1 hts (wg_V mw_449 mw_451 ms_12 mw_3 mw_452) rfl rfl rfl (by decide +kernel) ⟨Nat.le_of_ble_eq_true rfl, Nat.le_of_ble_eq_true rfl⟩) hK hP m0 e0 rfl px_T (fun _ _ _ => trivial) rfl hl.1 rfl (lv_room (Nat.le_of_ble_eq_true rfl)) dX4_event_2 ⟨Nat.le_of_ble_eq_true rfl, Nat.le_of_ble_eq_true rfl⟩ (fun r_1 hr_1 => ?_)
  rcases sp_in_cases (m := nM) (by omega) m_ with ⟨hxj, hsj⟩ | ⟨j, hj, enj, hxj, hsj⟩
  · obtain rfl : r_1 = 0 := by rw [hr_1, hsj]
    refine lv_if_eq (tgt := 22) hx hb dX4_event_5 (by decide) (fun c_5 => ?_) (fun c_5 => ?_)
    · refine lv_iconst (v := (-1)) hx hb dX4_event_22 (by decide) ?_
      have hsp : sR_event (t, lm, nN, nM, A, Bq) m_ e_ p_ = ((-1), (t, lm, nN, nM, A, Bq)) := by simp only [sR_event, hxj, sR_ev2, sR_evR]
      exact pc_reti hx hb hr hlocks hP hD hS dX4_event_23 ⟨rfl, by rw [hsp], rs, lk, by rw [hsp]; exact h0⟩
    · exact absurd c_5 (by decide)
  · obtain rfl : r_1 = 1 := by rw [hr_1, hsj]
    subst enj
    refine lv_if_eq (tgt := 22) hx hb dX4_event_5 (by decide) (fun c_5 => ?_) (fun c_5 => ?_)
    · exact absurd c_5 (by decide)
    · refine lv_iload_n hx hb dX4_event_8 rfl (lv_at hl 2 rfl) ?_
      refine pr_callSi (As := [.int e_]) (rest := []) ⟨hx, hb, hml, hown, hts⟩ (k_R_isE l G cs L f e_) (cwS 1 hts (wg_S mw_460 mw_461 mw_3 mw_462) rfl rfl rfl (by decide +kernel) ⟨Nat.le_of_ble_eq_true rfl, Nat.le_of_ble_eq_true rfl⟩) hK hP px_T (fun _ _ _ => trivial) rfl hl.1 rfl (lv_room (Nat.le_of_ble_eq_true rfl)) dX4_event_9 ⟨Nat.le_of_ble_eq_true rfl, Nat.le_of_ble_eq_true rfl⟩ (fun r_2 hr_2 => ?_)
      rcases sp_in_cases (m := 5) (by decide) e_ with ⟨hxv, hsv⟩ | ⟨v, hv, env, hxv, hsv⟩
      · obtain rfl : r_2 = 0 := by rw [hr_2, hsv]
        refine lv_if_eq (tgt := 22) hx hb dX4_event_12 (by decide) (fun c_12 => ?_) (fun c_12 => ?_)
        · refine lv_iconst (v := (-1)) hx hb dX4_event_22 (by decide) ?_
          have hsp : sR_event (t, lm, nN, nM, A, Bq) (nI j) e_ p_ = ((-1), (t, lm, nN, nM, A, Bq)) := by simp only [sR_event, hxj, hxv, sR_ev2, sR_evR]
          exact pc_reti hx hb hr hlocks hP hD hS dX4_event_23 ⟨rfl, by rw [hsp], rs, lk, by rw [hsp]; exact h0⟩
        · exact absurd c_12 (by decide)
      · obtain rfl : r_2 = 1 := by rw [hr_2, hsv]
        subst env
        refine lv_if_eq (tgt := 22) hx hb dX4_event_12 (by decide) (fun c_12 => ?_) (fun c_12 => ?_)
        · exact absurd c_12 (by decide)
        · refine lv_iload_n hx hb dX4_event_15 rfl (lv_at hl 3 rfl) ?_
          refine pr_callSi (As := [.int p_]) (rest := []) ⟨hx, hb, hml, hown, hts⟩ (k_R_isP l G cs L f p_) (cwS 1 hts (wg_S mw_457 mw_458 mw_3 mw_459) rfl rfl rfl (by decide +kernel) ⟨Nat.le_of_ble_eq_true rfl, Nat.le_of_ble_eq_true rfl⟩) hK hP px_T (fun _ _ _ => trivial) rfl hl.1 rfl (lv_room (Nat.le_of_ble_eq_true rfl)) dX4_event_16 ⟨Nat.le_of_ble_eq_true rfl, Nat.le_of_ble_eq_true rfl⟩ (fun r_3 hr_3 => ?_)
          rcases sp_in_cases (m := 8) (by decide) p_ with ⟨hxa, hsa⟩ | ⟨a, ha, ena, hxa, hsa⟩
          · obtain rfl : r_3 = 0 := by rw [hr_3, hsa]
            refine lv_if_ne (tgt := 24) hx hb dX4_event_19 (by decide) (fun c_19 => ?_) (fun c_19 => ?_)
            · exact absurd c_19 (by decide)
            · refine lv_iconst (v := (-1)) hx hb dX4_event_22 (by decide) ?_
              have hsp : sR_event (t, lm, nN, nM, A, Bq) (nI j) (nI v) p_ = ((-1), (t, lm, nN, nM, A, Bq)) := by simp only [sR_event, hxj, hxv, hxa, sR_ev2, sR_evR]
              exact pc_reti hx hb hr hlocks hP hD hS dX4_event_23 ⟨rfl, by rw [hsp], rs, lk, by rw [hsp]; exact h0⟩
          · obtain rfl : r_3 = 1 := by rw [hr_3, hsa]
            subst ena
            refine lv_if_ne (tgt := 24) hx hb dX4_event_19 (by decide) (fun c_19 => ?_) (fun c_19 => ?_)
            · refine lv_aload_n hx hb dX4_event_24 rfl (lv_at hl 0 rfl) ?_
              refine lv_iload_n hx hb dX4_event_25 rfl (lv_at hl 3 rfl) ?_
              refine lv_iload_n hx hb dX4_event_26 rfl (lv_at hl 2 rfl) ?_
              refine pr_callVi (As := [.int (nI a), .int (nI v)]) (rest := []) ⟨hx, hb, hml, hown, hts⟩ (k_R_may l G cs L f ad t lm nN nM rs lk A Bq (nI a) (nI v) h0) (cwV 2 hts (wg_V mw_471 mw_464 mw_465 mw_3 mw_466) rfl rfl rfl (by decide +kernel) ⟨Nat.le_of_ble_eq_true rfl, Nat.le_of_ble_eq_true rfl⟩) hK hP m0 e0 rfl px_T (fun _ _ _ => trivial) rfl hl.1 rfl (lv_room (Nat.le_of_ble_eq_true rfl)) dX4_event_27 ⟨Nat.le_of_ble_eq_true rfl, Nat.le_of_ble_eq_true rfl⟩ (fun r_4 hr_4 => ?_)
              subst hr_4
              refine lv_if_ne (tgt := 36) hx hb dX4_event_30 (by decide) (fun c_30 => ?_) (fun c_30 => ?_)
              · refine lv_aload_n hx hb dX4_event_36 rfl (lv_at hl 0 rfl) ?_
                refine pw_get (ci := 4) (C := RX4) (T := TX4) (N := 23) hx hb hts inX4 hown hK hP m0 e0 rfl 14 (by decide) (hts _ mw_341) (fun _ h9 => h9) rfl dX4_event_37 ?_
                refine lv_iload_n hx hb dX4_event_40 rfl (lv_at hl 1 rfl) ?_
                refine pw_ialdN (k := j) hx hb hK hP m12 0 e12 rfl (by omega) (by decide) dX4_event_41 ?_
                refine lv_iload_n hx hb dX4_event_42 rfl (lv_at hl 2 rfl) ?_
                refine pr_callSi (As := [.int ((A 12) j), .int (nI v)]) (rest := []) ⟨hx, hb, hml, hown, hts⟩ (k_R_leads l G cs L f ((A 12) j) v hv) (cwS 2 hts (wg_S mw_472 mw_473 mw_3 mw_474) rfl rfl rfl (by decide +kernel) ⟨Nat.le_of_ble_eq_true rfl, Nat.le_of_ble_eq_true rfl⟩) hK hP px_T (fun _ _ _ => trivial) rfl hl.1 rfl (lv_room (Nat.le_of_ble_eq_true rfl)) dX4_event_43 ⟨Nat.le_of_ble_eq_true rfl, Nat.le_of_ble_eq_true rfl⟩ (fun r_5 hr_5 => ?_)
                subst hr_5
                refine lv_if_ne (tgt := 52) hx hb dX4_event_46 (by decide) (fun c_46 => ?_) (fun c_46 => ?_)
                · refine lv_iload_n hx hb dX4_event_52 rfl (lv_at hl 2 rfl) ?_
                  refine lv_if_ne (tgt := 86) hx hb dX4_event_53 (by decide) (fun c_53 => ?_) (fun c_53 => ?_)
                  · refine lv_iload_n hx hb dX4_event_86 rfl (lv_at hl 2 rfl) ?_
                    refine lv_iconst (v := 2) hx hb dX4_event_87 (by decide) ?_
                    refine lv_icmp_ne (tgt := 103) hx hb dX4_event_88 (by decide) (fun c_88 => ?_) (fun c_88 => ?_)
                    · refine lv_aload_n hx hb dX4_event_103 rfl (lv_at hl 0 rfl) ?_
                      refine pw_get (ci := 4) (C := RX4) (T := TX4) (N := 23) hx hb hts inX4 hown hK hP m0 e0 rfl 14 (by decide) (hts _ mw_341) (fun _ h9 => h9) rfl dX4_event_104 ?_
                      refine lv_iload_n hx hb dX4_event_107 rfl (lv_at hl 1 rfl) ?_
                      refine lv_iload_n hx hb dX4_event_108 rfl (lv_at hl 2 rfl) ?_
                      refine lv_iconst (v := 1) hx hb dX4_event_109 (by decide) ?_
                      refine lv_iadd hx hb dX4_event_110 ?_
                      refine pw_iastN (k := j) hx hb hK hP hD hS m12 0 e12 rfl (by omega) (by decide) dX4_event_111 (fun H locs hP hD hS => ?_)
                      obtain ⟨f_6, ef_6⟩ : ∃ zz : Nat → va_E, zz = va_up f (ad 12) (.inl (cs 0, 12, .inl (upd (A 12) j ((nI v) + 1)))) := ⟨_, rfl⟩
                      have hP : va_P G vwCl (va_pl L f_6) H := by rw [ef_6]; exact hP
                      have hD : va_D (pw_A L s.heap.size) (va_pl L f_6) := by rw [ef_6]; exact hD
                      have hf_6_ad_0 := (show f_6 (ad 0) = f (ad 0) by rw [ef_6]; exact va_up_ne _ _ (h0.ne 0 12 (by decide) (by decide) (by decide))).trans e0
                      have hf_6_ad_9 := (show f_6 (ad 9) = f (ad 9) by rw [ef_6]; exact va_up_ne _ _ (h0.ne 9 12 (by decide) (by decide) (by decide))).trans e9
                      have hf_6_ad_11 := (show f_6 (ad 11) = f (ad 11) by rw [ef_6]; exact va_up_ne _ _ (h0.ne 11 12 (by decide) (by decide) (by decide))).trans e11
                      have hf_6_ad_12 : f_6 (ad 12) = .inl (cs 0, 12, .inl (upd (A 12) j ((nI v) + 1))) := by rw [ef_6]; exact va_up_self _ _ _
                      have hf_6_ad_13 := (show f_6 (ad 13) = f (ad 13) by rw [ef_6]; exact va_up_ne _ _ (h0.ne 13 12 (by decide) (by decide) (by decide))).trans e13
                      have hf_6_ad_14 := (show f_6 (ad 14) = f (ad 14) by rw [ef_6]; exact va_up_ne _ _ (h0.ne 14 12 (by decide) (by decide) (by decide))).trans e14
                      have qf_6 : RS cs L f_6 ad t lm nN nM rs lk (rA A 12 j ((nI v) + 1)) Bq := by rw [ef_6]; exact h0.setA 12 j ((nI v) + 1) (by decide) (by decide)
                      refine lv_aload_n hx hb dX4_event_112 rfl (lv_at hl 0 rfl) ?_
                      refine pw_get (ci := 4) (C := RX4) (T := TX4) (N := 23) hx hb hts inX4 hown hK hP m0 hf_6_ad_0 rfl 15 (by decide) (hts _ mw_342) (fun _ h9 => h9) rfl dX4_event_113 ?_
                      refine lv_iload_n hx hb dX4_event_116 rfl (lv_at hl 1 rfl) ?_
                      refine lv_aload_n hx hb dX4_event_117 rfl (lv_at hl 0 rfl) ?_
                      refine pw_get (ci := 4) (C := RX4) (T := TX4) (N := 23) hx hb hts inX4 hown hK hP m0 hf_6_ad_0 rfl 0 (by decide) (hts _ mw_327) (fun _ h9 => h9) rfl dX4_event_118 ?_
                      refine pw_iastN (k := j) hx hb hK hP hD hS m13 0 hf_6_ad_13 rfl (by omega) (by decide) dX4_event_121 (fun H locs hP hD hS => ?_)
                      obtain ⟨f_7, ef_7⟩ : ∃ zz : Nat → va_E, zz = va_up f_6 (ad 13) (.inl (cs 0, 12, .inl (upd (A 13) j t))) := ⟨_, rfl⟩
                      have hP : va_P G vwCl (va_pl L f_7) H := by rw [ef_7]; exact hP
                      have hD : va_D (pw_A L s.heap.size) (va_pl L f_7) := by rw [ef_7]; exact hD
                      have hf_7_ad_0 := (show f_7 (ad 0) = f_6 (ad 0) by rw [ef_7]; exact va_up_ne _ _ (h0.ne 0 13 (by decide) (by decide) (by decide))).trans hf_6_ad_0
                      have hf_7_ad_9 := (show f_7 (ad 9) = f_6 (ad 9) by rw [ef_7]; exact va_up_ne _ _ (h0.ne 9 13 (by decide) (by decide) (by decide))).trans hf_6_ad_9
                      have hf_7_ad_11 := (show f_7 (ad 11) = f_6 (ad 11) by rw [ef_7]; exact va_up_ne _ _ (h0.ne 11 13 (by decide) (by decide) (by decide))).trans hf_6_ad_11
                      have hf_7_ad_12 := (show f_7 (ad 12) = f_6 (ad 12) by rw [ef_7]; exact va_up_ne _ _ (h0.ne 12 13 (by decide) (by decide) (by decide))).trans hf_6_ad_12
                      have hf_7_ad_13 : f_7 (ad 13) = .inl (cs 0, 12, .inl (upd (A 13) j t)) := by rw [ef_7]; exact va_up_self _ _ _
                      have hf_7_ad_14 := (show f_7 (ad 14) = f_6 (ad 14) by rw [ef_7]; exact va_up_ne _ _ (h0.ne 14 13 (by decide) (by decide) (by decide))).trans hf_6_ad_14
                      have qf_7 : RS cs L f_7 ad t lm nN nM rs lk (rA (rA A 12 j ((nI v) + 1)) 13 j t) Bq := by rw [ef_7]; exact qf_6.setA 13 j t (by decide) (by decide)
                      refine lv_aload_n hx hb dX4_event_122 rfl (lv_at hl 0 rfl) ?_
                      refine pw_get (ci := 4) (C := RX4) (T := TX4) (N := 23) hx hb hts inX4 hown hK hP m0 hf_7_ad_0 rfl 14 (by decide) (hts _ mw_341) (fun _ h9 => h9) rfl dX4_event_123 ?_
                      refine lv_iload_n hx hb dX4_event_126 rfl (lv_at hl 1 rfl) ?_
                      refine pw_ialdN (k := j) hx hb hK hP m12 0 hf_7_ad_12 rfl (by omega) (by decide) dX4_event_127 ?_
                      rw [up_self]
                      have hsp : sR_event (t, lm, nN, nM, A, Bq) (nI j) (nI v) (nI a) = (nI v + 1, (t, lm, nN, nM, rA (rA A 12 j ((nI v) + 1)) 13 j t, Bq)) := by simp only [sR_event, hxj, hxv, hxa, if_neg c_30, if_neg c_46, if_neg c_53, if_neg c_88, sR_ev2, sR_evR]
                      exact pc_reti hx hb hr hlocks hP hD hS dX4_event_128 ⟨rfl, by rw [hsp], rs, lk, by rw [hsp]; exact qf_7⟩
                    · refine lv_aload_n hx hb dX4_event_91 rfl (lv_at hl 0 rfl) ?_
                      refine pw_get (ci := 4) (C := RX4) (T := TX4) (N := 23) hx hb hts inX4 hown hK hP m0 e0 rfl 16 (by decide) (hts _ mw_343) (fun _ h9 => h9) rfl dX4_event_92 ?_
                      refine lv_iload_n hx hb dX4_event_95 rfl (lv_at hl 1 rfl) ?_
                      refine pw_zaldN (k := j) hx hb hK hP m14 2 e14 rfl (by omega) (by decide) dX4_event_96 ?_
                      refine lv_if_ne (tgt := 103) hx hb dX4_event_97 (by decide) (fun c_97 => ?_) (fun c_97 => ?_)
                      · refine lv_aload_n hx hb dX4_event_103 rfl (lv_at hl 0 rfl) ?_
                        refine pw_get (ci := 4) (C := RX4) (T := TX4) (N := 23) hx hb hts inX4 hown hK hP m0 e0 rfl 14 (by decide) (hts _ mw_341) (fun _ h9 => h9) rfl dX4_event_104 ?_
                        refine lv_iload_n hx hb dX4_event_107 rfl (lv_at hl 1 rfl) ?_
                        refine lv_iload_n hx hb dX4_event_108 rfl (lv_at hl 2 rfl) ?_
                        refine lv_iconst (v := 1) hx hb dX4_event_109 (by decide) ?_
                        refine lv_iadd hx hb dX4_event_110 ?_
                        refine pw_iastN (k := j) hx hb hK hP hD hS m12 0 e12 rfl (by omega) (by decide) dX4_event_111 (fun H locs hP hD hS => ?_)
                        obtain ⟨f_8, ef_8⟩ : ∃ zz : Nat → va_E, zz = va_up f (ad 12) (.inl (cs 0, 12, .inl (upd (A 12) j ((nI v) + 1)))) := ⟨_, rfl⟩
                        have hP : va_P G vwCl (va_pl L f_8) H := by rw [ef_8]; exact hP
                        have hD : va_D (pw_A L s.heap.size) (va_pl L f_8) := by rw [ef_8]; exact hD
                        have hf_8_ad_0 := (show f_8 (ad 0) = f (ad 0) by rw [ef_8]; exact va_up_ne _ _ (h0.ne 0 12 (by decide) (by decide) (by decide))).trans e0
                        have hf_8_ad_9 := (show f_8 (ad 9) = f (ad 9) by rw [ef_8]; exact va_up_ne _ _ (h0.ne 9 12 (by decide) (by decide) (by decide))).trans e9
                        have hf_8_ad_11 := (show f_8 (ad 11) = f (ad 11) by rw [ef_8]; exact va_up_ne _ _ (h0.ne 11 12 (by decide) (by decide) (by decide))).trans e11
                        have hf_8_ad_12 : f_8 (ad 12) = .inl (cs 0, 12, .inl (upd (A 12) j ((nI v) + 1))) := by rw [ef_8]; exact va_up_self _ _ _
                        have hf_8_ad_13 := (show f_8 (ad 13) = f (ad 13) by rw [ef_8]; exact va_up_ne _ _ (h0.ne 13 12 (by decide) (by decide) (by decide))).trans e13
                        have hf_8_ad_14 := (show f_8 (ad 14) = f (ad 14) by rw [ef_8]; exact va_up_ne _ _ (h0.ne 14 12 (by decide) (by decide) (by decide))).trans e14
                        have qf_8 : RS cs L f_8 ad t lm nN nM rs lk (rA A 12 j ((nI v) + 1)) Bq := by rw [ef_8]; exact h0.setA 12 j ((nI v) + 1) (by decide) (by decide)
                        refine lv_aload_n hx hb dX4_event_112 rfl (lv_at hl 0 rfl) ?_
                        refine pw_get (ci := 4) (C := RX4) (T := TX4) (N := 23) hx hb hts inX4 hown hK hP m0 hf_8_ad_0 rfl 15 (by decide) (hts _ mw_342) (fun _ h9 => h9) rfl dX4_event_113 ?_
                        refine lv_iload_n hx hb dX4_event_116 rfl (lv_at hl 1 rfl) ?_
                        refine lv_aload_n hx hb dX4_event_117 rfl (lv_at hl 0 rfl) ?_
                        refine pw_get (ci := 4) (C := RX4) (T := TX4) (N := 23) hx hb hts inX4 hown hK hP m0 hf_8_ad_0 rfl 0 (by decide) (hts _ mw_327) (fun _ h9 => h9) rfl dX4_event_118 ?_
                        refine pw_iastN (k := j) hx hb hK hP hD hS m13 0 hf_8_ad_13 rfl (by omega) (by decide) dX4_event_121 (fun H locs hP hD hS => ?_)
                        obtain ⟨f_9, ef_9⟩ : ∃ zz : Nat → va_E, zz = va_up f_8 (ad 13) (.inl (cs 0, 12, .inl (upd (A 13) j t))) := ⟨_, rfl⟩
                        have hP : va_P G vwCl (va_pl L f_9) H := by rw [ef_9]; exact hP
                        have hD : va_D (pw_A L s.heap.size) (va_pl L f_9) := by rw [ef_9]; exact hD
                        have hf_9_ad_0 := (show f_9 (ad 0) = f_8 (ad 0) by rw [ef_9]; exact va_up_ne _ _ (h0.ne 0 13 (by decide) (by decide) (by decide))).trans hf_8_ad_0
                        have hf_9_ad_9 := (show f_9 (ad 9) = f_8 (ad 9) by rw [ef_9]; exact va_up_ne _ _ (h0.ne 9 13 (by decide) (by decide) (by decide))).trans hf_8_ad_9
                        have hf_9_ad_11 := (show f_9 (ad 11) = f_8 (ad 11) by rw [ef_9]; exact va_up_ne _ _ (h0.ne 11 13 (by decide) (by decide) (by decide))).trans hf_8_ad_11
                        have hf_9_ad_12 := (show f_9 (ad 12) = f_8 (ad 12) by rw [ef_9]; exact va_up_ne _ _ (h0.ne 12 13 (by decide) (by decide) (by decide))).trans hf_8_ad_12
                        have hf_9_ad_13 : f_9 (ad 13) = .inl (cs 0, 12, .inl (upd (A 13) j t)) := by rw [ef_9]; exact va_up_self _ _ _
                        have hf_9_ad_14 := (show f_9 (ad 14) = f_8 (ad 14) by rw [ef_9]; exact va_up_ne _ _ (h0.ne 14 13 (by decide) (by decide) (by decide))).trans hf_8_ad_14
                        have qf_9 : RS cs L f_9 ad t lm nN nM rs lk (rA (rA A 12 j ((nI v) + 1)) 13 j t) Bq := by rw [ef_9]; exact qf_8.setA 13 j t (by decide) (by decide)
                        refine lv_aload_n hx hb dX4_event_122 rfl (lv_at hl 0 rfl) ?_
                        refine pw_get (ci := 4) (C := RX4) (T := TX4) (N := 23) hx hb hts inX4 hown hK hP m0 hf_9_ad_0 rfl 14 (by decide) (hts _ mw_341) (fun _ h9 => h9) rfl dX4_event_123 ?_
                        refine lv_iload_n hx hb dX4_event_126 rfl (lv_at hl 1 rfl) ?_
                        refine pw_ialdN (k := j) hx hb hK hP m12 0 hf_9_ad_12 rfl (by omega) (by decide) dX4_event_127 ?_
                        rw [up_self]
                        have hsp : sR_event (t, lm, nN, nM, A, Bq) (nI j) (nI v) (nI a) = (nI v + 1, (t, lm, nN, nM, rA (rA A 12 j ((nI v) + 1)) 13 j t, Bq)) := by simp only [sR_event, hxj, hxv, hxa, if_neg c_30, if_neg c_46, if_neg c_53, if_pos c_88, if_neg c_97, sR_ev2, sR_evR]
                        exact pc_reti hx hb hr hlocks hP hD hS dX4_event_128 ⟨rfl, by rw [hsp], rs, lk, by rw [hsp]; exact qf_9⟩
                      · refine lv_bipush (v := (-5)) hx hb dX4_event_100 (by decide) ?_
                        have hsp : sR_event (t, lm, nN, nM, A, Bq) (nI j) (nI v) (nI a) = ((-5), (t, lm, nN, nM, A, Bq)) := by simp only [sR_event, hxj, hxv, hxa, if_neg c_30, if_neg c_46, if_neg c_53, if_pos c_88, if_pos c_97, sR_ev2, sR_evR]
                        exact pc_reti hx hb hr hlocks hP hD hS dX4_event_102 ⟨rfl, by rw [hsp], rs, lk, by rw [hsp]; exact h0⟩
                  · refine lv_aload_n hx hb dX4_event_56 rfl (lv_at hl 0 rfl) ?_
                    refine pw_get (ci := 4) (C := RX4) (T := TX4) (N := 23) hx hb hts inX4 hown hK hP m0 e0 rfl 0 (by decide) (hts _ mw_327) (fun _ h9 => h9) rfl dX4_event_57 ?_
                    refine lv_aload_n hx hb dX4_event_60 rfl (lv_at hl 0 rfl) ?_
                    refine pw_get (ci := 4) (C := RX4) (T := TX4) (N := 23) hx hb hts inX4 hown hK hP m0 e0 rfl 13 (by decide) (hts _ mw_340) (fun _ h9 => h9) rfl dX4_event_61 ?_
                    refine lv_iload_n hx hb dX4_event_64 rfl (lv_at hl 1 rfl) ?_
                    refine pw_ialdN (k := j) hx hb hK hP m11 0 e11 rfl (by omega) (by decide) dX4_event_65 ?_
                    refine lv_icmp_lt (tgt := 83) hx hb dX4_event_66 (by decide) (fun c_66 => ?_) (fun c_66 => ?_)
                    · refine lv_bipush (v := (-4)) hx hb dX4_event_83 (by decide) ?_
                      have hsp : sR_event (t, lm, nN, nM, A, Bq) (nI j) (nI v) (nI a) = ((-4), (t, lm, nN, nM, A, Bq)) := by simp only [sR_event, hxj, hxv, hxa, if_neg c_30, if_neg c_46, if_pos c_53, if_pos c_66, sR_ev2, sR_evR]
                      exact pc_reti hx hb hr hlocks hP hD hS dX4_event_85 ⟨rfl, by rw [hsp], rs, lk, by rw [hsp]; exact h0⟩
                    · refine lv_aload_n hx hb dX4_event_69 rfl (lv_at hl 0 rfl) ?_
                      refine lv_aload_n hx hb dX4_event_70 rfl (lv_at hl 0 rfl) ?_
                      refine pw_get (ci := 4) (C := RX4) (T := TX4) (N := 23) hx hb hts inX4 hown hK hP m0 e0 rfl 11 (by decide) (hts _ mw_338) (fun _ h9 => h9) rfl dX4_event_71 ?_
                      refine lv_iload_n hx hb dX4_event_74 rfl (lv_at hl 1 rfl) ?_
                      refine pw_ialdN (k := j) hx hb hK hP m9 0 e9 rfl (by omega) (by decide) dX4_event_75 ?_
                      refine pr_callVi (As := [.int ((A 9) j)]) (rest := []) ⟨hx, hb, hml, hown, hts⟩ (k_R_state l G cs L f ad t lm nN nM rs lk A Bq ((A 9) j) h0) (cwV 1 hts (wg_V mw_439 mw_432 mw_433 mw_3 mw_434) rfl rfl rfl (by decide +kernel) ⟨Nat.le_of_ble_eq_true rfl, Nat.le_of_ble_eq_true rfl⟩) hK hP m0 e0 rfl px_T (fun _ _ _ => trivial) rfl hl.1 rfl (lv_room (Nat.le_of_ble_eq_true rfl)) dX4_event_76 ⟨Nat.le_of_ble_eq_true rfl, Nat.le_of_ble_eq_true rfl⟩ (fun r_10 hr_10 => ?_)
                      subst hr_10
                      refine lv_iconst (v := 1) hx hb dX4_event_79 (by decide) ?_
                      refine lv_icmp_eq (tgt := 86) hx hb dX4_event_80 (by decide) (fun c_80 => ?_) (fun c_80 => ?_)
                      · refine lv_iload_n hx hb dX4_event_86 rfl (lv_at hl 2 rfl) ?_
                        refine lv_iconst (v := 2) hx hb dX4_event_87 (by decide) ?_
                        refine lv_icmp_ne (tgt := 103) hx hb dX4_event_88 (by decide) (fun c_88 => ?_) (fun c_88 => ?_)
                        · refine lv_aload_n hx hb dX4_event_103 rfl (lv_at hl 0 rfl) ?_
                          refine pw_get (ci := 4) (C := RX4) (T := TX4) (N := 23) hx hb hts inX4 hown hK hP m0 e0 rfl 14 (by decide) (hts _ mw_341) (fun _ h9 => h9) rfl dX4_event_104 ?_
                          refine lv_iload_n hx hb dX4_event_107 rfl (lv_at hl 1 rfl) ?_
                          refine lv_iload_n hx hb dX4_event_108 rfl (lv_at hl 2 rfl) ?_
                          refine lv_iconst (v := 1) hx hb dX4_event_109 (by decide) ?_
                          refine lv_iadd hx hb dX4_event_110 ?_
                          refine pw_iastN (k := j) hx hb hK hP hD hS m12 0 e12 rfl (by omega) (by decide) dX4_event_111 (fun H locs hP hD hS => ?_)
                          obtain ⟨f_11, ef_11⟩ : ∃ zz : Nat → va_E, zz = va_up f (ad 12) (.inl (cs 0, 12, .inl (upd (A 12) j ((nI v) + 1)))) := ⟨_, rfl⟩
                          have hP : va_P G vwCl (va_pl L f_11) H := by rw [ef_11]; exact hP
                          have hD : va_D (pw_A L s.heap.size) (va_pl L f_11) := by rw [ef_11]; exact hD
                          have hf_11_ad_0 := (show f_11 (ad 0) = f (ad 0) by rw [ef_11]; exact va_up_ne _ _ (h0.ne 0 12 (by decide) (by decide) (by decide))).trans e0
                          have hf_11_ad_9 := (show f_11 (ad 9) = f (ad 9) by rw [ef_11]; exact va_up_ne _ _ (h0.ne 9 12 (by decide) (by decide) (by decide))).trans e9
                          have hf_11_ad_11 := (show f_11 (ad 11) = f (ad 11) by rw [ef_11]; exact va_up_ne _ _ (h0.ne 11 12 (by decide) (by decide) (by decide))).trans e11
                          have hf_11_ad_12 : f_11 (ad 12) = .inl (cs 0, 12, .inl (upd (A 12) j ((nI v) + 1))) := by rw [ef_11]; exact va_up_self _ _ _
                          have hf_11_ad_13 := (show f_11 (ad 13) = f (ad 13) by rw [ef_11]; exact va_up_ne _ _ (h0.ne 13 12 (by decide) (by decide) (by decide))).trans e13
                          have hf_11_ad_14 := (show f_11 (ad 14) = f (ad 14) by rw [ef_11]; exact va_up_ne _ _ (h0.ne 14 12 (by decide) (by decide) (by decide))).trans e14
                          have qf_11 : RS cs L f_11 ad t lm nN nM rs lk (rA A 12 j ((nI v) + 1)) Bq := by rw [ef_11]; exact h0.setA 12 j ((nI v) + 1) (by decide) (by decide)
                          refine lv_aload_n hx hb dX4_event_112 rfl (lv_at hl 0 rfl) ?_
                          refine pw_get (ci := 4) (C := RX4) (T := TX4) (N := 23) hx hb hts inX4 hown hK hP m0 hf_11_ad_0 rfl 15 (by decide) (hts _ mw_342) (fun _ h9 => h9) rfl dX4_event_113 ?_
                          refine lv_iload_n hx hb dX4_event_116 rfl (lv_at hl 1 rfl) ?_
                          refine lv_aload_n hx hb dX4_event_117 rfl (lv_at hl 0 rfl) ?_
                          refine pw_get (ci := 4) (C := RX4) (T := TX4) (N := 23) hx hb hts inX4 hown hK hP m0 hf_11_ad_0 rfl 0 (by decide) (hts _ mw_327) (fun _ h9 => h9) rfl dX4_event_118 ?_
                          refine pw_iastN (k := j) hx hb hK hP hD hS m13 0 hf_11_ad_13 rfl (by omega) (by decide) dX4_event_121 (fun H locs hP hD hS => ?_)
                          obtain ⟨f_12, ef_12⟩ : ∃ zz : Nat → va_E, zz = va_up f_11 (ad 13) (.inl (cs 0, 12, .inl (upd (A 13) j t))) := ⟨_, rfl⟩
                          have hP : va_P G vwCl (va_pl L f_12) H := by rw [ef_12]; exact hP
                          have hD : va_D (pw_A L s.heap.size) (va_pl L f_12) := by rw [ef_12]; exact hD
                          have hf_12_ad_0 := (show f_12 (ad 0) = f_11 (ad 0) by rw [ef_12]; exact va_up_ne _ _ (h0.ne 0 13 (by decide) (by decide) (by decide))).trans hf_11_ad_0
                          have hf_12_ad_9 := (show f_12 (ad 9) = f_11 (ad 9) by rw [ef_12]; exact va_up_ne _ _ (h0.ne 9 13 (by decide) (by decide) (by decide))).trans hf_11_ad_9
                          have hf_12_ad_11 := (show f_12 (ad 11) = f_11 (ad 11) by rw [ef_12]; exact va_up_ne _ _ (h0.ne 11 13 (by decide) (by decide) (by decide))).trans hf_11_ad_11
                          have hf_12_ad_12 := (show f_12 (ad 12) = f_11 (ad 12) by rw [ef_12]; exact va_up_ne _ _ (h0.ne 12 13 (by decide) (by decide) (by decide))).trans hf_11_ad_12
                          have hf_12_ad_13 : f_12 (ad 13) = .inl (cs 0, 12, .inl (upd (A 13) j t)) := by rw [ef_12]; exact va_up_self _ _ _
                          have hf_12_ad_14 := (show f_12 (ad 14) = f_11 (ad 14) by rw [ef_12]; exact va_up_ne _ _ (h0.ne 14 13 (by decide) (by decide) (by decide))).trans hf_11_ad_14
                          have qf_12 : RS cs L f_12 ad t lm nN nM rs lk (rA (rA A 12 j ((nI v) + 1)) 13 j t) Bq := by rw [ef_12]; exact qf_11.setA 13 j t (by decide) (by decide)
                          refine lv_aload_n hx hb dX4_event_122 rfl (lv_at hl 0 rfl) ?_
                          refine pw_get (ci := 4) (C := RX4) (T := TX4) (N := 23) hx hb hts inX4 hown hK hP m0 hf_12_ad_0 rfl 14 (by decide) (hts _ mw_341) (fun _ h9 => h9) rfl dX4_event_123 ?_
                          refine lv_iload_n hx hb dX4_event_126 rfl (lv_at hl 1 rfl) ?_
                          refine pw_ialdN (k := j) hx hb hK hP m12 0 hf_12_ad_12 rfl (by omega) (by decide) dX4_event_127 ?_
                          rw [up_self]
                          have hsp : sR_event (t, lm, nN, nM, A, Bq) (nI j) (nI v) (nI a) = (nI v + 1, (t, lm, nN, nM, rA (rA A 12 j ((nI v) + 1)) 13 j t, Bq)) := by simp only [sR_event, hxj, hxv, hxa, if_neg c_30, if_neg c_46, if_pos c_53, if_neg c_66, if_pos c_80, if_neg c_88, sR_ev2, sR_evR]
                          exact pc_reti hx hb hr hlocks hP hD hS dX4_event_128 ⟨rfl, by rw [hsp], rs, lk, by rw [hsp]; exact qf_12⟩
                        · refine lv_aload_n hx hb dX4_event_91 rfl (lv_at hl 0 rfl) ?_
                          refine pw_get (ci := 4) (C := RX4) (T := TX4) (N := 23) hx hb hts inX4 hown hK hP m0 e0 rfl 16 (by decide) (hts _ mw_343) (fun _ h9 => h9) rfl dX4_event_92 ?_
                          refine lv_iload_n hx hb dX4_event_95 rfl (lv_at hl 1 rfl) ?_
                          refine pw_zaldN (k := j) hx hb hK hP m14 2 e14 rfl (by omega) (by decide) dX4_event_96 ?_
                          refine lv_if_ne (tgt := 103) hx hb dX4_event_97 (by decide) (fun c_97 => ?_) (fun c_97 => ?_)
                          · refine lv_aload_n hx hb dX4_event_103 rfl (lv_at hl 0 rfl) ?_
                            refine pw_get (ci := 4) (C := RX4) (T := TX4) (N := 23) hx hb hts inX4 hown hK hP m0 e0 rfl 14 (by decide) (hts _ mw_341) (fun _ h9 => h9) rfl dX4_event_104 ?_
                            refine lv_iload_n hx hb dX4_event_107 rfl (lv_at hl 1 rfl) ?_
                            refine lv_iload_n hx hb dX4_event_108 rfl (lv_at hl 2 rfl) ?_
                            refine lv_iconst (v := 1) hx hb dX4_event_109 (by decide) ?_
                            refine lv_iadd hx hb dX4_event_110 ?_
                            refine pw_iastN (k := j) hx hb hK hP hD hS m12 0 e12 rfl (by omega) (by decide) dX4_event_111 (fun H locs hP hD hS => ?_)
                            obtain ⟨f_13, ef_13⟩ : ∃ zz : Nat → va_E, zz = va_up f (ad 12) (.inl (cs 0, 12, .inl (upd (A 12) j ((nI v) + 1)))) := ⟨_, rfl⟩
                            have hP : va_P G vwCl (va_pl L f_13) H := by rw [ef_13]; exact hP
                            have hD : va_D (pw_A L s.heap.size) (va_pl L f_13) := by rw [ef_13]; exact hD
                            have hf_13_ad_0 := (show f_13 (ad 0) = f (ad 0) by rw [ef_13]; exact va_up_ne _ _ (h0.ne 0 12 (by decide) (by decide) (by decide))).trans e0
                            have hf_13_ad_9 := (show f_13 (ad 9) = f (ad 9) by rw [ef_13]; exact va_up_ne _ _ (h0.ne 9 12 (by decide) (by decide) (by decide))).trans e9
                            have hf_13_ad_11 := (show f_13 (ad 11) = f (ad 11) by rw [ef_13]; exact va_up_ne _ _ (h0.ne 11 12 (by decide) (by decide) (by decide))).trans e11
                            have hf_13_ad_12 : f_13 (ad 12) = .inl (cs 0, 12, .inl (upd (A 12) j ((nI v) + 1))) := by rw [ef_13]; exact va_up_self _ _ _
                            have hf_13_ad_13 := (show f_13 (ad 13) = f (ad 13) by rw [ef_13]; exact va_up_ne _ _ (h0.ne 13 12 (by decide) (by decide) (by decide))).trans e13
                            have hf_13_ad_14 := (show f_13 (ad 14) = f (ad 14) by rw [ef_13]; exact va_up_ne _ _ (h0.ne 14 12 (by decide) (by decide) (by decide))).trans e14
                            have qf_13 : RS cs L f_13 ad t lm nN nM rs lk (rA A 12 j ((nI v) + 1)) Bq := by rw [ef_13]; exact h0.setA 12 j ((nI v) + 1) (by decide) (by decide)
                            refine lv_aload_n hx hb dX4_event_112 rfl (lv_at hl 0 rfl) ?_
                            refine pw_get (ci := 4) (C := RX4) (T := TX4) (N := 23) hx hb hts inX4 hown hK hP m0 hf_13_ad_0 rfl 15 (by decide) (hts _ mw_342) (fun _ h9 => h9) rfl dX4_event_113 ?_
                            refine lv_iload_n hx hb dX4_event_116 rfl (lv_at hl 1 rfl) ?_
                            refine lv_aload_n hx hb dX4_event_117 rfl (lv_at hl 0 rfl) ?_
                            refine pw_get (ci := 4) (C := RX4) (T := TX4) (N := 23) hx hb hts inX4 hown hK hP m0 hf_13_ad_0 rfl 0 (by decide) (hts _ mw_327) (fun _ h9 => h9) rfl dX4_event_118 ?_
                            refine pw_iastN (k := j) hx hb hK hP hD hS m13 0 hf_13_ad_13 rfl (by omega) (by decide) dX4_event_121 (fun H locs hP hD hS => ?_)
                            obtain ⟨f_14, ef_14⟩ : ∃ zz : Nat → va_E, zz = va_up f_13 (ad 13) (.inl (cs 0, 12, .inl (upd (A 13) j t))) := ⟨_, rfl⟩
                            have hP : va_P G vwCl (va_pl L f_14) H := by rw [ef_14]; exact hP
                            have hD : va_D (pw_A L s.heap.size) (va_pl L f_14) := by rw [ef_14]; exact hD
                            have hf_14_ad_0 := (show f_14 (ad 0) = f_13 (ad 0) by rw [ef_14]; exact va_up_ne _ _ (h0.ne 0 13 (by decide) (by decide) (by decide))).trans hf_13_ad_0
                            have hf_14_ad_9 := (show f_14 (ad 9) = f_13 (ad 9) by rw [ef_14]; exact va_up_ne _ _ (h0.ne 9 13 (by decide) (by decide) (by decide))).trans hf_13_ad_9
                            have hf_14_ad_11 := (show f_14 (ad 11) = f_13 (ad 11) by rw [ef_14]; exact va_up_ne _ _ (h0.ne 11 13 (by decide) (by decide) (by decide))).trans hf_13_ad_11
                            have hf_14_ad_12 := (show f_14 (ad 12) = f_13 (ad 12) by rw [ef_14]; exact va_up_ne _ _ (h0.ne 12 13 (by decide) (by decide) (by decide))).trans hf_13_ad_12
                            have hf_14_ad_13 : f_14 (ad 13) = .inl (cs 0, 12, .inl (upd (A 13) j t)) := by rw [ef_14]; exact va_up_self _ _ _
                            have hf_14_ad_14 := (show f_14 (ad 14) = f_13 (ad 14) by rw [ef_14]; exact va_up_ne _ _ (h0.ne 14 13 (by decide) (by decide) (by decide))).trans hf_13_ad_14
                            have qf_14 : RS cs L f_14 ad t lm nN nM rs lk (rA (rA A 12 j ((nI v) + 1)) 13 j t) Bq := by rw [ef_14]; exact qf_13.setA 13 j t (by decide) (by decide)
                            refine lv_aload_n hx hb dX4_event_122 rfl (lv_at hl 0 rfl) ?_
                            refine pw_get (ci := 4) (C := RX4) (T := TX4) (N := 23) hx hb hts inX4 hown hK hP m0 hf_14_ad_0 rfl 14 (by decide) (hts _ mw_341) (fun _ h9 => h9) rfl dX4_event_123 ?_
                            refine lv_iload_n hx hb dX4_event_126 rfl (lv_at hl 1 rfl) ?_
                            refine pw_ialdN (k := j) hx hb hK hP m12 0 hf_14_ad_12 rfl (by omega) (by decide) dX4_event_127 ?_
                            rw [up_self]
                            have hsp : sR_event (t, lm, nN, nM, A, Bq) (nI j) (nI v) (nI a) = (nI v + 1, (t, lm, nN, nM, rA (rA A 12 j ((nI v) + 1)) 13 j t, Bq)) := by simp only [sR_event, hxj, hxv, hxa, if_neg c_30, if_neg c_46, if_pos c_53, if_neg c_66, if_pos c_80, if_pos c_88, if_neg c_97, sR_ev2, sR_evR]
                            exact pc_reti hx hb hr hlocks hP hD hS dX4_event_128 ⟨rfl, by rw [hsp], rs, lk, by rw [hsp]; exact qf_14⟩
                          · refine lv_bipush (v := (-5)) hx hb dX4_event_100 (by decide) ?_
                            have hsp : sR_event (t, lm, nN, nM, A, Bq) (nI j) (nI v) (nI a) = ((-5), (t, lm, nN, nM, A, Bq)) := by simp only [sR_event, hxj, hxv, hxa, if_neg c_30, if_neg c_46, if_pos c_53, if_neg c_66, if_pos c_80, if_pos c_88, if_pos c_97, sR_ev2, sR_evR]
                            exact pc_reti hx hb hr hlocks hP hD hS dX4_event_102 ⟨rfl, by rw [hsp], rs, lk, by rw [hsp]; exact h0⟩
                      · refine lv_bipush (v := (-4)) hx hb dX4_event_83 (by decide) ?_
                        have hsp : sR_event (t, lm, nN, nM, A, Bq) (nI j) (nI v) (nI a) = ((-4), (t, lm, nN, nM, A, Bq)) := by simp only [sR_event, hxj, hxv, hxa, if_neg c_30, if_neg c_46, if_pos c_53, if_neg c_66, if_neg c_80, sR_ev2, sR_evR]
                        exact pc_reti hx hb hr hlocks hP hD hS dX4_event_85 ⟨rfl, by rw [hsp], rs, lk, by rw [hsp]; exact h0⟩
                · refine lv_bipush (v := (-3)) hx hb dX4_event_49 (by decide) ?_
                  have hsp : sR_event (t, lm, nN, nM, A, Bq) (nI j) (nI v) (nI a) = ((-3), (t, lm, nN, nM, A, Bq)) := by simp only [sR_event, hxj, hxv, hxa, if_neg c_30, if_pos c_46, sR_ev2, sR_evR]
                  exact pc_reti hx hb hr hlocks hP hD hS dX4_event_51 ⟨rfl, by rw [hsp], rs, lk, by rw [hsp]; exact h0⟩
              · refine lv_bipush (v := (-2)) hx hb dX4_event_33 (by decide) ?_
                have hsp : sR_event (t, lm, nN, nM, A, Bq) (nI j) (nI v) (nI a) = ((-2), (t, lm, nN, nM, A, Bq)) := by simp only [sR_event, hxj, hxv, hxa, if_pos c_30, sR_ev2, sR_evR]
                exact pc_reti hx hb hr hlocks hP hD hS dX4_event_35 ⟨rfl, by rw [hsp], rs, lk, by rw [hsp]; exact h0⟩
            · exact absurd c_19 (by decide)

set_option maxHeartbeats 4000000 in
set_option maxRecDepth 100000 in
theorem k_R_carrier (l : Launch) (G : va_G) (cs : Nat → ClassId) (L : List Nat) (f : Nat → va_E) (sz : Nat) (ad : Nat → Nat) (t lm : Int32) (nN nM : Nat) (rs lk : Int32) (A : RA) (Bq : RB) (m_ c_ : Int32) (h0 : RS cs L f ad t lm nN nM rs lk A Bq) (hcc : ∀ j, j < nM → A 15 j = nI (sR_cc A j) ∧ sR_cc A j ≤ 6) : Met l yX4_carrier (Cond.code yX4_carrier cX4_carrier 4 (some FieldType.int) :: wg) ({ frames := 1, cells := 0, slots := 0, locals := 25 }) (pc_P [.ref (ad 0), .int m_, .int c_] G vwCl (tyl cs) L f sz (fun _ => True)) (va_Qi (fun r u => L = u.1 ∧ r = (sR_carrier (t, lm, nN, nM, A, Bq) m_ c_).1 ∧ ∃ rs' lk', RSx cs u.1 u.2 ad (sR_carrier (t, lm, nN, nM, A, Bq) m_ c_).2 rs' lk') (pc_B G vwCl L sz) (pw_A L sz)) 0 0 (pw_A L sz) := by
  refine Met.ofW (cc := cX4_carrier) (maxL := 4) (ret := (some FieldType.int)) (by decide) rfl ?_
  intro p e s m args below meth c s₁ B hml hv
  obtain ⟨rfl, hsz, hP, hK, hD0, hX⟩ := hv
  have hx := B.exec
  have hb := B.bytes
  have hr := B.returns
  have hts0 := atoms_spec (ws := (Cond.code yX4_carrier cX4_carrier 4 (some FieldType.int) :: wg)) B.pre
  have hts := fun (w : Cond) (h : w ∈ wg) => hts0 w (List.mem_cons_of_mem _ h)
  have hown : s.vm.findClass RX4 = some m.cls := findClass_of_methodNamed B.named
  have hlocks := B.notSynchronized
  subst hsz
  have hD := pw_selfD (sz := s.heap.size) hD0
  have hA : ∀ q : Nat, s.heap.size ≤ q → pw_A L s.heap.size q := fun q h => Or.inr h
  have hS : va_S (pw_A L s.heap.size) s.heap s.heap [] := va_S.rf
  have hl := lv_entry ([.ref (ad 0), .int m_, .int c_]) (n := 4) (Nat.le_of_ble_eq_true rfl)
  rw [lg_entry_eq]
  generalize (lg_sl ([.ref (ad 0), .int m_, .int c_]) ++ List.replicate (4 - (lg_sl ([.ref (ad 0), .int m_, .int c_])).length) Slot.unset).toArray = ls at hl ⊢
  have hl : lv_has ls 4 [(0, .ref (ad 0)), (1, .int m_), (2, .int c_)] := hl
  have hN6 := h0.nN6
  have hM12 := h0.nM12
  have m0 := h0.mem 0 (by decide)
  have e0 := h0.e0
  have m12 := h0.mem 12 (by decide)
  have e12 : f (ad 12) = .inl (cs 0, 12, .inl (A 12)) := h0.ea 12 (by decide) (by decide)
  have m15 := h0.mem 15 (by decide)
  have e15 : f (ad 15) = .inl (cs 0, 12, .inl (A 15)) := h0.ea 15 (by decide) (by decide)
  have m16 := h0.mem 16 (by decide)
  have e16 : f (ad 16) = .inl (cs 0, 72, .inl (A 16)) := h0.ea 16 (by decide) (by decide)
  refine lv_aload_n hx hb dX4_carrier_0 rfl (lv_at hl 0 rfl) ?_
  refine lv_iload_n hx hb dX4_carrier_1 rfl (lv_at hl 1 rfl) ?_
  refine pr_callVi (As := [.int m_]) (rest := []) ⟨hx, hb, hml, hown, hts⟩ (k_R_isM l G cs L f ad t lm nN nM rs lk A Bq m_ h0) (cwV 1 hts (wg_V mw_449 mw_451 ms_12 mw_3 mw_452) rfl rfl rfl (by decide +kernel) ⟨Nat.le_of_ble_eq_true rfl, Nat.le_of_ble_eq_true rfl⟩) hK hP m0 e0 rfl px_T (fun _ _ _ => trivial) rfl hl.1 rfl (lv_room (Nat.le_of_ble_eq_true rfl)) dX4_carrier_2 ⟨Nat.le_of_ble_eq_true rfl, Nat.le_of_ble_eq_true rfl⟩ (fun r_1 hr_1 => ?_)
  rcases sp_in_cases (m := nM) (by omega) m_ with ⟨hxj, hsj⟩ | ⟨j, hj, enj, hxj, hsj⟩
  · obtain rfl : r_1 = 0 := by rw [hr_1, hsj]
    refine lv_if_eq (tgt := 41) hx hb dX4_carrier_5 (by decide) (fun c_5 => ?_) (fun c_5 => ?_)
    · refine lv_iconst (v := (-1)) hx hb dX4_carrier_41 (by decide) ?_
      have hsp : sR_carrier (t, lm, nN, nM, A, Bq) m_ c_ = ((-1), (t, lm, nN, nM, A, Bq)) := by simp [sR_carrier, hxj]
      exact pc_reti hx hb hr hlocks hP hD hS dX4_carrier_42 ⟨rfl, by rw [hsp], rs, lk, by rw [hsp]; exact h0⟩
    · exact absurd c_5 (by decide)
  · obtain rfl : r_1 = 1 := by rw [hr_1, hsj]
    subst enj
    refine lv_if_eq (tgt := 41) hx hb dX4_carrier_5 (by decide) (fun c_5 => ?_) (fun c_5 => ?_)
    · exact absurd c_5 (by decide)
    · refine lv_iload_n hx hb dX4_carrier_8 rfl (lv_at hl 2 rfl) ?_
      refine lv_i2l hx hb dX4_carrier_9 rfl ?_
      refine lv_lconst (v := 0) hx hb dX4_carrier_10 (by decide) ?_
      refine lv_ldc2 hx hb hown (hts _ mw_501) dX4_carrier_11 ?_
      refine pr_callSi (As := [.long c_.toInt64, .long 0, .long 99]) (rest := []) ⟨hx, hb, hml, hown, hts⟩ (k_R_isIn l G cs L f c_.toInt64 0 99) (cwS 3 hts (wg_S mw_403 mw_404 mw_3 mw_405) rfl rfl rfl (by decide +kernel) ⟨Nat.le_of_ble_eq_true rfl, Nat.le_of_ble_eq_true rfl⟩) hK hP px_T (fun _ _ _ => trivial) rfl hl.1 rfl (lv_room (Nat.le_of_ble_eq_true rfl)) dX4_carrier_14 ⟨Nat.le_of_ble_eq_true rfl, Nat.le_of_ble_eq_true rfl⟩ (fun r_2 hr_2 => ?_)
      subst hr_2
      refine lv_if_eq (tgt := 41) hx hb dX4_carrier_17 (by decide) (fun c_17 => ?_) (fun c_17 => ?_)
      · refine lv_iconst (v := (-1)) hx hb dX4_carrier_41 (by decide) ?_
        have hsp : sR_carrier (t, lm, nN, nM, A, Bq) (nI j) c_ = ((-1), (t, lm, nN, nM, A, Bq)) := by simp [sR_carrier, hxj, c_17]
        exact pc_reti hx hb hr hlocks hP hD hS dX4_carrier_42 ⟨rfl, by rw [hsp], rs, lk, by rw [hsp]; exact h0⟩
      · refine lv_aload_n hx hb dX4_carrier_20 rfl (lv_at hl 0 rfl) ?_
        refine pw_get (ci := 4) (C := RX4) (T := TX4) (N := 23) hx hb hts inX4 hown hK hP m0 e0 rfl 14 (by decide) (hts _ mw_341) (fun _ h9 => h9) rfl dX4_carrier_21 ?_
        refine lv_iload_n hx hb dX4_carrier_24 rfl (lv_at hl 1 rfl) ?_
        refine pw_ialdN (k := j) hx hb hK hP m12 0 e12 rfl (by omega) (by decide) dX4_carrier_25 ?_
        refine lv_iconst (v := 1) hx hb dX4_carrier_26 (by decide) ?_
        refine lv_icmp_ne (tgt := 41) hx hb dX4_carrier_27 (by decide) (fun c_27 => ?_) (fun c_27 => ?_)
        · refine lv_iconst (v := (-1)) hx hb dX4_carrier_41 (by decide) ?_
          have hsp : sR_carrier (t, lm, nN, nM, A, Bq) (nI j) c_ = ((-1), (t, lm, nN, nM, A, Bq)) := by simp [sR_carrier, hxj, c_17, c_27]
          exact pc_reti hx hb hr hlocks hP hD hS dX4_carrier_42 ⟨rfl, by rw [hsp], rs, lk, by rw [hsp]; exact h0⟩
        · refine lv_aload_n hx hb dX4_carrier_30 rfl (lv_at hl 0 rfl) ?_
          refine pw_get (ci := 4) (C := RX4) (T := TX4) (N := 23) hx hb hts inX4 hown hK hP m0 e0 rfl 17 (by decide) (hts _ mw_344) (fun _ h9 => h9) rfl dX4_carrier_31 ?_
          refine lv_iload_n hx hb dX4_carrier_34 rfl (lv_at hl 1 rfl) ?_
          refine pw_ialdN (k := j) hx hb hK hP m15 0 e15 rfl (by omega) (by decide) dX4_carrier_35 ?_
          have h15 := (hcc j hj).1
          have h15b := (hcc j hj).2
          rw [h15]
          refine lv_bipush (v := 6) hx hb dX4_carrier_36 (by decide) ?_
          refine lv_icmp_ne (tgt := 43) hx hb dX4_carrier_38 (by decide) (fun c_38 => ?_) (fun c_38 => ?_)
          · have d_38 : ¬ (sR_cc A j) = 6 := fun z => c_38 ((nI_eq (a := (sR_cc A j)) (b := 6) (by omega) (by decide)).mpr z)
            refine lv_bipush (v := 6) hx hb dX4_carrier_43 (by decide) ?_
            refine lv_iload_n hx hb dX4_carrier_45 rfl (lv_at hl 1 rfl) ?_
            refine lv_imul hx hb dX4_carrier_46 ?_
            refine lv_aload_n hx hb dX4_carrier_47 rfl (lv_at hl 0 rfl) ?_
            refine pw_get (ci := 4) (C := RX4) (T := TX4) (N := 23) hx hb hts inX4 hown hK hP m0 e0 rfl 17 (by decide) (hts _ mw_344) (fun _ h9 => h9) rfl dX4_carrier_48 ?_
            refine lv_iload_n hx hb dX4_carrier_51 rfl (lv_at hl 1 rfl) ?_
            refine pw_ialdN (k := j) hx hb hK hP m15 0 e15 rfl (by omega) (by decide) dX4_carrier_52 ?_
            have h15 := (hcc j hj).1
            have h15b := (hcc j hj).2
            rw [h15]
            refine lv_iadd hx hb dX4_carrier_53 ?_
            have eix54 : (6 * (nI j)) + (nI (sR_cc A j)) = nI (6 * j + sR_cc A j) := ld6 j (sR_cc A j)
            rw [eix54]
            refine lv_istore_n (lv' := [(3, .int (nI (6 * j + sR_cc A j))), (0, .ref (ad 0)), (1, .int (nI j)), (2, .int c_)]) hx hb dX4_carrier_54 rfl hl (by decide) rfl (fun ls hl => ?_)
            refine lv_aload_n hx hb dX4_carrier_55 rfl (lv_at hl 1 rfl) ?_
            refine pw_get (ci := 4) (C := RX4) (T := TX4) (N := 23) hx hb hts inX4 hown hK hP m0 e0 rfl 17 (by decide) (hts _ mw_344) (fun _ h9 => h9) rfl dX4_carrier_56 ?_
            refine lv_iload_n hx hb dX4_carrier_59 rfl (lv_at hl 2 rfl) ?_
            refine pw_ialdN (k := j) hx hb hK hP m15 0 e15 rfl (by omega) (by decide) dX4_carrier_60 ?_
            have h15 := (hcc j hj).1
            have h15b := (hcc j hj).2
            rw [h15]
            refine lv_if_le (tgt := 78) hx hb dX4_carrier_61 (by decide) (fun c_61 => ?_) (fun c_61 => ?_)
            · have d_61 : ¬ 0 < sR_cc A j := fun z => (nI_nle z (by omega)) c_61
              refine lv_aload_n hx hb dX4_carrier_78 rfl (lv_at hl 1 rfl) ?_
              refine pw_get (ci := 4) (C := RX4) (T := TX4) (N := 23) hx hb hts inX4 hown hK hP m0 e0 rfl 18 (by decide) (hts _ mw_345) (fun _ h9 => h9) rfl dX4_carrier_79 ?_
              refine lv_iload_n hx hb dX4_carrier_82 rfl (lv_at hl 0 rfl) ?_
              refine lv_iload_n hx hb dX4_carrier_83 rfl (lv_at hl 3 rfl) ?_
              refine pw_iastN (k := 6 * j + sR_cc A j) hx hb hK hP hD hS m16 0 e16 rfl (by omega) (by decide) dX4_carrier_84 (fun H locs hP hD hS => ?_)
              obtain ⟨f_3, ef_3⟩ : ∃ zz : Nat → va_E, zz = va_up f (ad 16) (.inl (cs 0, 72, .inl (upd (A 16) (6 * j + sR_cc A j) c_))) := ⟨_, rfl⟩
              have hP : va_P G vwCl (va_pl L f_3) H := by rw [ef_3]; exact hP
              have hD : va_D (pw_A L s.heap.size) (va_pl L f_3) := by rw [ef_3]; exact hD
              have hf_3_ad_0 := (show f_3 (ad 0) = f (ad 0) by rw [ef_3]; exact va_up_ne _ _ (h0.ne 0 16 (by decide) (by decide) (by decide))).trans e0
              have hf_3_ad_12 := (show f_3 (ad 12) = f (ad 12) by rw [ef_3]; exact va_up_ne _ _ (h0.ne 12 16 (by decide) (by decide) (by decide))).trans e12
              have hf_3_ad_15 := (show f_3 (ad 15) = f (ad 15) by rw [ef_3]; exact va_up_ne _ _ (h0.ne 15 16 (by decide) (by decide) (by decide))).trans e15
              have hf_3_ad_16 : f_3 (ad 16) = .inl (cs 0, 72, .inl (upd (A 16) (6 * j + sR_cc A j) c_)) := by rw [ef_3]; exact va_up_self _ _ _
              have qf_3 : RS cs L f_3 ad t lm nN nM rs lk (rA A 16 (6 * j + sR_cc A j) c_) Bq := by rw [ef_3]; exact h0.setA 16 (6 * j + sR_cc A j) c_ (by decide) (by decide)
              refine lv_aload_n hx hb dX4_carrier_85 rfl (lv_at hl 1 rfl) ?_
              refine pw_get (ci := 4) (C := RX4) (T := TX4) (N := 23) hx hb hts inX4 hown hK hP m0 hf_3_ad_0 rfl 17 (by decide) (hts _ mw_344) (fun _ h9 => h9) rfl dX4_carrier_86 ?_
              refine lv_iload_n hx hb dX4_carrier_89 rfl (lv_at hl 2 rfl) ?_
              refine lv_dup2_11 hx hb dX4_carrier_90 rfl rfl ?_
              refine pw_ialdN (k := j) hx hb hK hP m15 0 hf_3_ad_15 rfl (by omega) (by decide) dX4_carrier_91 ?_
              refine lv_iconst (v := 1) hx hb dX4_carrier_92 (by decide) ?_
              refine lv_iadd hx hb dX4_carrier_93 ?_
              have h15 := (hcc j hj).1
              have eix94 : A 15 j + 1 = nI (sR_cc A j + 1) := by rw [h15]; exact nI_1 _
              rw [eix94]
              refine pw_iastN (k := j) hx hb hK hP hD hS m15 0 hf_3_ad_15 rfl (by omega) (by decide) dX4_carrier_94 (fun H locs hP hD hS => ?_)
              obtain ⟨f_4, ef_4⟩ : ∃ zz : Nat → va_E, zz = va_up f_3 (ad 15) (.inl (cs 0, 12, .inl (upd (A 15) j (nI (sR_cc A j + 1))))) := ⟨_, rfl⟩
              have hP : va_P G vwCl (va_pl L f_4) H := by rw [ef_4]; exact hP
              have hD : va_D (pw_A L s.heap.size) (va_pl L f_4) := by rw [ef_4]; exact hD
              have hf_4_ad_0 := (show f_4 (ad 0) = f_3 (ad 0) by rw [ef_4]; exact va_up_ne _ _ (h0.ne 0 15 (by decide) (by decide) (by decide))).trans hf_3_ad_0
              have hf_4_ad_12 := (show f_4 (ad 12) = f_3 (ad 12) by rw [ef_4]; exact va_up_ne _ _ (h0.ne 12 15 (by decide) (by decide) (by decide))).trans hf_3_ad_12
              have hf_4_ad_15 : f_4 (ad 15) = .inl (cs 0, 12, .inl (upd (A 15) j (nI (sR_cc A j + 1)))) := by rw [ef_4]; exact va_up_self _ _ _
              have hf_4_ad_16 := (show f_4 (ad 16) = f_3 (ad 16) by rw [ef_4]; exact va_up_ne _ _ (h0.ne 16 15 (by decide) (by decide) (by decide))).trans hf_3_ad_16
              have qf_4 : RS cs L f_4 ad t lm nN nM rs lk (rA (rA A 16 (6 * j + sR_cc A j) c_) 15 j (nI (sR_cc A j + 1))) Bq := by rw [ef_4]; exact qf_3.setA 15 j (nI (sR_cc A j + 1)) (by decide) (by decide)
              refine lv_aload_n hx hb dX4_carrier_95 rfl (lv_at hl 1 rfl) ?_
              refine pw_get (ci := 4) (C := RX4) (T := TX4) (N := 23) hx hb hts inX4 hown hK hP m0 hf_4_ad_0 rfl 17 (by decide) (hts _ mw_344) (fun _ h9 => h9) rfl dX4_carrier_96 ?_
              refine lv_iload_n hx hb dX4_carrier_99 rfl (lv_at hl 2 rfl) ?_
              refine pw_ialdN (k := j) hx hb hK hP m15 0 hf_4_ad_15 rfl (by omega) (by decide) dX4_carrier_100 ?_
              rw [up_self]
              have hsp : sR_carrier (t, lm, nN, nM, A, Bq) (nI j) c_ = (nI (sR_cc A j + 1), (t, lm, nN, nM, rA (rA A 16 (6 * j + sR_cc A j) c_) 15 j (nI (sR_cc A j + 1)), Bq)) := by simp [sR_carrier, hxj, c_17, c_27, d_38, d_61]
              exact pc_reti hx hb hr hlocks hP hD hS dX4_carrier_101 ⟨rfl, by rw [hsp], rs, lk, by rw [hsp]; exact qf_4⟩
            · have d_61 : 0 < sR_cc A j := Nat.pos_of_ne_zero (fun z => c_61 (by rw [z]; decide))
              refine lv_aload_n hx hb dX4_carrier_64 rfl (lv_at hl 1 rfl) ?_
              refine pw_get (ci := 4) (C := RX4) (T := TX4) (N := 23) hx hb hts inX4 hown hK hP m0 e0 rfl 18 (by decide) (hts _ mw_345) (fun _ h9 => h9) rfl dX4_carrier_65 ?_
              refine lv_iload_n hx hb dX4_carrier_68 rfl (lv_at hl 0 rfl) ?_
              refine lv_iconst (v := 1) hx hb dX4_carrier_69 (by decide) ?_
              refine lv_isub hx hb dX4_carrier_70 ?_
              have eix71 : (nI (6 * j + sR_cc A j)) - 1 = nI (6 * j + sR_cc A j - 1) := nI_sb (a := 6 * j + sR_cc A j) (b := 1) (by omega)
              rw [eix71]
              refine pw_ialdN (k := 6 * j + sR_cc A j - 1) hx hb hK hP m16 0 e16 rfl (by omega) (by decide) dX4_carrier_71 ?_
              refine lv_iload_n hx hb dX4_carrier_72 rfl (lv_at hl 3 rfl) ?_
              refine lv_icmp_ne (tgt := 78) hx hb dX4_carrier_73 (by decide) (fun c_73 => ?_) (fun c_73 => ?_)
              · refine lv_aload_n hx hb dX4_carrier_78 rfl (lv_at hl 1 rfl) ?_
                refine pw_get (ci := 4) (C := RX4) (T := TX4) (N := 23) hx hb hts inX4 hown hK hP m0 e0 rfl 18 (by decide) (hts _ mw_345) (fun _ h9 => h9) rfl dX4_carrier_79 ?_
                refine lv_iload_n hx hb dX4_carrier_82 rfl (lv_at hl 0 rfl) ?_
                refine lv_iload_n hx hb dX4_carrier_83 rfl (lv_at hl 3 rfl) ?_
                refine pw_iastN (k := 6 * j + sR_cc A j) hx hb hK hP hD hS m16 0 e16 rfl (by omega) (by decide) dX4_carrier_84 (fun H locs hP hD hS => ?_)
                obtain ⟨f_5, ef_5⟩ : ∃ zz : Nat → va_E, zz = va_up f (ad 16) (.inl (cs 0, 72, .inl (upd (A 16) (6 * j + sR_cc A j) c_))) := ⟨_, rfl⟩
                have hP : va_P G vwCl (va_pl L f_5) H := by rw [ef_5]; exact hP
                have hD : va_D (pw_A L s.heap.size) (va_pl L f_5) := by rw [ef_5]; exact hD
                have hf_5_ad_0 := (show f_5 (ad 0) = f (ad 0) by rw [ef_5]; exact va_up_ne _ _ (h0.ne 0 16 (by decide) (by decide) (by decide))).trans e0
                have hf_5_ad_12 := (show f_5 (ad 12) = f (ad 12) by rw [ef_5]; exact va_up_ne _ _ (h0.ne 12 16 (by decide) (by decide) (by decide))).trans e12
                have hf_5_ad_15 := (show f_5 (ad 15) = f (ad 15) by rw [ef_5]; exact va_up_ne _ _ (h0.ne 15 16 (by decide) (by decide) (by decide))).trans e15
                have hf_5_ad_16 : f_5 (ad 16) = .inl (cs 0, 72, .inl (upd (A 16) (6 * j + sR_cc A j) c_)) := by rw [ef_5]; exact va_up_self _ _ _
                have qf_5 : RS cs L f_5 ad t lm nN nM rs lk (rA A 16 (6 * j + sR_cc A j) c_) Bq := by rw [ef_5]; exact h0.setA 16 (6 * j + sR_cc A j) c_ (by decide) (by decide)
                refine lv_aload_n hx hb dX4_carrier_85 rfl (lv_at hl 1 rfl) ?_
                refine pw_get (ci := 4) (C := RX4) (T := TX4) (N := 23) hx hb hts inX4 hown hK hP m0 hf_5_ad_0 rfl 17 (by decide) (hts _ mw_344) (fun _ h9 => h9) rfl dX4_carrier_86 ?_
                refine lv_iload_n hx hb dX4_carrier_89 rfl (lv_at hl 2 rfl) ?_
                refine lv_dup2_11 hx hb dX4_carrier_90 rfl rfl ?_
                refine pw_ialdN (k := j) hx hb hK hP m15 0 hf_5_ad_15 rfl (by omega) (by decide) dX4_carrier_91 ?_
                refine lv_iconst (v := 1) hx hb dX4_carrier_92 (by decide) ?_
                refine lv_iadd hx hb dX4_carrier_93 ?_
                have h15 := (hcc j hj).1
                have eix94 : A 15 j + 1 = nI (sR_cc A j + 1) := by rw [h15]; exact nI_1 _
                rw [eix94]
                refine pw_iastN (k := j) hx hb hK hP hD hS m15 0 hf_5_ad_15 rfl (by omega) (by decide) dX4_carrier_94 (fun H locs hP hD hS => ?_)
                obtain ⟨f_6, ef_6⟩ : ∃ zz : Nat → va_E, zz = va_up f_5 (ad 15) (.inl (cs 0, 12, .inl (upd (A 15) j (nI (sR_cc A j + 1))))) := ⟨_, rfl⟩
                have hP : va_P G vwCl (va_pl L f_6) H := by rw [ef_6]; exact hP
                have hD : va_D (pw_A L s.heap.size) (va_pl L f_6) := by rw [ef_6]; exact hD
                have hf_6_ad_0 := (show f_6 (ad 0) = f_5 (ad 0) by rw [ef_6]; exact va_up_ne _ _ (h0.ne 0 15 (by decide) (by decide) (by decide))).trans hf_5_ad_0
                have hf_6_ad_12 := (show f_6 (ad 12) = f_5 (ad 12) by rw [ef_6]; exact va_up_ne _ _ (h0.ne 12 15 (by decide) (by decide) (by decide))).trans hf_5_ad_12
                have hf_6_ad_15 : f_6 (ad 15) = .inl (cs 0, 12, .inl (upd (A 15) j (nI (sR_cc A j + 1)))) := by rw [ef_6]; exact va_up_self _ _ _
                have hf_6_ad_16 := (show f_6 (ad 16) = f_5 (ad 16) by rw [ef_6]; exact va_up_ne _ _ (h0.ne 16 15 (by decide) (by decide) (by decide))).trans hf_5_ad_16
                have qf_6 : RS cs L f_6 ad t lm nN nM rs lk (rA (rA A 16 (6 * j + sR_cc A j) c_) 15 j (nI (sR_cc A j + 1))) Bq := by rw [ef_6]; exact qf_5.setA 15 j (nI (sR_cc A j + 1)) (by decide) (by decide)
                refine lv_aload_n hx hb dX4_carrier_95 rfl (lv_at hl 1 rfl) ?_
                refine pw_get (ci := 4) (C := RX4) (T := TX4) (N := 23) hx hb hts inX4 hown hK hP m0 hf_6_ad_0 rfl 17 (by decide) (hts _ mw_344) (fun _ h9 => h9) rfl dX4_carrier_96 ?_
                refine lv_iload_n hx hb dX4_carrier_99 rfl (lv_at hl 2 rfl) ?_
                refine pw_ialdN (k := j) hx hb hK hP m15 0 hf_6_ad_15 rfl (by omega) (by decide) dX4_carrier_100 ?_
                rw [up_self]
                have hsp : sR_carrier (t, lm, nN, nM, A, Bq) (nI j) c_ = (nI (sR_cc A j + 1), (t, lm, nN, nM, rA (rA A 16 (6 * j + sR_cc A j) c_) 15 j (nI (sR_cc A j + 1)), Bq)) := by simp [sR_carrier, hxj, c_17, c_27, d_38, d_61, c_73]
                exact pc_reti hx hb hr hlocks hP hD hS dX4_carrier_101 ⟨rfl, by rw [hsp], rs, lk, by rw [hsp]; exact qf_6⟩
              · refine lv_iconst (v := (-1)) hx hb dX4_carrier_76 (by decide) ?_
                have hsp : sR_carrier (t, lm, nN, nM, A, Bq) (nI j) c_ = ((-1), (t, lm, nN, nM, A, Bq)) := by simp [sR_carrier, hxj, c_17, c_27, d_38, d_61, c_73]
                exact pc_reti hx hb hr hlocks hP hD hS dX4_carrier_77 ⟨rfl, by rw [hsp], rs, lk, by rw [hsp]; exact h0⟩
          · have d_38 : (sR_cc A j) = 6 := (nI_eq (a := (sR_cc A j)) (b := 6) (by omega) (by decide)).mp c_38
            refine lv_iconst (v := (-1)) hx hb dX4_carrier_41 (by decide) ?_
            have hsp : sR_carrier (t, lm, nN, nM, A, Bq) (nI j) c_ = ((-1), (t, lm, nN, nM, A, Bq)) := by simp [sR_carrier, hxj, c_17, c_27, d_38]
            exact pc_reti hx hb hr hlocks hP hD hS dX4_carrier_42 ⟨rfl, by rw [hsp], rs, lk, by rw [hsp]; exact h0⟩
