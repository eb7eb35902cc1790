/-! The class: methods that only read. Laid by wip/gen/creads.py. -/
set_option maxHeartbeats 4000000 in
set_option maxRecDepth 100000 in
theorem k_C_nAt (l : Launch) (G : va_G) (cs : Nat → ClassId) (L : List Nat) (f : Nat → va_E) (ad : Nat → Nat) (t lm : Int32) (nN nM : Nat) (ns : Nat → NS) (ms : Nat → MS) (rt : Nat → Int32) (pg : sp_P) (n : Int32) (h0 : PS cs L f ad t lm nN nM ns ms rt pg) : Met l yX3_noticeAt (Cond.code yX3_noticeAt cX3_noticeAt 2 (some (FieldType.object "PaperStates$Notice")) :: wg) ({ frames := 0, cells := 0, slots := 0, locals := 0 }) (pr_P [.ref (ad 0), .int n] G vwCl (tyl cs) L f (fun _ => True)) (va_Sq (fun r => r = (ix nN n).map (fun i => ad (8 + 4 * i)))) 0 0 (fun _ => False) := by
  refine Met.ofW (cc := cX3_noticeAt) (maxL := 2) (ret := (some (FieldType.object "PaperStates$Notice"))) (by decide) rfl ?_
  intro p e s m args below meth c s₁ B hml hv
  obtain ⟨rfl, hP, hK, hX⟩ := hv
  have hx := B.exec
  have hb := B.bytes
  have hr := B.returns
  have hts0 := atoms_spec (ws := (Cond.code yX3_noticeAt cX3_noticeAt 2 (some (FieldType.object "PaperStates$Notice")) :: wg)) B.pre
  have hts := fun (w : Cond) (h : w ∈ wg) => hts0 w (List.mem_cons_of_mem _ h)
  have hown : s.vm.findClass RX3 = some m.cls := findClass_of_methodNamed B.named
  have hlocks := B.notSynchronized
  have hl := lv_entry ([.ref (ad 0), .int n]) (n := 2) (Nat.le_of_ble_eq_true rfl)
  rw [lg_entry_eq]
  generalize (lg_sl ([.ref (ad 0), .int n]) ++ List.replicate (2 - (lg_sl ([.ref (ad 0), .int n])).length) Slot.unset).toArray = ls at hl ⊢
  have hl : lv_has ls 2 [(0, .ref (ad 0)), (1, .int n)] := hl
  have hN6 := h0.nN6
  have hM12 := h0.nM12
  have m0 := h0.mem (pu_lo (r := 0) (by decide))
  have e0 := h0.e0
  have m1 := h0.mem (pu_lo (r := 1) (by decide))
  have e1 := h0.e1
  have m2 := h0.mem (pu_lo (r := 2) (by decide))
  have e2 := h0.e2
  have m3 := h0.mem (pu_lo (r := 3) (by decide))
  have e3 := h0.e3
  refine lv_iload_n hx hb dX3_noticeAt_0 rfl (lv_at hl 1 rfl) ?_
  refine lv_if_lt (tgt := 12) hx hb dX3_noticeAt_1 (by decide) (fun c_1 => ?_) (fun c_1 => ?_)
  · refine lv_null hx hb dX3_noticeAt_12 ?_
    refine lv_goto (tgt := 22) hx hb dX3_noticeAt_13 (by decide) ?_
    exact pr_retq (r := none) hx hb hr hlocks dX3_noticeAt_22 (by simp [ix, c_1])
  · refine lv_iload_n hx hb dX3_noticeAt_4 rfl (lv_at hl 1 rfl) ?_
    refine lv_aload_n hx hb dX3_noticeAt_5 rfl (lv_at hl 0 rfl) ?_
    refine pw_get (ci := 3) (C := RX3) (T := TX3) (N := 8) hx hb hts inX3 hown hK hP m0 e0 rfl 4 (by decide) (hts _ mw_37) (fun _ h9 => h9) rfl dX3_noticeAt_6 ?_
    refine lv_icmp_lt (tgt := 16) hx hb dX3_noticeAt_9 (by decide) (fun c_9 => ?_) (fun c_9 => ?_)
    · obtain ⟨i, hi, rfl⟩ : ∃ i, i < nN ∧ n = nI i := by
          obtain ⟨i, h1, rfl⟩ := nI_of c_1
          exact ⟨i, (nI_ltI h1 (by omega)).mp c_9, rfl⟩
      refine lv_aload_n hx hb dX3_noticeAt_16 rfl (lv_at hl 0 rfl) ?_
      refine pw_get (ci := 3) (C := RX3) (T := TX3) (N := 8) hx hb hts inX3 hown hK hP m0 e0 rfl 0 (by decide) (hts _ mw_33) (fun _ h9 => h9) rfl dX3_noticeAt_17 ?_
      refine lv_iload_n hx hb dX3_noticeAt_20 rfl (lv_at hl 1 rfl) ?_
      refine pw_aldqN (k := i) hx hb hK hP m1 4 e1 rfl (by omega) (by decide) dX3_noticeAt_21 ?_
      exact pr_retq hx hb hr hlocks dX3_noticeAt_22 (by rw [ix_nI hi (by omega)]; exact if_pos hi)
    · refine lv_null hx hb dX3_noticeAt_12 ?_
      refine lv_goto (tgt := 22) hx hb dX3_noticeAt_13 (by decide) ?_
      exact pr_retq (r := none) hx hb hr hlocks dX3_noticeAt_22 (by simp [ix, c_1, c_9])

set_option maxHeartbeats 4000000 in
set_option maxRecDepth 100000 in
theorem k_C_mAt (l : Launch) (G : va_G) (cs : Nat → ClassId) (L : List Nat) (f : Nat → va_E) (ad : Nat → Nat) (t lm : Int32) (nN nM : Nat) (ns : Nat → NS) (ms : Nat → MS) (rt : Nat → Int32) (pg : sp_P) (n : Int32) (h0 : PS cs L f ad t lm nN nM ns ms rt pg) : Met l yX3_moveAt (Cond.code yX3_moveAt cX3_moveAt 2 (some (FieldType.object "PaperStates$Move")) :: wg) ({ frames := 0, cells := 0, slots := 0, locals := 0 }) (pr_P [.ref (ad 0), .int n] G vwCl (tyl cs) L f (fun _ => True)) (va_Sq (fun r => r = (ix nM n).map (fun i => ad (32 + 2 * i)))) 0 0 (fun _ => False) := by
  refine Met.ofW (cc := cX3_moveAt) (maxL := 2) (ret := (some (FieldType.object "PaperStates$Move"))) (by decide) rfl ?_
  intro p e s m args below meth c s₁ B hml hv
  obtain ⟨rfl, hP, hK, hX⟩ := hv
  have hx := B.exec
  have hb := B.bytes
  have hr := B.returns
  have hts0 := atoms_spec (ws := (Cond.code yX3_moveAt cX3_moveAt 2 (some (FieldType.object "PaperStates$Move")) :: wg)) B.pre
  have hts := fun (w : Cond) (h : w ∈ wg) => hts0 w (List.mem_cons_of_mem _ h)
  have hown : s.vm.findClass RX3 = some m.cls := findClass_of_methodNamed B.named
  have hlocks := B.notSynchronized
  have hl := lv_entry ([.ref (ad 0), .int n]) (n := 2) (Nat.le_of_ble_eq_true rfl)
  rw [lg_entry_eq]
  generalize (lg_sl ([.ref (ad 0), .int n]) ++ List.replicate (2 - (lg_sl ([.ref (ad 0), .int n])).length) Slot.unset).toArray = ls at hl ⊢
  have hl : lv_has ls 2 [(0, .ref (ad 0)), (1, .int n)] := hl
  have hN6 := h0.nN6
  have hM12 := h0.nM12
  have m0 := h0.mem (pu_lo (r := 0) (by decide))
  have e0 := h0.e0
  have m1 := h0.mem (pu_lo (r := 1) (by decide))
  have e1 := h0.e1
  have m2 := h0.mem (pu_lo (r := 2) (by decide))
  have e2 := h0.e2
  have m3 := h0.mem (pu_lo (r := 3) (by decide))
  have e3 := h0.e3
  refine lv_iload_n hx hb dX3_moveAt_0 rfl (lv_at hl 1 rfl) ?_
  refine lv_if_lt (tgt := 12) hx hb dX3_moveAt_1 (by decide) (fun c_1 => ?_) (fun c_1 => ?_)
  · refine lv_null hx hb dX3_moveAt_12 ?_
    refine lv_goto (tgt := 22) hx hb dX3_moveAt_13 (by decide) ?_
    exact pr_retq (r := none) hx hb hr hlocks dX3_moveAt_22 (by simp [ix, c_1])
  · refine lv_iload_n hx hb dX3_moveAt_4 rfl (lv_at hl 1 rfl) ?_
    refine lv_aload_n hx hb dX3_moveAt_5 rfl (lv_at hl 0 rfl) ?_
    refine pw_get (ci := 3) (C := RX3) (T := TX3) (N := 8) hx hb hts inX3 hown hK hP m0 e0 rfl 5 (by decide) (hts _ mw_38) (fun _ h9 => h9) rfl dX3_moveAt_6 ?_
    refine lv_icmp_lt (tgt := 16) hx hb dX3_moveAt_9 (by decide) (fun c_9 => ?_) (fun c_9 => ?_)
    · obtain ⟨i, hi, rfl⟩ : ∃ i, i < nM ∧ n = nI i := by
          obtain ⟨i, h1, rfl⟩ := nI_of c_1
          exact ⟨i, (nI_ltI h1 (by omega)).mp c_9, rfl⟩
      refine lv_aload_n hx hb dX3_moveAt_16 rfl (lv_at hl 0 rfl) ?_
      refine pw_get (ci := 3) (C := RX3) (T := TX3) (N := 8) hx hb hts inX3 hown hK hP m0 e0 rfl 1 (by decide) (hts _ mw_34) (fun _ h9 => h9) rfl dX3_moveAt_17 ?_
      refine lv_iload_n hx hb dX3_moveAt_20 rfl (lv_at hl 1 rfl) ?_
      refine pw_aldqN (k := i) hx hb hK hP m2 5 e2 rfl (by omega) (by decide) dX3_moveAt_21 ?_
      exact pr_retq hx hb hr hlocks dX3_moveAt_22 (by rw [ix_nI hi (by omega)]; exact if_pos hi)
    · refine lv_null hx hb dX3_moveAt_12 ?_
      refine lv_goto (tgt := 22) hx hb dX3_moveAt_13 (by decide) ?_
      exact pr_retq (r := none) hx hb hr hlocks dX3_moveAt_22 (by simp [ix, c_1, c_9])

set_option maxHeartbeats 4000000 in
set_option maxRecDepth 100000 in
theorem k_C_isP (l : Launch) (G : va_G) (cs : Nat → ClassId) (L : List Nat) (f : Nat → va_E) (n : Int32) : Met l yX3_isPerson (Cond.code yX3_isPerson cX3_isPerson 1 (some FieldType.boolean) :: wg) ({ frames := 0, cells := 0, slots := 0, locals := 0 }) (pr_P [.int n] G vwCl (tyl cs) L f (fun _ => True)) (vp_Si (fun r => r = sp_in 8 n)) 0 0 (fun _ => False) := by
  refine Met.ofW (cc := cX3_isPerson) (maxL := 1) (ret := (some FieldType.boolean)) (by decide) rfl ?_
  intro p e s m args below meth c s₁ B hml hv
  obtain ⟨rfl, hP, hK, hX⟩ := hv
  have hx := B.exec
  have hb := B.bytes
  have hr := B.returns
  have hts0 := atoms_spec (ws := (Cond.code yX3_isPerson cX3_isPerson 1 (some FieldType.boolean) :: wg)) B.pre
  have hts := fun (w : Cond) (h : w ∈ wg) => hts0 w (List.mem_cons_of_mem _ h)
  have hown : s.vm.findClass RX3 = some m.cls := findClass_of_methodNamed B.named
  have hlocks := B.notSynchronized
  have hl := lv_entry ([.int n]) (n := 1) (Nat.le_of_ble_eq_true rfl)
  rw [lg_entry_eq]
  generalize (lg_sl ([.int n]) ++ List.replicate (1 - (lg_sl ([.int n])).length) Slot.unset).toArray = ls at hl ⊢
  have hl : lv_has ls 1 [(0, .int n)] := hl
  refine lv_iload_n hx hb dX3_isPerson_0 rfl (lv_at hl 0 rfl) ?_
  refine lv_if_lt (tgt := 14) hx hb dX3_isPerson_1 (by decide) (fun c_1 => ?_) (fun c_1 => ?_)
  · refine lv_iconst (v := 0) hx hb dX3_isPerson_14 (by decide) ?_
    exact pr_retz hx hb hr rfl hlocks dX3_isPerson_15 (by simp [sp_in, show nI 8 = 8 from rfl, c_1])
  · refine lv_iload_n hx hb dX3_isPerson_4 rfl (lv_at hl 0 rfl) ?_
    refine lv_bipush (v := 8) hx hb dX3_isPerson_5 (by decide) ?_
    refine lv_icmp_ge (tgt := 14) hx hb dX3_isPerson_7 (by decide) (fun c_7 => ?_) (fun c_7 => ?_)
    · refine lv_iconst (v := 0) hx hb dX3_isPerson_14 (by decide) ?_
      exact pr_retz hx hb hr rfl hlocks dX3_isPerson_15 (by simp [sp_in, show nI 8 = 8 from rfl, c_1, c_7])
    · refine lv_iconst (v := 1) hx hb dX3_isPerson_10 (by decide) ?_
      refine lv_goto (tgt := 15) hx hb dX3_isPerson_11 (by decide) ?_
      exact pr_retz hx hb hr rfl hlocks dX3_isPerson_15 (by simp [sp_in, show nI 8 = 8 from rfl, c_1, c_7])

set_option maxHeartbeats 4000000 in
set_option maxRecDepth 100000 in
theorem k_C_isE (l : Launch) (G : va_G) (cs : Nat → ClassId) (L : List Nat) (f : Nat → va_E) (n : Int32) : Met l yX3_isEvent (Cond.code yX3_isEvent cX3_isEvent 1 (some FieldType.boolean) :: wg) ({ frames := 0, cells := 0, slots := 0, locals := 0 }) (pr_P [.int n] G vwCl (tyl cs) L f (fun _ => True)) (vp_Si (fun r => r = sp_in 5 n)) 0 0 (fun _ => False) := by
  refine Met.ofW (cc := cX3_isEvent) (maxL := 1) (ret := (some FieldType.boolean)) (by decide) rfl ?_
  intro p e s m args below meth c s₁ B hml hv
  obtain ⟨rfl, hP, hK, hX⟩ := hv
  have hx := B.exec
  have hb := B.bytes
  have hr := B.returns
  have hts0 := atoms_spec (ws := (Cond.code yX3_isEvent cX3_isEvent 1 (some FieldType.boolean) :: wg)) B.pre
  have hts := fun (w : Cond) (h : w ∈ wg) => hts0 w (List.mem_cons_of_mem _ h)
  have hown : s.vm.findClass RX3 = some m.cls := findClass_of_methodNamed B.named
  have hlocks := B.notSynchronized
  have hl := lv_entry ([.int n]) (n := 1) (Nat.le_of_ble_eq_true rfl)
  rw [lg_entry_eq]
  generalize (lg_sl ([.int n]) ++ List.replicate (1 - (lg_sl ([.int n])).length) Slot.unset).toArray = ls at hl ⊢
  have hl : lv_has ls 1 [(0, .int n)] := hl
  refine lv_iload_n hx hb dX3_isEvent_0 rfl (lv_at hl 0 rfl) ?_
  refine lv_if_lt (tgt := 13) hx hb dX3_isEvent_1 (by decide) (fun c_1 => ?_) (fun c_1 => ?_)
  · refine lv_iconst (v := 0) hx hb dX3_isEvent_13 (by decide) ?_
    exact pr_retz hx hb hr rfl hlocks dX3_isEvent_14 (by simp [sp_in, show nI 5 = 5 from rfl, c_1])
  · refine lv_iload_n hx hb dX3_isEvent_4 rfl (lv_at hl 0 rfl) ?_
    refine lv_iconst (v := 5) hx hb dX3_isEvent_5 (by decide) ?_
    refine lv_icmp_ge (tgt := 13) hx hb dX3_isEvent_6 (by decide) (fun c_6 => ?_) (fun c_6 => ?_)
    · refine lv_iconst (v := 0) hx hb dX3_isEvent_13 (by decide) ?_
      exact pr_retz hx hb hr rfl hlocks dX3_isEvent_14 (by simp [sp_in, show nI 5 = 5 from rfl, c_1, c_6])
    · refine lv_iconst (v := 1) hx hb dX3_isEvent_9 (by decide) ?_
      refine lv_goto (tgt := 14) hx hb dX3_isEvent_10 (by decide) ?_
      exact pr_retz hx hb hr rfl hlocks dX3_isEvent_14 (by simp [sp_in, show nI 5 = 5 from rfl, c_1, c_6])

set_option maxHeartbeats 4000000 in
set_option maxRecDepth 100000 in
theorem k_C_has (l : Launch) (G : va_G) (cs : Nat → ClassId) (L : List Nat) (f : Nat → va_E) (ad : Nat → Nat) (t lm : Int32) (nN nM : Nat) (ns : Nat → NS) (ms : Nat → MS) (rt : Nat → Int32) (pg : sp_P) (p_ e_ : Int32) (h0 : PS cs L f ad t lm nN nM ns ms rt pg) : Met l yX3_hasRight (Cond.code yX3_hasRight cX3_hasRight 3 (some FieldType.boolean) :: wg) ({ frames := 1, cells := 0, slots := 0, locals := 20 }) (pr_P [.ref (ad 0), .int p_, .int e_] G vwCl (tyl cs) L f (fun _ => True)) (vp_Si (fun r => r = sC_may rt p_ e_)) 0 0 (fun _ => False) := by
  refine Met.ofW (cc := cX3_hasRight) (maxL := 3) (ret := (some FieldType.boolean)) (by decide) rfl ?_
  intro p e s m args below meth c s₁ B hml hv
  obtain ⟨rfl, hP, hK, hX⟩ := hv
  have hx := B.exec
  have hb := B.bytes
  have hr := B.returns
  have hts0 := atoms_spec (ws := (Cond.code yX3_hasRight cX3_hasRight 3 (some FieldType.boolean) :: wg)) B.pre
  have hts := fun (w : Cond) (h : w ∈ wg) => hts0 w (List.mem_cons_of_mem _ h)
  have hown : s.vm.findClass RX3 = some m.cls := findClass_of_methodNamed B.named
  have hlocks := B.notSynchronized
  have hl := lv_entry ([.ref (ad 0), .int p_, .int e_]) (n := 3) (Nat.le_of_ble_eq_true rfl)
  rw [lg_entry_eq]
  generalize (lg_sl ([.ref (ad 0), .int p_, .int e_]) ++ List.replicate (3 - (lg_sl ([.ref (ad 0), .int p_, .int e_])).length) Slot.unset).toArray = ls at hl ⊢
  have hl : lv_has ls 3 [(0, .ref (ad 0)), (1, .int p_), (2, .int e_)] := hl
  have hN6 := h0.nN6
  have hM12 := h0.nM12
  have m0 := h0.mem (pu_lo (r := 0) (by decide))
  have e0 := h0.e0
  have m1 := h0.mem (pu_lo (r := 1) (by decide))
  have e1 := h0.e1
  have m2 := h0.mem (pu_lo (r := 2) (by decide))
  have e2 := h0.e2
  have m3 := h0.mem (pu_lo (r := 3) (by decide))
  have e3 := h0.e3
  refine lv_iload_n hx hb dX3_hasRight_0 rfl (lv_at hl 1 rfl) ?_
  refine pr_callSi (As := [.int p_]) (rest := []) ⟨hx, hb, hml, hown, hts⟩ (k_C_isP l G cs L f p_) (cwS 1 hts (wg_S mw_198 mw_199 mw_1 mw_200) rfl rfl rfl (by decide +kernel) ⟨Nat.le_of_ble_eq_true rfl, Nat.le_of_ble_eq_true rfl⟩) hK hP px_T (fun _ _ _ => trivial) rfl hl.1 rfl (lv_room (Nat.le_of_ble_eq_true rfl)) dX3_hasRight_1 ⟨Nat.le_of_ble_eq_true rfl, Nat.le_of_ble_eq_true rfl⟩ (fun r_1 hr_1 => ?_)
  rcases sp_in_cases (m := 8) (by decide) p_ with ⟨hxa, hsa⟩ | ⟨a, ha, ena, hxa, hsa⟩
  · obtain rfl : r_1 = 0 := by rw [hr_1, hsa]
    refine lv_if_eq (tgt := 31) hx hb dX3_hasRight_4 (by decide) (fun c_4 => ?_) (fun c_4 => ?_)
    · refine lv_iconst (v := 0) hx hb dX3_hasRight_31 (by decide) ?_
      exact pr_retz hx hb hr rfl hlocks dX3_hasRight_32 (by simp [sC_may, hxa])
    · exact absurd c_4 (by decide)
  · obtain rfl : r_1 = 1 := by rw [hr_1, hsa]
    refine lv_if_eq (tgt := 31) hx hb dX3_hasRight_4 (by decide) (fun c_4 => ?_) (fun c_4 => ?_)
    · exact absurd c_4 (by decide)
    · refine lv_iload_n hx hb dX3_hasRight_7 rfl (lv_at hl 2 rfl) ?_
      refine pr_callSi (As := [.int e_]) (rest := []) ⟨hx, hb, hml, hown, hts⟩ (k_C_isE l G cs L f e_) (cwS 1 hts (wg_S mw_201 mw_202 mw_1 mw_203) rfl rfl rfl (by decide +kernel) ⟨Nat.le_of_ble_eq_true rfl, Nat.le_of_ble_eq_true rfl⟩) hK hP px_T (fun _ _ _ => trivial) rfl hl.1 rfl (lv_room (Nat.le_of_ble_eq_true rfl)) dX3_hasRight_8 ⟨Nat.le_of_ble_eq_true rfl, Nat.le_of_ble_eq_true rfl⟩ (fun r_2 hr_2 => ?_)
      rcases sp_in_cases (m := 5) (by decide) e_ with ⟨hxb, hsb⟩ | ⟨b, hb_, enb, hxb, hsb⟩
      · obtain rfl : r_2 = 0 := by rw [hr_2, hsb]
        refine lv_if_eq (tgt := 31) hx hb dX3_hasRight_11 (by decide) (fun c_11 => ?_) (fun c_11 => ?_)
        · refine lv_iconst (v := 0) hx hb dX3_hasRight_31 (by decide) ?_
          exact pr_retz hx hb hr rfl hlocks dX3_hasRight_32 (by simp [sC_may, hxa, hxb])
        · exact absurd c_11 (by decide)
      · obtain rfl : r_2 = 1 := by rw [hr_2, hsb]
        refine lv_if_eq (tgt := 31) hx hb dX3_hasRight_11 (by decide) (fun c_11 => ?_) (fun c_11 => ?_)
        · exact absurd c_11 (by decide)
        · refine lv_aload_n hx hb dX3_hasRight_14 rfl (lv_at hl 0 rfl) ?_
          refine pw_get (ci := 3) (C := RX3) (T := TX3) (N := 8) hx hb hts inX3 hown hK hP m0 e0 rfl 2 (by decide) (hts _ mw_35) (fun _ h9 => h9) rfl dX3_hasRight_15 ?_
          refine lv_iload_n hx hb dX3_hasRight_18 rfl (lv_at hl 1 rfl) ?_
          refine lv_iconst (v := 5) hx hb dX3_hasRight_19 (by decide) ?_
          refine lv_imul hx hb dX3_hasRight_20 ?_
          refine lv_iload_n hx hb dX3_hasRight_21 rfl (lv_at hl 2 rfl) ?_
          refine lv_iadd hx hb dX3_hasRight_22 ?_
          have eix : p_ * 5 + e_ = nI (a * 5 + b) := by rw [ena, enb]; exact rt_ix ha hb_
          rw [eix]
          refine pw_zaldN (k := a * 5 + b) hx hb hK hP m3 2 e3 rfl (by omega) (by decide) dX3_hasRight_23 ?_
          refine lv_if_eq (tgt := 31) hx hb dX3_hasRight_24 (by decide) (fun c_24 => ?_) (fun c_24 => ?_)
          · refine lv_iconst (v := 0) hx hb dX3_hasRight_31 (by decide) ?_
            exact pr_retz hx hb hr rfl hlocks dX3_hasRight_32 (by simp [sC_may, hxa, hxb, c_24])
          · refine lv_iconst (v := 1) hx hb dX3_hasRight_27 (by decide) ?_
            refine lv_goto (tgt := 32) hx hb dX3_hasRight_28 (by decide) ?_
            exact pr_retz hx hb hr rfl hlocks dX3_hasRight_32 (by simp [sC_may, hxa, hxb, c_24])

set_option maxHeartbeats 4000000 in
set_option maxRecDepth 100000 in
theorem k_C_may (l : Launch) (G : va_G) (cs : Nat → ClassId) (L : List Nat) (f : Nat → va_E) (ad : Nat → Nat) (t lm : Int32) (nN nM : Nat) (ns : Nat → NS) (ms : Nat → MS) (rt : Nat → Int32) (pg : sp_P) (p_ e_ : Int32) (h0 : PS cs L f ad t lm nN nM ns ms rt pg) : Met l yX3_may (Cond.code yX3_may cX3_may 3 (some FieldType.boolean) :: wg) ({ frames := 2, cells := 0, slots := 0, locals := 42 }) (pr_P [.ref (ad 0), .int p_, .int e_] G vwCl (tyl cs) L f (fun _ => True)) (vp_Si (fun r => r = sC_may rt p_ e_)) 0 0 (fun _ => False) := by
  refine Met.ofW (cc := cX3_may) (maxL := 3) (ret := (some FieldType.boolean)) (by decide) rfl ?_
  intro p e s m args below meth c s₁ B hml hv
  obtain ⟨rfl, hP, hK, hX⟩ := hv
  have hx := B.exec
  have hb := B.bytes
  have hr := B.returns
  have hts0 := atoms_spec (ws := (Cond.code yX3_may cX3_may 3 (some FieldType.boolean) :: wg)) B.pre
  have hts := fun (w : Cond) (h : w ∈ wg) => hts0 w (List.mem_cons_of_mem _ h)
  have hown : s.vm.findClass RX3 = some m.cls := findClass_of_methodNamed B.named
  have hlocks := B.notSynchronized
  have hl := lv_entry ([.ref (ad 0), .int p_, .int e_]) (n := 3) (Nat.le_of_ble_eq_true rfl)
  rw [lg_entry_eq]
  generalize (lg_sl ([.ref (ad 0), .int p_, .int e_]) ++ List.replicate (3 - (lg_sl ([.ref (ad 0), .int p_, .int e_])).length) Slot.unset).toArray = ls at hl ⊢
  have hl : lv_has ls 3 [(0, .ref (ad 0)), (1, .int p_), (2, .int e_)] := hl
  have hN6 := h0.nN6
  have hM12 := h0.nM12
  have m0 := h0.mem (pu_lo (r := 0) (by decide))
  have e0 := h0.e0
  have m1 := h0.mem (pu_lo (r := 1) (by decide))
  have e1 := h0.e1
  have m2 := h0.mem (pu_lo (r := 2) (by decide))
  have e2 := h0.e2
  have m3 := h0.mem (pu_lo (r := 3) (by decide))
  have e3 := h0.e3
  refine lv_aload_n hx hb dX3_may_0 rfl (lv_at hl 0 rfl) ?_
  refine lv_iload_n hx hb dX3_may_1 rfl (lv_at hl 1 rfl) ?_
  refine lv_iload_n hx hb dX3_may_2 rfl (lv_at hl 2 rfl) ?_
  refine pr_callVi (As := [.int p_, .int e_]) (rest := []) ⟨hx, hb, hml, hown, hts⟩ (k_C_has l G cs L f ad t lm nN nM ns ms rt pg p_ e_ h0) (cwV 2 hts (wg_V mw_208 mw_210 ms_4 mw_1 mw_211) rfl rfl rfl (by decide +kernel) ⟨Nat.le_of_ble_eq_true rfl, Nat.le_of_ble_eq_true rfl⟩) hK hP m0 e0 rfl px_T (fun _ _ _ => trivial) rfl hl.1 rfl (lv_room (Nat.le_of_ble_eq_true rfl)) dX3_may_3 ⟨Nat.le_of_ble_eq_true rfl, Nat.le_of_ble_eq_true rfl⟩ (fun r_1 hr_1 => ?_)
  subst hr_1
  exact pr_retz hx hb hr (nb_01 (nar_may _ _ _)) hlocks dX3_may_6 rfl

set_option maxHeartbeats 4000000 in
set_option maxRecDepth 100000 in
theorem k_C_state (l : Launch) (G : va_G) (cs : Nat → ClassId) (L : List Nat) (f : Nat → va_E) (ad : Nat → Nat) (t lm : Int32) (nN nM : Nat) (ns : Nat → NS) (ms : Nat → MS) (rt : Nat → Int32) (pg : sp_P) (n : Int32) (h0 : PS cs L f ad t lm nN nM ns ms rt pg) : Met l yX3_state (Cond.code yX3_state cX3_state 3 (some FieldType.int) :: wg) ({ frames := 2, cells := 0, slots := 0, locals := 44 }) (pr_P [.ref (ad 0), .int n] G vwCl (tyl cs) L f (fun _ => True)) (vp_Si (fun r => r = sC_state t nN ns n)) 0 0 (fun _ => False) := by
  refine Met.ofW (cc := cX3_state) (maxL := 3) (ret := (some FieldType.int)) (by decide) rfl ?_
  intro p e s m args below meth c s₁ B hml hv
  obtain ⟨rfl, hP, hK, hX⟩ := hv
  have hx := B.exec
  have hb := B.bytes
  have hr := B.returns
  have hts0 := atoms_spec (ws := (Cond.code yX3_state cX3_state 3 (some FieldType.int) :: wg)) B.pre
  have hts := fun (w : Cond) (h : w ∈ wg) => hts0 w (List.mem_cons_of_mem _ h)
  have hown : s.vm.findClass RX3 = some m.cls := findClass_of_methodNamed B.named
  have hlocks := B.notSynchronized
  have hl := lv_entry ([.ref (ad 0), .int n]) (n := 3) (Nat.le_of_ble_eq_true rfl)
  rw [lg_entry_eq]
  generalize (lg_sl ([.ref (ad 0), .int n]) ++ List.replicate (3 - (lg_sl ([.ref (ad 0), .int n])).length) Slot.unset).toArray = ls at hl ⊢
  have hl : lv_has ls 3 [(0, .ref (ad 0)), (1, .int n)] := hl
  have hN6 := h0.nN6
  have hM12 := h0.nM12
  have m0 := h0.mem (pu_lo (r := 0) (by decide))
  have e0 := h0.e0
  have m1 := h0.mem (pu_lo (r := 1) (by decide))
  have e1 := h0.e1
  have m2 := h0.mem (pu_lo (r := 2) (by decide))
  have e2 := h0.e2
  have m3 := h0.mem (pu_lo (r := 3) (by decide))
  have e3 := h0.e3
  refine lv_aload_n hx hb dX3_state_0 rfl (lv_at hl 0 rfl) ?_
  refine lv_iload_n hx hb dX3_state_1 rfl (lv_at hl 1 rfl) ?_
  refine pr_callVq (As := [.int n]) (rest := []) ⟨hx, hb, hml, hown, hts⟩ (k_C_nAt l G cs L f ad t lm nN nM ns ms rt pg n h0) (cwV 1 hts (wg_V mw_63 mw_65 ms_0 mw_1 mw_66) rfl rfl rfl (by decide +kernel) ⟨Nat.le_of_ble_eq_true rfl, Nat.le_of_ble_eq_true rfl⟩) hK hP m0 e0 rfl px_T (fun _ _ _ => trivial) rfl hl.1 rfl (lv_room (Nat.le_of_ble_eq_true rfl)) dX3_state_2 ⟨Nat.le_of_ble_eq_true rfl, Nat.le_of_ble_eq_true rfl⟩ (fun r_1 hr_1 => ?_)
  rcases ix_cases (m := nN) (by omega) n with ⟨hxi, hnoi⟩ | ⟨i, hi, eni, hxi, hci, hdi⟩
  · obtain rfl : r_1 = none := by rw [hr_1, hxi]; rfl
    refine W.eq (g2 := F0 m 5 ls [.null]) rfl ?_
    refine lv_astore_nN (lv' := [(2, .null), (0, .ref (ad 0)), (1, .int n)]) hx hb dX3_state_5 rfl hl (by decide) rfl (fun ls hl => ?_)
    refine lv_aload_nN hx hb dX3_state_6 rfl (lv_at hl 0 rfl) ?_
    refine lv_ifnonnullN hx hb dX3_state_7 ?_
    refine lv_iconst (v := (-1)) hx hb dX3_state_10 (by decide) ?_
    refine lv_goto (tgt := 22) hx hb dX3_state_11 (by decide) ?_
    exact pr_reti hx hb hr hlocks dX3_state_22 (by simp [sC_state, hxi])
  · obtain rfl : r_1 = some (ad (8 + 4 * i)) := by rw [hr_1, hxi]; rfl
    refine W.eq (g2 := F0 m 5 ls [.ref (ad (8 + 4 * i))]) rfl ?_
    refine lv_astore_n (lv' := [(2, .ref (ad (8 + 4 * i))), (0, .ref (ad 0)), (1, .int n)]) hx hb dX3_state_5 rfl hl (by decide) rfl (fun ls hl => ?_)
    refine lv_aload_n hx hb dX3_state_6 rfl (lv_at hl 0 rfl) ?_
    refine lv_ifnonnull (tgt := 14) hx hb dX3_state_7 (by decide) ?_
    refine lv_aload_n hx hb dX3_state_14 rfl (lv_at hl 0 rfl) ?_
    refine lv_aload_n hx hb dX3_state_15 rfl (lv_at hl 1 rfl) ?_
    refine pw_get (ci := 3) (C := RX3) (T := TX3) (N := 8) hx hb hts inX3 hown hK hP m0 e0 rfl 6 (by decide) (hts _ mw_39) (fun _ h9 => h9) rfl dX3_state_16 ?_
    refine pr_callVi (As := [.int t]) (rest := []) ⟨hx, hb, hml, hown, hts⟩ (k_N_stateOn l G cs L f (ad (8 + 4 * i)) (ad (9 + 4 * i)) (ad (10 + 4 * i)) (ad (11 + 4 * i)) (ns i).1 (ns i).2.1 (ns i).2.2.1 (ns i).2.2.2.1 (ns i).2.2.2.2.1 (ns i).2.2.2.2.2.1 (ns i).2.2.2.2.2.2 t (h0.nt hi)) (cwV 1 hts (wg_V mw_127 mw_128 mw_129 mw_4 mw_130) rfl rfl rfl (by decide +kernel) ⟨Nat.le_of_ble_eq_true rfl, Nat.le_of_ble_eq_true rfl⟩) hK hP (h0.nt hi).1.1 (h0.nt hi).2.1.1 rfl px_T (fun _ _ _ => trivial) rfl hl.1 rfl (lv_room (Nat.le_of_ble_eq_true rfl)) dX3_state_19 ⟨Nat.le_of_ble_eq_true rfl, Nat.le_of_ble_eq_true rfl⟩ (fun r_2 hr_2 => ?_)
    subst hr_2
    exact pr_reti hx hb hr hlocks dX3_state_22 (by simp [sC_state, hxi])

set_option maxHeartbeats 4000000 in
set_option maxRecDepth 100000 in
theorem k_C_mst (l : Launch) (G : va_G) (cs : Nat → ClassId) (L : List Nat) (f : Nat → va_E) (ad : Nat → Nat) (t lm : Int32) (nN nM : Nat) (ns : Nat → NS) (ms : Nat → MS) (rt : Nat → Int32) (pg : sp_P) (n : Int32) (h0 : PS cs L f ad t lm nN nM ns ms rt pg) : Met l yX3_moveState (Cond.code yX3_moveState cX3_moveState 3 (some FieldType.int) :: wg) ({ frames := 1, cells := 0, slots := 0, locals := 21 }) (pr_P [.ref (ad 0), .int n] G vwCl (tyl cs) L f (fun _ => True)) (vp_Si (fun r => r = sC_mst nM ms n)) 0 0 (fun _ => False) := by
  refine Met.ofW (cc := cX3_moveState) (maxL := 3) (ret := (some FieldType.int)) (by decide) rfl ?_
  intro p e s m args below meth c s₁ B hml hv
  obtain ⟨rfl, hP, hK, hX⟩ := hv
  have hx := B.exec
  have hb := B.bytes
  have hr := B.returns
  have hts0 := atoms_spec (ws := (Cond.code yX3_moveState cX3_moveState 3 (some FieldType.int) :: wg)) B.pre
  have hts := fun (w : Cond) (h : w ∈ wg) => hts0 w (List.mem_cons_of_mem _ h)
  have hown : s.vm.findClass RX3 = some m.cls := findClass_of_methodNamed B.named
  have hlocks := B.notSynchronized
  have hl := lv_entry ([.ref (ad 0), .int n]) (n := 3) (Nat.le_of_ble_eq_true rfl)
  rw [lg_entry_eq]
  generalize (lg_sl ([.ref (ad 0), .int n]) ++ List.replicate (3 - (lg_sl ([.ref (ad 0), .int n])).length) Slot.unset).toArray = ls at hl ⊢
  have hl : lv_has ls 3 [(0, .ref (ad 0)), (1, .int n)] := hl
  have hN6 := h0.nN6
  have hM12 := h0.nM12
  have m0 := h0.mem (pu_lo (r := 0) (by decide))
  have e0 := h0.e0
  have m1 := h0.mem (pu_lo (r := 1) (by decide))
  have e1 := h0.e1
  have m2 := h0.mem (pu_lo (r := 2) (by decide))
  have e2 := h0.e2
  have m3 := h0.mem (pu_lo (r := 3) (by decide))
  have e3 := h0.e3
  refine lv_aload_n hx hb dX3_moveState_0 rfl (lv_at hl 0 rfl) ?_
  refine lv_iload_n hx hb dX3_moveState_1 rfl (lv_at hl 1 rfl) ?_
  refine pr_callVq (As := [.int n]) (rest := []) ⟨hx, hb, hml, hown, hts⟩ (k_C_mAt l G cs L f ad t lm nN nM ns ms rt pg n h0) (cwV 1 hts (wg_V mw_147 mw_149 ms_3 mw_1 mw_150) rfl rfl rfl (by decide +kernel) ⟨Nat.le_of_ble_eq_true rfl, Nat.le_of_ble_eq_true rfl⟩) hK hP m0 e0 rfl px_T (fun _ _ _ => trivial) rfl hl.1 rfl (lv_room (Nat.le_of_ble_eq_true rfl)) dX3_moveState_2 ⟨Nat.le_of_ble_eq_true rfl, Nat.le_of_ble_eq_true rfl⟩ (fun r_1 hr_1 => ?_)
  rcases ix_cases (m := nM) (by omega) n with ⟨hxj, hnoj⟩ | ⟨j, hj, enj, hxj, hcj, hdj⟩
  · obtain rfl : r_1 = none := by rw [hr_1, hxj]; rfl
    refine W.eq (g2 := F0 m 5 ls [.null]) rfl ?_
    refine lv_astore_nN (lv' := [(2, .null), (0, .ref (ad 0)), (1, .int n)]) hx hb dX3_moveState_5 rfl hl (by decide) rfl (fun ls hl => ?_)
    refine lv_aload_nN hx hb dX3_moveState_6 rfl (lv_at hl 0 rfl) ?_
    refine lv_ifnonnullN hx hb dX3_moveState_7 ?_
    refine lv_iconst (v := (-1)) hx hb dX3_moveState_10 (by decide) ?_
    refine lv_goto (tgt := 18) hx hb dX3_moveState_11 (by decide) ?_
    exact pr_reti hx hb hr hlocks dX3_moveState_18 (by simp [sC_mst, hxj])
  · obtain rfl : r_1 = some (ad (32 + 2 * j)) := by rw [hr_1, hxj]; rfl
    refine W.eq (g2 := F0 m 5 ls [.ref (ad (32 + 2 * j))]) rfl ?_
    refine lv_astore_n (lv' := [(2, .ref (ad (32 + 2 * j))), (0, .ref (ad 0)), (1, .int n)]) hx hb dX3_moveState_5 rfl hl (by decide) rfl (fun ls hl => ?_)
    refine lv_aload_n hx hb dX3_moveState_6 rfl (lv_at hl 0 rfl) ?_
    refine lv_ifnonnull (tgt := 14) hx hb dX3_moveState_7 (by decide) ?_
    refine lv_aload_n hx hb dX3_moveState_14 rfl (lv_at hl 0 rfl) ?_
    refine pw_get (ci := 0) (C := RX0) (T := TX0) (N := 8) hx hb hts inX0 hown hK hP (h0.mv hj).1.1.1 (h0.mv hj).1.2.1 rfl 5 (by decide) (hts _ mw_169) (fun _ h9 => h9) rfl dX3_moveState_15 ?_
    exact pr_reti hx hb hr hlocks dX3_moveState_18 (by simp [sC_mst, hxj])

set_option maxHeartbeats 4000000 in
set_option maxRecDepth 100000 in
theorem k_C_isl (l : Launch) (G : va_G) (cs : Nat → ClassId) (L : List Nat) (f : Nat → va_E) (ad : Nat → Nat) (t lm : Int32) (nN nM : Nat) (ns : Nat → NS) (ms : Nat → MS) (rt : Nat → Int32) (pg : sp_P) (j : Nat) (h0 : PS cs L f ad t lm nN nM ns ms rt pg) (hj : j < nM) : Met l yX3_isLate (Cond.code yX3_isLate cX3_isLate 2 (some FieldType.boolean) :: wg) ({ frames := 0, cells := 0, slots := 0, locals := 0 }) (pr_P [.ref (ad 0), .ref (ad (32 + 2 * j))] G vwCl (tyl cs) L f (fun _ => True)) (vp_Si (fun r => r = sC_isl t lm (ms j))) 0 0 (fun _ => False) := by
  refine Met.ofW (cc := cX3_isLate) (maxL := 2) (ret := (some FieldType.boolean)) (by decide) rfl ?_
  intro p e s m args below meth c s₁ B hml hv
  obtain ⟨rfl, hP, hK, hX⟩ := hv
  have hx := B.exec
  have hb := B.bytes
  have hr := B.returns
  have hts0 := atoms_spec (ws := (Cond.code yX3_isLate cX3_isLate 2 (some FieldType.boolean) :: wg)) B.pre
  have hts := fun (w : Cond) (h : w ∈ wg) => hts0 w (List.mem_cons_of_mem _ h)
  have hown : s.vm.findClass RX3 = some m.cls := findClass_of_methodNamed B.named
  have hlocks := B.notSynchronized
  have hl := lv_entry ([.ref (ad 0), .ref (ad (32 + 2 * j))]) (n := 2) (Nat.le_of_ble_eq_true rfl)
  rw [lg_entry_eq]
  generalize (lg_sl ([.ref (ad 0), .ref (ad (32 + 2 * j))]) ++ List.replicate (2 - (lg_sl ([.ref (ad 0), .ref (ad (32 + 2 * j))])).length) Slot.unset).toArray = ls at hl ⊢
  have hl : lv_has ls 2 [(0, .ref (ad 0)), (1, .ref (ad (32 + 2 * j)))] := hl
  have hN6 := h0.nN6
  have hM12 := h0.nM12
  have m0 := h0.mem (pu_lo (r := 0) (by decide))
  have e0 := h0.e0
  have m1 := h0.mem (pu_lo (r := 1) (by decide))
  have e1 := h0.e1
  have m2 := h0.mem (pu_lo (r := 2) (by decide))
  have e2 := h0.e2
  have m3 := h0.mem (pu_lo (r := 3) (by decide))
  have e3 := h0.e3
  refine lv_aload_n hx hb dX3_isLate_0 rfl (lv_at hl 1 rfl) ?_
  refine pw_get (ci := 0) (C := RX0) (T := TX0) (N := 8) hx hb hts inX0 hown hK hP (h0.mv hj).1.1.1 (h0.mv hj).1.2.1 rfl 5 (by decide) (hts _ mw_169) (fun _ h9 => h9) rfl dX3_isLate_1 ?_
  refine lv_iconst (v := 2) hx hb dX3_isLate_4 (by decide) ?_
  refine lv_icmp_ne (tgt := 28) hx hb dX3_isLate_5 (by decide) (fun c_5 => ?_) (fun c_5 => ?_)
  · refine lv_iconst (v := 0) hx hb dX3_isLate_28 (by decide) ?_
    exact pr_retz hx hb hr rfl hlocks dX3_isLate_29 (by simp [sC_isl, c_5])
  · refine lv_aload_n hx hb dX3_isLate_8 rfl (lv_at hl 0 rfl) ?_
    refine pw_get (ci := 3) (C := RX3) (T := TX3) (N := 8) hx hb hts inX3 hown hK hP m0 e0 rfl 6 (by decide) (hts _ mw_39) (fun _ h9 => h9) rfl dX3_isLate_9 ?_
    refine lv_aload_n hx hb dX3_isLate_12 rfl (lv_at hl 1 rfl) ?_
    refine pw_get (ci := 0) (C := RX0) (T := TX0) (N := 8) hx hb hts inX0 hown hK hP (h0.mv hj).1.1.1 (h0.mv hj).1.2.1 rfl 6 (by decide) (hts _ mw_171) (fun _ h9 => h9) rfl dX3_isLate_13 ?_
    refine lv_isub hx hb dX3_isLate_16 ?_
    refine lv_aload_n hx hb dX3_isLate_17 rfl (lv_at hl 0 rfl) ?_
    refine pw_get (ci := 3) (C := RX3) (T := TX3) (N := 8) hx hb hts inX3 hown hK hP m0 e0 rfl 7 (by decide) (hts _ mw_40) (fun _ h9 => h9) rfl dX3_isLate_18 ?_
    refine lv_icmp_le (tgt := 28) hx hb dX3_isLate_21 (by decide) (fun c_21 => ?_) (fun c_21 => ?_)
    · refine lv_iconst (v := 0) hx hb dX3_isLate_28 (by decide) ?_
      exact pr_retz hx hb hr rfl hlocks dX3_isLate_29 (by simp [sC_isl, c_5, c_21])
    · refine lv_iconst (v := 1) hx hb dX3_isLate_24 (by decide) ?_
      refine lv_goto (tgt := 29) hx hb dX3_isLate_25 (by decide) ?_
      exact pr_retz hx hb hr rfl hlocks dX3_isLate_29 (by simp [sC_isl, c_5, c_21])

set_option maxHeartbeats 4000000 in
set_option maxRecDepth 100000 in
theorem k_C_can (l : Launch) (G : va_G) (cs : Nat → ClassId) (L : List Nat) (f : Nat → va_E) (ad : Nat → Nat) (t lm : Int32) (nN nM : Nat) (ns : Nat → NS) (ms : Nat → MS) (rt : Nat → Int32) (pg : sp_P) (j : Nat) (h0 : PS cs L f ad t lm nN nM ns ms rt pg) (hj : j < nM) : Met l yX3_canBeTaken (Cond.code yX3_canBeTaken cX3_canBeTaken 3 (some FieldType.boolean) :: wg) ({ frames := 2, cells := 0, slots := 0, locals := 44 }) (pr_P [.ref (ad 0), .ref (ad (32 + 2 * j))] G vwCl (tyl cs) L f (fun _ => True)) (vp_Si (fun r => r = sC_can t nN ns (ms j))) 0 0 (fun _ => False) := by
  refine Met.ofW (cc := cX3_canBeTaken) (maxL := 3) (ret := (some FieldType.boolean)) (by decide) rfl ?_
  intro p e s m args below meth c s₁ B hml hv
  obtain ⟨rfl, hP, hK, hX⟩ := hv
  have hx := B.exec
  have hb := B.bytes
  have hr := B.returns
  have hts0 := atoms_spec (ws := (Cond.code yX3_canBeTaken cX3_canBeTaken 3 (some FieldType.boolean) :: wg)) B.pre
  have hts := fun (w : Cond) (h : w ∈ wg) => hts0 w (List.mem_cons_of_mem _ h)
  have hown : s.vm.findClass RX3 = some m.cls := findClass_of_methodNamed B.named
  have hlocks := B.notSynchronized
  have hl := lv_entry ([.ref (ad 0), .ref (ad (32 + 2 * j))]) (n := 3) (Nat.le_of_ble_eq_true rfl)
  rw [lg_entry_eq]
  generalize (lg_sl ([.ref (ad 0), .ref (ad (32 + 2 * j))]) ++ List.replicate (3 - (lg_sl ([.ref (ad 0), .ref (ad (32 + 2 * j))])).length) Slot.unset).toArray = ls at hl ⊢
  have hl : lv_has ls 3 [(0, .ref (ad 0)), (1, .ref (ad (32 + 2 * j)))] := hl
  have hN6 := h0.nN6
  have hM12 := h0.nM12
  have m0 := h0.mem (pu_lo (r := 0) (by decide))
  have e0 := h0.e0
  have m1 := h0.mem (pu_lo (r := 1) (by decide))
  have e1 := h0.e1
  have m2 := h0.mem (pu_lo (r := 2) (by decide))
  have e2 := h0.e2
  have m3 := h0.mem (pu_lo (r := 3) (by decide))
  have e3 := h0.e3
  refine lv_aload_n hx hb dX3_canBeTaken_0 rfl (lv_at hl 0 rfl) ?_
  refine lv_aload_n hx hb dX3_canBeTaken_1 rfl (lv_at hl 1 rfl) ?_
  refine pw_get (ci := 0) (C := RX0) (T := TX0) (N := 8) hx hb hts inX0 hown hK hP (h0.mv hj).1.1.1 (h0.mv hj).1.2.1 rfl 0 (by decide) (hts _ mw_161) (fun _ h9 => h9) rfl dX3_canBeTaken_2 ?_
  refine pr_callVq (As := [.int ((ms j).1)]) (rest := []) ⟨hx, hb, hml, hown, hts⟩ (k_C_nAt l G cs L f ad t lm nN nM ns ms rt pg ((ms j).1) h0) (cwV 1 hts (wg_V mw_63 mw_65 ms_0 mw_1 mw_66) rfl rfl rfl (by decide +kernel) ⟨Nat.le_of_ble_eq_true rfl, Nat.le_of_ble_eq_true rfl⟩) hK hP m0 e0 rfl px_T (fun _ _ _ => trivial) rfl hl.1 rfl (lv_room (Nat.le_of_ble_eq_true rfl)) dX3_canBeTaken_5 ⟨Nat.le_of_ble_eq_true rfl, Nat.le_of_ble_eq_true rfl⟩ (fun r_1 hr_1 => ?_)
  rcases ix_cases (m := nN) (by omega) ((ms j).1) with ⟨hxi, hnoi⟩ | ⟨i, hi, eni, hxi, hci, hdi⟩
  · obtain rfl : r_1 = none := by rw [hr_1, hxi]; rfl
    refine W.eq (g2 := F0 m 8 ls [.null]) rfl ?_
    refine lv_astore_nN (lv' := [(2, .null), (0, .ref (ad 0)), (1, .ref (ad (32 + 2 * j)))]) hx hb dX3_canBeTaken_8 rfl hl (by decide) rfl (fun ls hl => ?_)
    refine lv_aload_n hx hb dX3_canBeTaken_9 rfl (lv_at hl 1 rfl) ?_
    refine pw_get (ci := 3) (C := RX3) (T := TX3) (N := 8) hx hb hts inX3 hown hK hP m0 e0 rfl 6 (by decide) (hts _ mw_39) (fun _ h9 => h9) rfl dX3_canBeTaken_10 ?_
    refine lv_aload_n hx hb dX3_canBeTaken_13 rfl (lv_at hl 2 rfl) ?_
    refine pw_get (ci := 0) (C := RX0) (T := TX0) (N := 8) hx hb hts inX0 hown hK hP (h0.mv hj).1.1.1 (h0.mv hj).1.2.1 rfl 2 (by decide) (hts _ mw_165) (fun _ h9 => h9) rfl dX3_canBeTaken_14 ?_
    refine lv_icmp_lt (tgt := 40) hx hb dX3_canBeTaken_17 (by decide) (fun c_17 => ?_) (fun c_17 => ?_)
    · refine lv_iconst (v := 0) hx hb dX3_canBeTaken_40 (by decide) ?_
      exact pr_retz hx hb hr rfl hlocks dX3_canBeTaken_41 (by simp [sC_can, hxi, c_17])
    · refine lv_aload_nN hx hb dX3_canBeTaken_20 rfl (lv_at hl 0 rfl) ?_
      refine lv_ifnullN (tgt := 40) hx hb dX3_canBeTaken_21 (by decide) ?_
      refine lv_iconst (v := 0) hx hb dX3_canBeTaken_40 (by decide) ?_
      exact pr_retz hx hb hr rfl hlocks dX3_canBeTaken_41 (by simp [sC_can, hxi, c_17])
  · obtain rfl : r_1 = some (ad (8 + 4 * i)) := by rw [hr_1, hxi]; rfl
    refine W.eq (g2 := F0 m 8 ls [.ref (ad (8 + 4 * i))]) rfl ?_
    refine lv_astore_n (lv' := [(2, .ref (ad (8 + 4 * i))), (0, .ref (ad 0)), (1, .ref (ad (32 + 2 * j)))]) hx hb dX3_canBeTaken_8 rfl hl (by decide) rfl (fun ls hl => ?_)
    refine lv_aload_n hx hb dX3_canBeTaken_9 rfl (lv_at hl 1 rfl) ?_
    refine pw_get (ci := 3) (C := RX3) (T := TX3) (N := 8) hx hb hts inX3 hown hK hP m0 e0 rfl 6 (by decide) (hts _ mw_39) (fun _ h9 => h9) rfl dX3_canBeTaken_10 ?_
    refine lv_aload_n hx hb dX3_canBeTaken_13 rfl (lv_at hl 2 rfl) ?_
    refine pw_get (ci := 0) (C := RX0) (T := TX0) (N := 8) hx hb hts inX0 hown hK hP (h0.mv hj).1.1.1 (h0.mv hj).1.2.1 rfl 2 (by decide) (hts _ mw_165) (fun _ h9 => h9) rfl dX3_canBeTaken_14 ?_
    refine lv_icmp_lt (tgt := 40) hx hb dX3_canBeTaken_17 (by decide) (fun c_17 => ?_) (fun c_17 => ?_)
    · refine lv_iconst (v := 0) hx hb dX3_canBeTaken_40 (by decide) ?_
      exact pr_retz hx hb hr rfl hlocks dX3_canBeTaken_41 (by simp [sC_can, hxi, c_17])
    · refine lv_aload_n hx hb dX3_canBeTaken_20 rfl (lv_at hl 0 rfl) ?_
      refine lv_ifnull hx hb dX3_canBeTaken_21 ?_
      refine lv_aload_n hx hb dX3_canBeTaken_24 rfl (lv_at hl 0 rfl) ?_
      refine lv_aload_n hx hb dX3_canBeTaken_25 rfl (lv_at hl 1 rfl) ?_
      refine pw_get (ci := 3) (C := RX3) (T := TX3) (N := 8) hx hb hts inX3 hown hK hP m0 e0 rfl 6 (by decide) (hts _ mw_39) (fun _ h9 => h9) rfl dX3_canBeTaken_26 ?_
      refine pr_callVi (As := [.int t]) (rest := []) ⟨hx, hb, hml, hown, hts⟩ (k_N_stateOn l G cs L f (ad (8 + 4 * i)) (ad (9 + 4 * i)) (ad (10 + 4 * i)) (ad (11 + 4 * i)) (ns i).1 (ns i).2.1 (ns i).2.2.1 (ns i).2.2.2.1 (ns i).2.2.2.2.1 (ns i).2.2.2.2.2.1 (ns i).2.2.2.2.2.2 t (h0.nt hi)) (cwV 1 hts (wg_V mw_127 mw_128 mw_129 mw_4 mw_130) rfl rfl rfl (by decide +kernel) ⟨Nat.le_of_ble_eq_true rfl, Nat.le_of_ble_eq_true rfl⟩) hK hP (h0.nt hi).1.1 (h0.nt hi).2.1.1 rfl px_T (fun _ _ _ => trivial) rfl hl.1 rfl (lv_room (Nat.le_of_ble_eq_true rfl)) dX3_canBeTaken_29 ⟨Nat.le_of_ble_eq_true rfl, Nat.le_of_ble_eq_true rfl⟩ (fun r_2 hr_2 => ?_)
      subst hr_2
      refine lv_iconst (v := 1) hx hb dX3_canBeTaken_32 (by decide) ?_
      refine lv_icmp_ne (tgt := 40) hx hb dX3_canBeTaken_33 (by decide) (fun c_33 => ?_) (fun c_33 => ?_)
      · refine lv_iconst (v := 0) hx hb dX3_canBeTaken_40 (by decide) ?_
        exact pr_retz hx hb hr rfl hlocks dX3_canBeTaken_41 (by simp [sC_can, hxi, c_17, c_33])
      · refine lv_iconst (v := 1) hx hb dX3_canBeTaken_36 (by decide) ?_
        refine lv_goto (tgt := 41) hx hb dX3_canBeTaken_37 (by decide) ?_
        exact pr_retz hx hb hr rfl hlocks dX3_canBeTaken_41 (by simp [sC_can, hxi, c_17, c_33])

set_option maxHeartbeats 4000000 in
set_option maxRecDepth 100000 in
theorem k_C_next (l : Launch) (G : va_G) (cs : Nat → ClassId) (L : List Nat) (f : Nat → va_E) (e_ st : Int32) (tL tC : Nat) : Met l yX3_nextState (Cond.code yX3_nextState cX3_nextState 2 (some FieldType.int) :: wg) ({ frames := 1, cells := 0, slots := 0, locals := 20 }) (pr_P [.int e_, .int st] G vwCl (tyl cs) L f (fun U => SX tL tC (fun _ => False) U U.heap)) (vp_Si (fun r => r = sC_next e_ st)) 0 0 (fun _ => False) := by
  refine Met.ofW (cc := cX3_nextState) (maxL := 2) (ret := (some FieldType.int)) (by decide) rfl ?_
  intro p e s m args below meth c s₁ B hml hv
  obtain ⟨rfl, hP, hK, hX⟩ := hv
  have hx := B.exec
  have hb := B.bytes
  have hr := B.returns
  have hts0 := atoms_spec (ws := (Cond.code yX3_nextState cX3_nextState 2 (some FieldType.int) :: wg)) B.pre
  have hts := fun (w : Cond) (h : w ∈ wg) => hts0 w (List.mem_cons_of_mem _ h)
  have hown : s.vm.findClass RX3 = some m.cls := findClass_of_methodNamed B.named
  have hlocks := B.notSynchronized
  have hl := lv_entry ([.int e_, .int st]) (n := 2) (Nat.le_of_ble_eq_true rfl)
  rw [lg_entry_eq]
  generalize (lg_sl ([.int e_, .int st]) ++ List.replicate (2 - (lg_sl ([.int e_, .int st])).length) Slot.unset).toArray = ls at hl ⊢
  have hl : lv_has ls 2 [(0, .int e_), (1, .int st)] := hl
  refine lv_iload_n hx hb dX3_nextState_0 rfl (lv_at hl 0 rfl) ?_
  refine pr_callSi (As := [.int e_]) (rest := []) ⟨hx, hb, hml, hown, hts⟩ (k_C_isE l G cs L f e_) (cwS 1 hts (wg_S mw_201 mw_202 mw_1 mw_203) rfl rfl rfl (by decide +kernel) ⟨Nat.le_of_ble_eq_true rfl, Nat.le_of_ble_eq_true rfl⟩) hK hP px_T (fun _ _ _ => trivial) rfl hl.1 rfl (lv_room (Nat.le_of_ble_eq_true rfl)) dX3_nextState_1 ⟨Nat.le_of_ble_eq_true rfl, Nat.le_of_ble_eq_true rfl⟩ (fun r_1 hr_1 => ?_)
  rcases sp_in_cases (m := 5) (by decide) e_ with ⟨hxb, hsb⟩ | ⟨b, hb_, enb, hxb, hsb⟩
  · obtain rfl : r_1 = 0 := by rw [hr_1, hsb]
    refine lv_if_eq (tgt := 17) hx hb dX3_nextState_4 (by decide) (fun c_4 => ?_) (fun c_4 => ?_)
    · refine lv_iconst (v := (-1)) hx hb dX3_nextState_17 (by decide) ?_
      exact pr_reti hx hb hr hlocks dX3_nextState_18 (by simp [sC_next, hxb])
    · exact absurd c_4 (by decide)
  · obtain rfl : r_1 = 1 := by rw [hr_1, hsb]
    refine lv_if_eq (tgt := 17) hx hb dX3_nextState_4 (by decide) (fun c_4 => ?_) (fun c_4 => ?_)
    · exact absurd c_4 (by decide)
    · refine lv_iload_n hx hb dX3_nextState_7 rfl (lv_at hl 1 rfl) ?_
      refine lv_if_lt (tgt := 17) hx hb dX3_nextState_8 (by decide) (fun c_8 => ?_) (fun c_8 => ?_)
      · have hxk : ix 6 st = none := by unfold ix; simp [c_8, show nI 6 = 6 from rfl]
        refine lv_iconst (v := (-1)) hx hb dX3_nextState_17 (by decide) ?_
        exact pr_reti hx hb hr hlocks dX3_nextState_18 (by simp [sC_next, hxb, c_8, hxk])
      · refine lv_iload_n hx hb dX3_nextState_11 rfl (lv_at hl 1 rfl) ?_
        refine lv_bipush (v := 6) hx hb dX3_nextState_12 (by decide) ?_
        refine lv_icmp_lt (tgt := 19) hx hb dX3_nextState_14 (by decide) (fun c_14 => ?_) (fun c_14 => ?_)
        · obtain ⟨k, hk, enk, hxk⟩ : ∃ k, k < 6 ∧ st = nI k ∧ ix 6 st = some k := by
            rcases ix_cases (m := 6) (by decide) st with ⟨-, h | h⟩ | ⟨k, h1, h2, h3, -⟩
            · exact absurd h c_8
            · exact absurd c_14 h
            · exact ⟨k, h1, h2, h3⟩
          refine va_gets (A := fun _ => False) hx hb hX.1 va_S.rf hown (hts _ mw_219) (fun _ h => h) dX3_nextState_19 ?_
          refine lv_iload_n hx hb dX3_nextState_22 rfl (lv_at hl 0 rfl) ?_
          refine lv_bipush (v := 6) hx hb dX3_nextState_23 (by decide) ?_
          refine lv_imul hx hb dX3_nextState_25 ?_
          refine lv_iload_n hx hb dX3_nextState_26 rfl (lv_at hl 1 rfl) ?_
          refine lv_iadd hx hb dX3_nextState_27 ?_
          have eix : e_ * 6 + st = nI (b * 6 + k) := by rw [enb, enk]; exact ld_ix hb_ hk
          rw [eix]
          refine va_ti (v := .int (sp_leads (b * 6 + k))) (A := fun _ => False) hx hb hX.2.1 va_S.rf (vp_in_nI (by omega) (by decide)) (by rw [nI_clamp (by omega)]) dX3_nextState_28 ?_
          exact pr_reti hx hb hr hlocks dX3_nextState_29 (by simp [sC_next, hxb, c_8, c_14, hxk])
        · have hxk : ix 6 st = none := by unfold ix; simp [c_8, c_14, show nI 6 = 6 from rfl]
          refine lv_iconst (v := (-1)) hx hb dX3_nextState_17 (by decide) ?_
          exact pr_reti hx hb hr hlocks dX3_nextState_18 (by simp [sC_next, hxb, c_8, c_14, hxk])

set_option maxHeartbeats 4000000 in
set_option maxRecDepth 100000 in
theorem k_C_gim (l : Launch) (G : va_G) (cs : Nat → ClassId) (L : List Nat) (f : Nat → va_E) (ad : Nat → Nat) (t lm : Int32) (nN nM : Nat) (ns : Nat → NS) (ms : Nat → MS) (rt : Nat → Int32) (pg : sp_P) (n : Int32) (h0 : PS cs L f ad t lm nN nM ns ms rt pg) : Met l yX3_gramsInMoves (Cond.code yX3_gramsInMoves cX3_gramsInMoves 6 (some FieldType.long) :: wg) ({ frames := 1, cells := 0, slots := 0, locals := 21 }) (pr_P [.ref (ad 0), .int n] G vwCl (tyl cs) L f (fun _ => True)) (vp_Sl (fun r => r = sC_gim ms n nM)) 0 0 (fun _ => False) := by
  refine Met.ofW (cc := cX3_gramsInMoves) (maxL := 6) (ret := (some FieldType.long)) (by decide) rfl ?_
  intro p e s m args below meth c s₁ B hml hv
  obtain ⟨rfl, hP, hK, hX⟩ := hv
  have hx := B.exec
  have hb := B.bytes
  have hr := B.returns
  have hts0 := atoms_spec (ws := (Cond.code yX3_gramsInMoves cX3_gramsInMoves 6 (some FieldType.long) :: wg)) B.pre
  have hts := fun (w : Cond) (h : w ∈ wg) => hts0 w (List.mem_cons_of_mem _ h)
  have hown : s.vm.findClass RX3 = some m.cls := findClass_of_methodNamed B.named
  have hlocks := B.notSynchronized
  have hl := lv_entry ([.ref (ad 0), .int n]) (n := 6) (Nat.le_of_ble_eq_true rfl)
  rw [lg_entry_eq]
  generalize (lg_sl ([.ref (ad 0), .int n]) ++ List.replicate (6 - (lg_sl ([.ref (ad 0), .int n])).length) Slot.unset).toArray = ls at hl ⊢
  have hl : lv_has ls 6 [(0, .ref (ad 0)), (1, .int n)] := hl
  have hN6 := h0.nN6
  have hM12 := h0.nM12
  have m0 := h0.mem (pu_lo (r := 0) (by decide))
  have e0 := h0.e0
  have m1 := h0.mem (pu_lo (r := 1) (by decide))
  have e1 := h0.e1
  have m2 := h0.mem (pu_lo (r := 2) (by decide))
  have e2 := h0.e2
  have m3 := h0.mem (pu_lo (r := 3) (by decide))
  have e3 := h0.e3
  refine lv_lconst (v := 0) hx hb dX3_gramsInMoves_0 (by decide) ?_
  refine lv_lstore_n (lv' := [(2, .long 0), (0, .ref (ad 0)), (1, .int n)]) hx hb dX3_gramsInMoves_1 rfl hl (by decide) rfl (fun ls hl => ?_)
  refine lv_iconst (v := 0) hx hb dX3_gramsInMoves_2 (by decide) ?_
  refine lv_istore (lv' := [(4, .int 0), (2, .long 0), (0, .ref (ad 0)), (1, .int n)]) hx hb dX3_gramsInMoves_3 hl (by decide) rfl (fun ls hl => ?_)
  refine pr_loop (σ := Nat) (nL := 6) (fun k => nM - k) (fun k => k ≤ nM) (fun k => [(4, .int (nI k)), (2, .long (sC_gim ms n k)), (0, .ref (ad 0)), (1, .int n)]) ?_ 0 (Nat.zero_le _) ls (lv_sub hl [0, 1, 2, 3] rfl)
  intro k hk ih ls hl
  refine lv_iload hx hb dX3_gramsInMoves_5 (lv_at hl 0 rfl) ?_
  refine lv_aload_n hx hb dX3_gramsInMoves_7 rfl (lv_at hl 2 rfl) ?_
  refine pw_get (ci := 3) (C := RX3) (T := TX3) (N := 8) hx hb hts inX3 hown hK hP m0 e0 rfl 5 (by decide) (hts _ mw_38) (fun _ h9 => h9) rfl dX3_gramsInMoves_8 ?_
  refine lv_icmp_ge (tgt := 58) hx hb dX3_gramsInMoves_11 (by decide) (fun c_11 => ?_) (fun c_11 => ?_)
  · have hk2 : k = nM := Nat.le_antisymm hk (nI_of_le c_11 (by omega))
    subst hk2
    refine lv_lload_n hx hb dX3_gramsInMoves_58 rfl (lv_at hl 1 rfl) ?_
    exact pr_retl hx hb hr hlocks dX3_gramsInMoves_59 rfl
  · have hk2 : k < nM := nI_of_ge c_11 (by omega)
    refine lv_aload_n hx hb dX3_gramsInMoves_14 rfl (lv_at hl 2 rfl) ?_
    refine lv_iload hx hb dX3_gramsInMoves_15 (lv_at hl 0 rfl) ?_
    refine pr_callVq (As := [.int (nI k)]) (rest := []) ⟨hx, hb, hml, hown, hts⟩ (k_C_mAt l G cs L f ad t lm nN nM ns ms rt pg (nI k) h0) (cwV 1 hts (wg_V mw_147 mw_149 ms_3 mw_1 mw_150) rfl rfl rfl (by decide +kernel) ⟨Nat.le_of_ble_eq_true rfl, Nat.le_of_ble_eq_true rfl⟩) hK hP m0 e0 rfl px_T (fun _ _ _ => trivial) rfl hl.1 rfl (lv_room (Nat.le_of_ble_eq_true rfl)) dX3_gramsInMoves_17 ⟨Nat.le_of_ble_eq_true rfl, Nat.le_of_ble_eq_true rfl⟩ (fun r_1 hr_1 => ?_)
    obtain rfl : r_1 = some (ad (32 + 2 * k)) := by rw [hr_1, ix_nI hk2 (by omega)]; rfl
    refine W.eq (g2 := F0 m 20 ls [.ref (ad (32 + 2 * k))]) rfl ?_
    refine lv_astore (lv' := [(5, .ref (ad (32 + 2 * k))), (4, .int (nI k)), (2, .long (sC_gim ms n k)), (0, .ref (ad 0)), (1, .int n)]) hx hb dX3_gramsInMoves_20 hl (by decide) rfl (fun ls hl => ?_)
    refine lv_aload hx hb dX3_gramsInMoves_22 (lv_at hl 0 rfl) ?_
    refine lv_ifnull hx hb dX3_gramsInMoves_24 ?_
    refine lv_aload hx hb dX3_gramsInMoves_27 (lv_at hl 0 rfl) ?_
    refine pw_get (ci := 0) (C := RX0) (T := TX0) (N := 8) hx hb hts inX0 hown hK hP (h0.mv hk2).1.1.1 (h0.mv hk2).1.2.1 rfl 0 (by decide) (hts _ mw_161) (fun _ h9 => h9) rfl dX3_gramsInMoves_29 ?_
    refine lv_iload_n hx hb dX3_gramsInMoves_32 rfl (lv_at hl 4 rfl) ?_
    refine lv_icmp_ne (tgt := 52) hx hb dX3_gramsInMoves_33 (by decide) (fun c_33 => ?_) (fun c_33 => ?_)
    · obtain ⟨z_2, ez_2⟩ : ∃ z : Int32, z = (nI k) + 1 := ⟨_, rfl⟩
      refine lv_iinc (v := z_2) (lv' := [(4, .int z_2), (5, .ref (ad (32 + 2 * k))), (2, .long (sC_gim ms n k)), (0, .ref (ad 0)), (1, .int n)]) hx hb dX3_gramsInMoves_52 hl (k := 1) rfl (by rw [ez_2]; rfl) (by decide) rfl (fun ls hl => ?_)
      refine lv_goto (tgt := 5) hx hb dX3_gramsInMoves_55 (by decide) ?_
      obtain rfl : z_2 = nI (k + 1) := by rw [ez_2]; exact nI_1 k
      have hsum : sC_gim ms n (k + 1) = sC_gim ms n k := by simp [sC_gim, c_33]
      rw [← hsum] at hl
      exact ih (k + 1) (by show k + 1 ≤ nM; omega) (by show nM - (k + 1) < nM - k; omega) ls (lv_sub hl [0, 2, 3, 4] rfl)
    · refine lv_aload hx hb dX3_gramsInMoves_36 (lv_at hl 0 rfl) ?_
      refine pr_callVi (As := []) (rest := []) ⟨hx, hb, hml, hown, hts⟩ (k_M_uses l G cs L f (ad (32 + 2 * k)) (ad (33 + 2 * k)) (ms k).1 (ms k).2.1 (ms k).2.2.1 (ms k).2.2.2.1 (ms k).2.2.2.2.1 (ms k).2.2.2.2.2.1 (ms k).2.2.2.2.2.2.1 (ms k).2.2.2.2.2.2.2 (h0.mv hk2).1) (cwV 0 hts (wg_V mw_151 mw_152 mw_153 mw_5 mw_154) rfl rfl rfl (by decide +kernel) ⟨Nat.le_of_ble_eq_true rfl, Nat.le_of_ble_eq_true rfl⟩) hK hP (h0.mv hk2).1.1.1 (h0.mv hk2).1.2.1 rfl px_T (fun _ _ _ => trivial) rfl hl.1 rfl (lv_room (Nat.le_of_ble_eq_true rfl)) dX3_gramsInMoves_38 ⟨Nat.le_of_ble_eq_true rfl, Nat.le_of_ble_eq_true rfl⟩ (fun r_3 hr_3 => ?_)
      subst hr_3
      refine lv_if_eq (tgt := 52) hx hb dX3_gramsInMoves_41 (by decide) (fun c_41 => ?_) (fun c_41 => ?_)
      · obtain ⟨z_4, ez_4⟩ : ∃ z : Int32, z = (nI k) + 1 := ⟨_, rfl⟩
        refine lv_iinc (v := z_4) (lv' := [(4, .int z_4), (5, .ref (ad (32 + 2 * k))), (2, .long (sC_gim ms n k)), (0, .ref (ad 0)), (1, .int n)]) hx hb dX3_gramsInMoves_52 hl (k := 1) rfl (by rw [ez_4]; rfl) (by decide) rfl (fun ls hl => ?_)
        refine lv_goto (tgt := 5) hx hb dX3_gramsInMoves_55 (by decide) ?_
        obtain rfl : z_4 = nI (k + 1) := by rw [ez_4]; exact nI_1 k
        have hsum : sC_gim ms n (k + 1) = sC_gim ms n k := by simp [sC_gim, c_33, c_41]
        rw [← hsum] at hl
        exact ih (k + 1) (by show k + 1 ≤ nM; omega) (by show nM - (k + 1) < nM - k; omega) ls (lv_sub hl [0, 2, 3, 4] rfl)
      · refine lv_lload_n hx hb dX3_gramsInMoves_44 rfl (lv_at hl 2 rfl) ?_
        refine lv_aload hx hb dX3_gramsInMoves_45 (lv_at hl 0 rfl) ?_
        refine pw_get (ci := 0) (C := RX0) (T := TX0) (N := 8) hx hb hts inX0 hown hK hP (h0.mv hk2).1.1.1 (h0.mv hk2).1.2.1 rfl 1 (by decide) (hts _ mw_163) (fun _ h9 => h9) rfl dX3_gramsInMoves_47 ?_
        refine lv_ladd hx hb dX3_gramsInMoves_50 ?_
        refine lv_lstore_n (lv' := [(2, .long ((sC_gim ms n k) + ((ms k).2.1))), (5, .ref (ad (32 + 2 * k))), (4, .int (nI k)), (0, .ref (ad 0)), (1, .int n)]) hx hb dX3_gramsInMoves_51 rfl hl (by decide) rfl (fun ls hl => ?_)
        obtain ⟨z_5, ez_5⟩ : ∃ z : Int32, z = (nI k) + 1 := ⟨_, rfl⟩
        refine lv_iinc (v := z_5) (lv' := [(4, .int z_5), (2, .long ((sC_gim ms n k) + ((ms k).2.1))), (5, .ref (ad (32 + 2 * k))), (0, .ref (ad 0)), (1, .int n)]) hx hb dX3_gramsInMoves_52 hl (k := 2) rfl (by rw [ez_5]; rfl) (by decide) rfl (fun ls hl => ?_)
        refine lv_goto (tgt := 5) hx hb dX3_gramsInMoves_55 (by decide) ?_
        obtain rfl : z_5 = nI (k + 1) := by rw [ez_5]; exact nI_1 k
        have hsum : sC_gim ms n (k + 1) = (sC_gim ms n k) + ((ms k).2.1) := by simp [sC_gim, c_33, c_41]
        rw [← hsum] at hl
        exact ih (k + 1) (by show k + 1 ≤ nM; omega) (by show nM - (k + 1) < nM - k; omega) ls (lv_sub hl [0, 1, 3, 4] rfl)

set_option maxHeartbeats 4000000 in
set_option maxRecDepth 100000 in
theorem k_C_rec (l : Launch) (G : va_G) (cs : Nat → ClassId) (L : List Nat) (f : Nat → va_E) (ad : Nat → Nat) (t lm : Int32) (nN nM : Nat) (ns : Nat → NS) (ms : Nat → MS) (rt : Nat → Int32) (pg : sp_P) (n : Int32) (h0 : PS cs L f ad t lm nN nM ns ms rt pg) : Met l yX3_gramsRecovered (Cond.code yX3_gramsRecovered cX3_gramsRecovered 6 (some FieldType.long) :: wg) ({ frames := 1, cells := 0, slots := 0, locals := 21 }) (pr_P [.ref (ad 0), .int n] G vwCl (tyl cs) L f (fun _ => True)) (vp_Sl (fun r => r = sC_rec ms n nM)) 0 0 (fun _ => False) := by
  refine Met.ofW (cc := cX3_gramsRecovered) (maxL := 6) (ret := (some FieldType.long)) (by decide) rfl ?_
  intro p e s m args below meth c s₁ B hml hv
  obtain ⟨rfl, hP, hK, hX⟩ := hv
  have hx := B.exec
  have hb := B.bytes
  have hr := B.returns
  have hts0 := atoms_spec (ws := (Cond.code yX3_gramsRecovered cX3_gramsRecovered 6 (some FieldType.long) :: wg)) B.pre
  have hts := fun (w : Cond) (h : w ∈ wg) => hts0 w (List.mem_cons_of_mem _ h)
  have hown : s.vm.findClass RX3 = some m.cls := findClass_of_methodNamed B.named
  have hlocks := B.notSynchronized
  have hl := lv_entry ([.ref (ad 0), .int n]) (n := 6) (Nat.le_of_ble_eq_true rfl)
  rw [lg_entry_eq]
  generalize (lg_sl ([.ref (ad 0), .int n]) ++ List.replicate (6 - (lg_sl ([.ref (ad 0), .int n])).length) Slot.unset).toArray = ls at hl ⊢
  have hl : lv_has ls 6 [(0, .ref (ad 0)), (1, .int n)] := hl
  have hN6 := h0.nN6
  have hM12 := h0.nM12
  have m0 := h0.mem (pu_lo (r := 0) (by decide))
  have e0 := h0.e0
  have m1 := h0.mem (pu_lo (r := 1) (by decide))
  have e1 := h0.e1
  have m2 := h0.mem (pu_lo (r := 2) (by decide))
  have e2 := h0.e2
  have m3 := h0.mem (pu_lo (r := 3) (by decide))
  have e3 := h0.e3
  refine lv_lconst (v := 0) hx hb dX3_gramsRecovered_0 (by decide) ?_
  refine lv_lstore_n (lv' := [(2, .long 0), (0, .ref (ad 0)), (1, .int n)]) hx hb dX3_gramsRecovered_1 rfl hl (by decide) rfl (fun ls hl => ?_)
  refine lv_iconst (v := 0) hx hb dX3_gramsRecovered_2 (by decide) ?_
  refine lv_istore (lv' := [(4, .int 0), (2, .long 0), (0, .ref (ad 0)), (1, .int n)]) hx hb dX3_gramsRecovered_3 hl (by decide) rfl (fun ls hl => ?_)
  refine pr_loop (σ := Nat) (nL := 6) (fun k => nM - k) (fun k => k ≤ nM) (fun k => [(4, .int (nI k)), (2, .long (sC_rec ms n k)), (0, .ref (ad 0)), (1, .int n)]) ?_ 0 (Nat.zero_le _) ls (lv_sub hl [0, 1, 2, 3] rfl)
  intro k hk ih ls hl
  refine lv_iload hx hb dX3_gramsRecovered_5 (lv_at hl 0 rfl) ?_
  refine lv_aload_n hx hb dX3_gramsRecovered_7 rfl (lv_at hl 2 rfl) ?_
  refine pw_get (ci := 3) (C := RX3) (T := TX3) (N := 8) hx hb hts inX3 hown hK hP m0 e0 rfl 5 (by decide) (hts _ mw_38) (fun _ h9 => h9) rfl dX3_gramsRecovered_8 ?_
  refine lv_icmp_ge (tgt := 59) hx hb dX3_gramsRecovered_11 (by decide) (fun c_11 => ?_) (fun c_11 => ?_)
  · have hk2 : k = nM := Nat.le_antisymm hk (nI_of_le c_11 (by omega))
    subst hk2
    refine lv_lload_n hx hb dX3_gramsRecovered_59 rfl (lv_at hl 1 rfl) ?_
    exact pr_retl hx hb hr hlocks dX3_gramsRecovered_60 rfl
  · have hk2 : k < nM := nI_of_ge c_11 (by omega)
    refine lv_aload_n hx hb dX3_gramsRecovered_14 rfl (lv_at hl 2 rfl) ?_
    refine lv_iload hx hb dX3_gramsRecovered_15 (lv_at hl 0 rfl) ?_
    refine pr_callVq (As := [.int (nI k)]) (rest := []) ⟨hx, hb, hml, hown, hts⟩ (k_C_mAt l G cs L f ad t lm nN nM ns ms rt pg (nI k) h0) (cwV 1 hts (wg_V mw_147 mw_149 ms_3 mw_1 mw_150) rfl rfl rfl (by decide +kernel) ⟨Nat.le_of_ble_eq_true rfl, Nat.le_of_ble_eq_true rfl⟩) hK hP m0 e0 rfl px_T (fun _ _ _ => trivial) rfl hl.1 rfl (lv_room (Nat.le_of_ble_eq_true rfl)) dX3_gramsRecovered_17 ⟨Nat.le_of_ble_eq_true rfl, Nat.le_of_ble_eq_true rfl⟩ (fun r_1 hr_1 => ?_)
    obtain rfl : r_1 = some (ad (32 + 2 * k)) := by rw [hr_1, ix_nI hk2 (by omega)]; rfl
    refine W.eq (g2 := F0 m 20 ls [.ref (ad (32 + 2 * k))]) rfl ?_
    refine lv_astore (lv' := [(5, .ref (ad (32 + 2 * k))), (4, .int (nI k)), (2, .long (sC_rec ms n k)), (0, .ref (ad 0)), (1, .int n)]) hx hb dX3_gramsRecovered_20 hl (by decide) rfl (fun ls hl => ?_)
    refine lv_aload hx hb dX3_gramsRecovered_22 (lv_at hl 0 rfl) ?_
    refine lv_ifnull hx hb dX3_gramsRecovered_24 ?_
    refine lv_aload hx hb dX3_gramsRecovered_27 (lv_at hl 0 rfl) ?_
    refine pw_get (ci := 0) (C := RX0) (T := TX0) (N := 8) hx hb hts inX0 hown hK hP (h0.mv hk2).1.1.1 (h0.mv hk2).1.2.1 rfl 0 (by decide) (hts _ mw_161) (fun _ h9 => h9) rfl dX3_gramsRecovered_29 ?_
    refine lv_iload_n hx hb dX3_gramsRecovered_32 rfl (lv_at hl 4 rfl) ?_
    refine lv_icmp_ne (tgt := 53) hx hb dX3_gramsRecovered_33 (by decide) (fun c_33 => ?_) (fun c_33 => ?_)
    · obtain ⟨z_2, ez_2⟩ : ∃ z : Int32, z = (nI k) + 1 := ⟨_, rfl⟩
      refine lv_iinc (v := z_2) (lv' := [(4, .int z_2), (5, .ref (ad (32 + 2 * k))), (2, .long (sC_rec ms n k)), (0, .ref (ad 0)), (1, .int n)]) hx hb dX3_gramsRecovered_53 hl (k := 1) rfl (by rw [ez_2]; rfl) (by decide) rfl (fun ls hl => ?_)
      refine lv_goto (tgt := 5) hx hb dX3_gramsRecovered_56 (by decide) ?_
      obtain rfl : z_2 = nI (k + 1) := by rw [ez_2]; exact nI_1 k
      have hsum : sC_rec ms n (k + 1) = sC_rec ms n k := by simp [sC_rec, c_33]
      rw [← hsum] at hl
      exact ih (k + 1) (by show k + 1 ≤ nM; omega) (by show nM - (k + 1) < nM - k; omega) ls (lv_sub hl [0, 2, 3, 4] rfl)
    · refine lv_aload hx hb dX3_gramsRecovered_36 (lv_at hl 0 rfl) ?_
      refine pw_get (ci := 0) (C := RX0) (T := TX0) (N := 8) hx hb hts inX0 hown hK hP (h0.mv hk2).1.1.1 (h0.mv hk2).1.2.1 rfl 5 (by decide) (hts _ mw_169) (fun _ h9 => h9) rfl dX3_gramsRecovered_38 ?_
      refine lv_iconst (v := 3) hx hb dX3_gramsRecovered_41 (by decide) ?_
      refine lv_icmp_ne (tgt := 53) hx hb dX3_gramsRecovered_42 (by decide) (fun c_42 => ?_) (fun c_42 => ?_)
      · obtain ⟨z_3, ez_3⟩ : ∃ z : Int32, z = (nI k) + 1 := ⟨_, rfl⟩
        refine lv_iinc (v := z_3) (lv' := [(4, .int z_3), (5, .ref (ad (32 + 2 * k))), (2, .long (sC_rec ms n k)), (0, .ref (ad 0)), (1, .int n)]) hx hb dX3_gramsRecovered_53 hl (k := 1) rfl (by rw [ez_3]; rfl) (by decide) rfl (fun ls hl => ?_)
        refine lv_goto (tgt := 5) hx hb dX3_gramsRecovered_56 (by decide) ?_
        obtain rfl : z_3 = nI (k + 1) := by rw [ez_3]; exact nI_1 k
        have hsum : sC_rec ms n (k + 1) = sC_rec ms n k := by simp [sC_rec, c_33, c_42]
        rw [← hsum] at hl
        exact ih (k + 1) (by show k + 1 ≤ nM; omega) (by show nM - (k + 1) < nM - k; omega) ls (lv_sub hl [0, 2, 3, 4] rfl)
      · refine lv_lload_n hx hb dX3_gramsRecovered_45 rfl (lv_at hl 2 rfl) ?_
        refine lv_aload hx hb dX3_gramsRecovered_46 (lv_at hl 0 rfl) ?_
        refine pw_get (ci := 0) (C := RX0) (T := TX0) (N := 8) hx hb hts inX0 hown hK hP (h0.mv hk2).1.1.1 (h0.mv hk2).1.2.1 rfl 1 (by decide) (hts _ mw_163) (fun _ h9 => h9) rfl dX3_gramsRecovered_48 ?_
        refine lv_ladd hx hb dX3_gramsRecovered_51 ?_
        refine lv_lstore_n (lv' := [(2, .long ((sC_rec ms n k) + ((ms k).2.1))), (5, .ref (ad (32 + 2 * k))), (4, .int (nI k)), (0, .ref (ad 0)), (1, .int n)]) hx hb dX3_gramsRecovered_52 rfl hl (by decide) rfl (fun ls hl => ?_)
        obtain ⟨z_4, ez_4⟩ : ∃ z : Int32, z = (nI k) + 1 := ⟨_, rfl⟩
        refine lv_iinc (v := z_4) (lv' := [(4, .int z_4), (2, .long ((sC_rec ms n k) + ((ms k).2.1))), (5, .ref (ad (32 + 2 * k))), (0, .ref (ad 0)), (1, .int n)]) hx hb dX3_gramsRecovered_53 hl (k := 2) rfl (by rw [ez_4]; rfl) (by decide) rfl (fun ls hl => ?_)
        refine lv_goto (tgt := 5) hx hb dX3_gramsRecovered_56 (by decide) ?_
        obtain rfl : z_4 = nI (k + 1) := by rw [ez_4]; exact nI_1 k
        have hsum : sC_rec ms n (k + 1) = (sC_rec ms n k) + ((ms k).2.1) := by simp [sC_rec, c_33, c_42]
        rw [← hsum] at hl
        exact ih (k + 1) (by show k + 1 ≤ nM; omega) (by show nM - (k + 1) < nM - k; omega) ls (lv_sub hl [0, 1, 3, 4] rfl)

set_option maxHeartbeats 4000000 in
set_option maxRecDepth 100000 in
theorem k_C_share (l : Launch) (G : va_G) (cs : Nat → ClassId) (L : List Nat) (f : Nat → va_E) (a_ b_ w : Int64) : Met l yX3_shareUp (Cond.code yX3_shareUp cX3_shareUp 10 (some FieldType.long) :: wg) ({ frames := 0, cells := 0, slots := 0, locals := 0 }) (pr_P [.long a_, .long b_, .long w] G vwCl (tyl cs) L f (fun _ => True)) (vp_Sl (fun r => r = sC_share a_ b_ w)) 0 0 (fun _ => False) := by
  refine Met.ofW (cc := cX3_shareUp) (maxL := 10) (ret := (some FieldType.long)) (by decide) rfl ?_
  intro p e s m args below meth c s₁ B hml hv
  obtain ⟨rfl, hP, hK, hX⟩ := hv
  have hx := B.exec
  have hb := B.bytes
  have hr := B.returns
  have hts0 := atoms_spec (ws := (Cond.code yX3_shareUp cX3_shareUp 10 (some FieldType.long) :: wg)) B.pre
  have hts := fun (w : Cond) (h : w ∈ wg) => hts0 w (List.mem_cons_of_mem _ h)
  have hown : s.vm.findClass RX3 = some m.cls := findClass_of_methodNamed B.named
  have hlocks := B.notSynchronized
  have hl := lv_entry ([.long a_, .long b_, .long w]) (n := 10) (Nat.le_of_ble_eq_true rfl)
  rw [lg_entry_eq]
  generalize (lg_sl ([.long a_, .long b_, .long w]) ++ List.replicate (10 - (lg_sl ([.long a_, .long b_, .long w])).length) Slot.unset).toArray = ls at hl ⊢
  have hl : lv_has ls 10 [(0, .long a_), (2, .long b_), (4, .long w)] := hl
  refine lv_lload hx hb dX3_shareUp_0 (lv_at hl 2 rfl) ?_
  refine lv_lconst (v := 1) hx hb dX3_shareUp_2 (by decide) ?_
  refine W.lcmp hx hb dX3_shareUp_3 ?_
  refine lv_if_ge (tgt := 9) hx hb dX3_shareUp_4 (by decide) (fun c_4 => ?_) (fun c_4 => ?_)
  · have c_4 := (lg_cmp_ge _ _).mp c_4
    have c_4n : ¬ w < 1 := Int64.not_lt.mpr c_4
    refine lv_lload_n hx hb dX3_shareUp_9 rfl (lv_at hl 0 rfl) ?_
    refine lv_lload hx hb dX3_shareUp_10 (lv_at hl 2 rfl) ?_
    refine lv_lrem hx hb dX3_shareUp_12 (fun h => by rw [h] at c_4; exact absurd c_4 (by decide)) ?_
    refine lv_lload_n hx hb dX3_shareUp_13 rfl (lv_at hl 1 rfl) ?_
    refine lv_lmul hx hb dX3_shareUp_14 ?_
    refine lv_lstore (lv' := [(6, .long ((a_ - a_ / w * w) * b_)), (0, .long a_), (2, .long b_), (4, .long w)]) hx hb dX3_shareUp_15 hl (by decide) rfl (fun ls hl => ?_)
    refine lv_lload hx hb dX3_shareUp_17 (lv_at hl 0 rfl) ?_
    refine lv_lload hx hb dX3_shareUp_19 (lv_at hl 3 rfl) ?_
    refine lv_lrem hx hb dX3_shareUp_21 (fun h => by rw [h] at c_4; exact absurd c_4 (by decide)) ?_
    refine lv_lconst (v := 0) hx hb dX3_shareUp_22 (by decide) ?_
    refine W.lcmp hx hb dX3_shareUp_23 ?_
    refine lv_if_ne (tgt := 31) hx hb dX3_shareUp_24 (by decide) (fun c_24 => ?_) (fun c_24 => ?_)
    · have c_24 : ¬ (((a_ - a_ / w * w) * b_) - ((a_ - a_ / w * w) * b_) / w * w) = 0 := fun h => c_24 ((lg_cmp_eq _ _).mpr h)
      refine lv_lconst (v := 1) hx hb dX3_shareUp_31 (by decide) ?_
      refine lv_lstore (lv' := [(8, .long 1), (6, .long ((a_ - a_ / w * w) * b_)), (0, .long a_), (2, .long b_), (4, .long w)]) hx hb dX3_shareUp_32 hl (by decide) rfl (fun ls hl => ?_)
      refine lv_lload_n hx hb dX3_shareUp_34 rfl (lv_at hl 2 rfl) ?_
      refine lv_lload hx hb dX3_shareUp_35 (lv_at hl 4 rfl) ?_
      refine lv_ldiv hx hb dX3_shareUp_37 (fun h => by rw [h] at c_4; exact absurd c_4 (by decide)) ?_
      refine lv_lload_n hx hb dX3_shareUp_38 rfl (lv_at hl 3 rfl) ?_
      refine lv_lmul hx hb dX3_shareUp_39 ?_
      refine lv_lload hx hb dX3_shareUp_40 (lv_at hl 1 rfl) ?_
      refine lv_lload hx hb dX3_shareUp_42 (lv_at hl 4 rfl) ?_
      refine lv_ldiv hx hb dX3_shareUp_44 (fun h => by rw [h] at c_4; exact absurd c_4 (by decide)) ?_
      refine lv_ladd hx hb dX3_shareUp_45 ?_
      refine lv_lload hx hb dX3_shareUp_46 (lv_at hl 0 rfl) ?_
      refine lv_ladd hx hb dX3_shareUp_48 ?_
      exact pr_retl hx hb hr hlocks dX3_shareUp_49 (by simp [sC_share, c_4n, c_24])
    · have c_24 := (lg_cmp_eq _ _).mp c_24
      refine lv_lconst (v := 0) hx hb dX3_shareUp_27 (by decide) ?_
      refine lv_goto (tgt := 32) hx hb dX3_shareUp_28 (by decide) ?_
      refine lv_lstore (lv' := [(8, .long 0), (6, .long ((a_ - a_ / w * w) * b_)), (0, .long a_), (2, .long b_), (4, .long w)]) hx hb dX3_shareUp_32 hl (by decide) rfl (fun ls hl => ?_)
      refine lv_lload_n hx hb dX3_shareUp_34 rfl (lv_at hl 2 rfl) ?_
      refine lv_lload hx hb dX3_shareUp_35 (lv_at hl 4 rfl) ?_
      refine lv_ldiv hx hb dX3_shareUp_37 (fun h => by rw [h] at c_4; exact absurd c_4 (by decide)) ?_
      refine lv_lload_n hx hb dX3_shareUp_38 rfl (lv_at hl 3 rfl) ?_
      refine lv_lmul hx hb dX3_shareUp_39 ?_
      refine lv_lload hx hb dX3_shareUp_40 (lv_at hl 1 rfl) ?_
      refine lv_lload hx hb dX3_shareUp_42 (lv_at hl 4 rfl) ?_
      refine lv_ldiv hx hb dX3_shareUp_44 (fun h => by rw [h] at c_4; exact absurd c_4 (by decide)) ?_
      refine lv_ladd hx hb dX3_shareUp_45 ?_
      refine lv_lload hx hb dX3_shareUp_46 (lv_at hl 0 rfl) ?_
      refine lv_ladd hx hb dX3_shareUp_48 ?_
      exact pr_retl hx hb hr hlocks dX3_shareUp_49 (by simp [sC_share, c_4n, c_24])
  · have c_4 : ¬ 1 ≤ w := fun h => c_4 ((lg_cmp_ge _ _).mpr h)
    have c_4 : w < 1 := Int64.not_le.mp c_4
    refine lv_lconst (v := 0) hx hb dX3_shareUp_7 (by decide) ?_
    exact pr_retl hx hb hr hlocks dX3_shareUp_8 (by simp [sC_share, c_4])

set_option maxHeartbeats 4000000 in
set_option maxRecDepth 100000 in
theorem k_C_left (l : Launch) (G : va_G) (cs : Nat → ClassId) (L : List Nat) (f : Nat → va_E) (ad : Nat → Nat) (t lm : Int32) (nN nM : Nat) (ns : Nat → NS) (ms : Nat → MS) (rt : Nat → Int32) (pg : sp_P) (n : Int32) (h0 : PS cs L f ad t lm nN nM ns ms rt pg) : Met l yX3_left (Cond.code yX3_left cX3_left 3 (some FieldType.long) :: wg) ({ frames := 2, cells := 0, slots := 0, locals := 46 }) (pr_P [.ref (ad 0), .int n] G vwCl (tyl cs) L f (fun _ => True)) (vp_Sl (fun r => r = sC_left nN nM ns ms n)) 0 0 (fun _ => False) := by
  refine Met.ofW (cc := cX3_left) (maxL := 3) (ret := (some FieldType.long)) (by decide) rfl ?_
  intro p e s m args below meth c s₁ B hml hv
  obtain ⟨rfl, hP, hK, hX⟩ := hv
  have hx := B.exec
  have hb := B.bytes
  have hr := B.returns
  have hts0 := atoms_spec (ws := (Cond.code yX3_left cX3_left 3 (some FieldType.long) :: wg)) B.pre
  have hts := fun (w : Cond) (h : w ∈ wg) => hts0 w (List.mem_cons_of_mem _ h)
  have hown : s.vm.findClass RX3 = some m.cls := findClass_of_methodNamed B.named
  have hlocks := B.notSynchronized
  have hl := lv_entry ([.ref (ad 0), .int n]) (n := 3) (Nat.le_of_ble_eq_true rfl)
  rw [lg_entry_eq]
  generalize (lg_sl ([.ref (ad 0), .int n]) ++ List.replicate (3 - (lg_sl ([.ref (ad 0), .int n])).length) Slot.unset).toArray = ls at hl ⊢
  have hl : lv_has ls 3 [(0, .ref (ad 0)), (1, .int n)] := hl
  have hN6 := h0.nN6
  have hM12 := h0.nM12
  have m0 := h0.mem (pu_lo (r := 0) (by decide))
  have e0 := h0.e0
  have m1 := h0.mem (pu_lo (r := 1) (by decide))
  have e1 := h0.e1
  have m2 := h0.mem (pu_lo (r := 2) (by decide))
  have e2 := h0.e2
  have m3 := h0.mem (pu_lo (r := 3) (by decide))
  have e3 := h0.e3
  refine lv_aload_n hx hb dX3_left_0 rfl (lv_at hl 0 rfl) ?_
  refine lv_iload_n hx hb dX3_left_1 rfl (lv_at hl 1 rfl) ?_
  refine pr_callVq (As := [.int n]) (rest := []) ⟨hx, hb, hml, hown, hts⟩ (k_C_nAt l G cs L f ad t lm nN nM ns ms rt pg n h0) (cwV 1 hts (wg_V mw_63 mw_65 ms_0 mw_1 mw_66) rfl rfl rfl (by decide +kernel) ⟨Nat.le_of_ble_eq_true rfl, Nat.le_of_ble_eq_true rfl⟩) hK hP m0 e0 rfl px_T (fun _ _ _ => trivial) rfl hl.1 rfl (lv_room (Nat.le_of_ble_eq_true rfl)) dX3_left_2 ⟨Nat.le_of_ble_eq_true rfl, Nat.le_of_ble_eq_true rfl⟩ (fun r_1 hr_1 => ?_)
  rcases ix_cases (m := nN) (by omega) n with ⟨hxi, hnoi⟩ | ⟨i, hi, eni, hxi, hci, hdi⟩
  · obtain rfl : r_1 = none := by rw [hr_1, hxi]; rfl
    refine W.eq (g2 := F0 m 5 ls [.null]) rfl ?_
    refine lv_astore_nN (lv' := [(2, .null), (0, .ref (ad 0)), (1, .int n)]) hx hb dX3_left_5 rfl hl (by decide) rfl (fun ls hl => ?_)
    refine lv_aload_nN hx hb dX3_left_6 rfl (lv_at hl 0 rfl) ?_
    refine lv_ifnonnullN hx hb dX3_left_7 ?_
    refine lv_ldc2 hx hb hown (hts _ mw_237) dX3_left_10 ?_
    refine lv_goto (tgt := 26) hx hb dX3_left_13 (by decide) ?_
    exact pr_retl hx hb hr hlocks dX3_left_26 (by simp [sC_left, hxi])
  · obtain rfl : r_1 = some (ad (8 + 4 * i)) := by rw [hr_1, hxi]; rfl
    refine W.eq (g2 := F0 m 5 ls [.ref (ad (8 + 4 * i))]) rfl ?_
    refine lv_astore_n (lv' := [(2, .ref (ad (8 + 4 * i))), (0, .ref (ad 0)), (1, .int n)]) hx hb dX3_left_5 rfl hl (by decide) rfl (fun ls hl => ?_)
    refine lv_aload_n hx hb dX3_left_6 rfl (lv_at hl 0 rfl) ?_
    refine lv_ifnonnull (tgt := 16) hx hb dX3_left_7 (by decide) ?_
    refine lv_aload_n hx hb dX3_left_16 rfl (lv_at hl 0 rfl) ?_
    refine pw_get (ci := 1) (C := RX1) (T := TX1) (N := 7) hx hb hts inX1 hown hK hP (h0.nt hi).1.1 (h0.nt hi).2.1.1 rfl 0 (by decide) (hts _ mw_82) (fun _ h9 => h9) rfl dX3_left_17 ?_
    refine lv_aload_n hx hb dX3_left_20 rfl (lv_at hl 1 rfl) ?_
    refine lv_iload_n hx hb dX3_left_21 rfl (lv_at hl 2 rfl) ?_
    refine pr_callVl (As := [.int n]) (rest := [.long ((ns i).1)]) ⟨hx, hb, hml, hown, hts⟩ (k_C_gim l G cs L f ad t lm nN nM ns ms rt pg n h0) (cwV 1 hts (wg_V mw_143 mw_145 ms_2 mw_1 mw_146) rfl rfl rfl (by decide +kernel) ⟨Nat.le_of_ble_eq_true rfl, Nat.le_of_ble_eq_true rfl⟩) hK hP m0 e0 rfl px_T (fun _ _ _ => trivial) rfl hl.1 rfl (lv_room (Nat.le_of_ble_eq_true rfl)) dX3_left_22 ⟨Nat.le_of_ble_eq_true rfl, Nat.le_of_ble_eq_true rfl⟩ (fun r_2 hr_2 => ?_)
    subst hr_2
    refine lv_lsub hx hb dX3_left_25 ?_
    exact pr_retl hx hb hr hlocks dX3_left_26 (by simp [sC_left, hxi])

set_option maxHeartbeats 4000000 in
set_option maxRecDepth 100000 in
theorem k_C_held (l : Launch) (G : va_G) (cs : Nat → ClassId) (L : List Nat) (f : Nat → va_E) (ad : Nat → Nat) (t lm : Int32) (nN nM : Nat) (ns : Nat → NS) (ms : Nat → MS) (rt : Nat → Int32) (pg : sp_P) (n : Int32) (h0 : PS cs L f ad t lm nN nM ns ms rt pg) : Met l yX3_held (Cond.code yX3_held cX3_held 3 (some FieldType.long) :: wg) ({ frames := 2, cells := 0, slots := 0, locals := 46 }) (pr_P [.ref (ad 0), .int n] G vwCl (tyl cs) L f (fun _ => True)) (vp_Sl (fun r => r = sC_held nN nM ns ms n)) 0 0 (fun _ => False) := by
  refine Met.ofW (cc := cX3_held) (maxL := 3) (ret := (some FieldType.long)) (by decide) rfl ?_
  intro p e s m args below meth c s₁ B hml hv
  obtain ⟨rfl, hP, hK, hX⟩ := hv
  have hx := B.exec
  have hb := B.bytes
  have hr := B.returns
  have hts0 := atoms_spec (ws := (Cond.code yX3_held cX3_held 3 (some FieldType.long) :: wg)) B.pre
  have hts := fun (w : Cond) (h : w ∈ wg) => hts0 w (List.mem_cons_of_mem _ h)
  have hown : s.vm.findClass RX3 = some m.cls := findClass_of_methodNamed B.named
  have hlocks := B.notSynchronized
  have hl := lv_entry ([.ref (ad 0), .int n]) (n := 3) (Nat.le_of_ble_eq_true rfl)
  rw [lg_entry_eq]
  generalize (lg_sl ([.ref (ad 0), .int n]) ++ List.replicate (3 - (lg_sl ([.ref (ad 0), .int n])).length) Slot.unset).toArray = ls at hl ⊢
  have hl : lv_has ls 3 [(0, .ref (ad 0)), (1, .int n)] := hl
  have hN6 := h0.nN6
  have hM12 := h0.nM12
  have m0 := h0.mem (pu_lo (r := 0) (by decide))
  have e0 := h0.e0
  have m1 := h0.mem (pu_lo (r := 1) (by decide))
  have e1 := h0.e1
  have m2 := h0.mem (pu_lo (r := 2) (by decide))
  have e2 := h0.e2
  have m3 := h0.mem (pu_lo (r := 3) (by decide))
  have e3 := h0.e3
  refine lv_aload_n hx hb dX3_held_0 rfl (lv_at hl 0 rfl) ?_
  refine lv_iload_n hx hb dX3_held_1 rfl (lv_at hl 1 rfl) ?_
  refine pr_callVq (As := [.int n]) (rest := []) ⟨hx, hb, hml, hown, hts⟩ (k_C_nAt l G cs L f ad t lm nN nM ns ms rt pg n h0) (cwV 1 hts (wg_V mw_63 mw_65 ms_0 mw_1 mw_66) rfl rfl rfl (by decide +kernel) ⟨Nat.le_of_ble_eq_true rfl, Nat.le_of_ble_eq_true rfl⟩) hK hP m0 e0 rfl px_T (fun _ _ _ => trivial) rfl hl.1 rfl (lv_room (Nat.le_of_ble_eq_true rfl)) dX3_held_2 ⟨Nat.le_of_ble_eq_true rfl, Nat.le_of_ble_eq_true rfl⟩ (fun r_1 hr_1 => ?_)
  rcases ix_cases (m := nN) (by omega) n with ⟨hxi, hnoi⟩ | ⟨i, hi, eni, hxi, hci, hdi⟩
  · obtain rfl : r_1 = none := by rw [hr_1, hxi]; rfl
    refine W.eq (g2 := F0 m 5 ls [.null]) rfl ?_
    refine lv_astore_nN (lv' := [(2, .null), (0, .ref (ad 0)), (1, .int n)]) hx hb dX3_held_5 rfl hl (by decide) rfl (fun ls hl => ?_)
    refine lv_aload_nN hx hb dX3_held_6 rfl (lv_at hl 0 rfl) ?_
    refine lv_ifnonnullN hx hb dX3_held_7 ?_
    refine lv_ldc2 hx hb hown (hts _ mw_237) dX3_held_10 ?_
    exact pr_retl hx hb hr hlocks dX3_held_13 (by simp [sC_held, hxi])
  · obtain rfl : r_1 = some (ad (8 + 4 * i)) := by rw [hr_1, hxi]; rfl
    refine W.eq (g2 := F0 m 5 ls [.ref (ad (8 + 4 * i))]) rfl ?_
    refine lv_astore_n (lv' := [(2, .ref (ad (8 + 4 * i))), (0, .ref (ad 0)), (1, .int n)]) hx hb dX3_held_5 rfl hl (by decide) rfl (fun ls hl => ?_)
    refine lv_aload_n hx hb dX3_held_6 rfl (lv_at hl 0 rfl) ?_
    refine lv_ifnonnull (tgt := 14) hx hb dX3_held_7 (by decide) ?_
    refine lv_aload_n hx hb dX3_held_14 rfl (lv_at hl 0 rfl) ?_
    refine pw_get (ci := 1) (C := RX1) (T := TX1) (N := 7) hx hb hts inX1 hown hK hP (h0.nt hi).1.1 (h0.nt hi).2.1.1 rfl 6 (by decide) (hts _ mw_90) (fun _ h9 => h9) rfl dX3_held_15 ?_
    refine lv_aload_n hx hb dX3_held_18 rfl (lv_at hl 0 rfl) ?_
    refine pw_get (ci := 1) (C := RX1) (T := TX1) (N := 7) hx hb hts inX1 hown hK hP (h0.nt hi).1.1 (h0.nt hi).2.1.1 rfl 0 (by decide) (hts _ mw_82) (fun _ h9 => h9) rfl dX3_held_19 ?_
    refine lv_aload_n hx hb dX3_held_22 rfl (lv_at hl 1 rfl) ?_
    refine lv_iload_n hx hb dX3_held_23 rfl (lv_at hl 2 rfl) ?_
    refine pr_callVl (As := [.int n]) (rest := [.long ((ns i).1), .long ((ns i).2.2.2.2.2.2)]) ⟨hx, hb, hml, hown, hts⟩ (k_C_rec l G cs L f ad t lm nN nM ns ms rt pg n h0) (cwV 1 hts (wg_V mw_247 mw_249 ms_6 mw_1 mw_250) rfl rfl rfl (by decide +kernel) ⟨Nat.le_of_ble_eq_true rfl, Nat.le_of_ble_eq_true rfl⟩) hK hP m0 e0 rfl px_T (fun _ _ _ => trivial) rfl hl.1 rfl (lv_room (Nat.le_of_ble_eq_true rfl)) dX3_held_24 ⟨Nat.le_of_ble_eq_true rfl, Nat.le_of_ble_eq_true rfl⟩ (fun r_2 hr_2 => ?_)
    subst hr_2
    refine lv_lsub hx hb dX3_held_27 ?_
    refine lv_aload_n hx hb dX3_held_28 rfl (lv_at hl 0 rfl) ?_
    refine pw_get (ci := 1) (C := RX1) (T := TX1) (N := 7) hx hb hts inX1 hown hK hP (h0.nt hi).1.1 (h0.nt hi).2.1.1 rfl 0 (by decide) (hts _ mw_82) (fun _ h9 => h9) rfl dX3_held_29 ?_
    refine pr_callSl (As := [.long ((ns i).2.2.2.2.2.2), .long (((ns i).1) - (sC_rec ms n nM)), .long ((ns i).1)]) (rest := []) ⟨hx, hb, hml, hown, hts⟩ (k_C_share l G cs L f ((ns i).2.2.2.2.2.2) (((ns i).1) - (sC_rec ms n nM)) ((ns i).1)) (cwS 3 hts (wg_S mw_251 mw_252 mw_1 mw_253) rfl rfl rfl (by decide +kernel) ⟨Nat.le_of_ble_eq_true rfl, Nat.le_of_ble_eq_true rfl⟩) hK hP px_T (fun _ _ _ => trivial) rfl hl.1 rfl (lv_room (Nat.le_of_ble_eq_true rfl)) dX3_held_32 ⟨Nat.le_of_ble_eq_true rfl, Nat.le_of_ble_eq_true rfl⟩ (fun r_3 hr_3 => ?_)
    subst hr_3
    exact pr_retl hx hb hr hlocks dX3_held_35 (by simp [sC_held, hxi])

set_option maxHeartbeats 4000000 in
set_option maxRecDepth 100000 in
theorem k_C_back (l : Launch) (G : va_G) (cs : Nat → ClassId) (L : List Nat) (f : Nat → va_E) (ad : Nat → Nat) (t lm : Int32) (nN nM : Nat) (ns : Nat → NS) (ms : Nat → MS) (rt : Nat → Int32) (pg : sp_P) (n k : Int32) (h0 : PS cs L f ad t lm nN nM ns ms rt pg) : Met l yX3_back (Cond.code yX3_back cX3_back 4 (some FieldType.int) :: wg) ({ frames := 1, cells := 0, slots := 0, locals := 21 }) (pr_P [.ref (ad 0), .int n, .int k] G vwCl (tyl cs) L f (fun _ => True)) (vp_Si (fun r => r = sC_back nM ms n k)) 0 0 (fun _ => False) := by
  refine Met.ofW (cc := cX3_back) (maxL := 4) (ret := (some FieldType.int)) (by decide) rfl ?_
  intro p e s m args below meth c s₁ B hml hv
  obtain ⟨rfl, hP, hK, hX⟩ := hv
  have hx := B.exec
  have hb := B.bytes
  have hr := B.returns
  have hts0 := atoms_spec (ws := (Cond.code yX3_back cX3_back 4 (some FieldType.int) :: wg)) B.pre
  have hts := fun (w : Cond) (h : w ∈ wg) => hts0 w (List.mem_cons_of_mem _ h)
  have hown : s.vm.findClass RX3 = some m.cls := findClass_of_methodNamed B.named
  have hlocks := B.notSynchronized
  have hl := lv_entry ([.ref (ad 0), .int n, .int k]) (n := 4) (Nat.le_of_ble_eq_true rfl)
  rw [lg_entry_eq]
  generalize (lg_sl ([.ref (ad 0), .int n, .int k]) ++ List.replicate (4 - (lg_sl ([.ref (ad 0), .int n, .int k])).length) Slot.unset).toArray = ls at hl ⊢
  have hl : lv_has ls 4 [(0, .ref (ad 0)), (1, .int n), (2, .int k)] := hl
  have hN6 := h0.nN6
  have hM12 := h0.nM12
  have m0 := h0.mem (pu_lo (r := 0) (by decide))
  have e0 := h0.e0
  have m1 := h0.mem (pu_lo (r := 1) (by decide))
  have e1 := h0.e1
  have m2 := h0.mem (pu_lo (r := 2) (by decide))
  have e2 := h0.e2
  have m3 := h0.mem (pu_lo (r := 3) (by decide))
  have e3 := h0.e3
  refine lv_aload_n hx hb dX3_back_0 rfl (lv_at hl 0 rfl) ?_
  refine lv_iload_n hx hb dX3_back_1 rfl (lv_at hl 1 rfl) ?_
  refine pr_callVq (As := [.int n]) (rest := []) ⟨hx, hb, hml, hown, hts⟩ (k_C_mAt l G cs L f ad t lm nN nM ns ms rt pg n h0) (cwV 1 hts (wg_V mw_147 mw_149 ms_3 mw_1 mw_150) rfl rfl rfl (by decide +kernel) ⟨Nat.le_of_ble_eq_true rfl, Nat.le_of_ble_eq_true rfl⟩) hK hP m0 e0 rfl px_T (fun _ _ _ => trivial) rfl hl.1 rfl (lv_room (Nat.le_of_ble_eq_true rfl)) dX3_back_2 ⟨Nat.le_of_ble_eq_true rfl, Nat.le_of_ble_eq_true rfl⟩ (fun r_1 hr_1 => ?_)
  rcases ix_cases (m := nM) (by omega) n with ⟨hxj, hnoj⟩ | ⟨j, hj, enj, hxj, hcj, hdj⟩
  · obtain rfl : r_1 = none := by rw [hr_1, hxj]; rfl
    refine W.eq (g2 := F0 m 5 ls [.null]) rfl ?_
    refine lv_astore_nN (lv' := [(3, .null), (0, .ref (ad 0)), (1, .int n), (2, .int k)]) hx hb dX3_back_5 rfl hl (by decide) rfl (fun ls hl => ?_)
    refine lv_aload_nN hx hb dX3_back_6 rfl (lv_at hl 0 rfl) ?_
    refine lv_ifnonnullN hx hb dX3_back_7 ?_
    refine lv_iconst (v := (-1)) hx hb dX3_back_10 (by decide) ?_
    refine lv_goto (tgt := 19) hx hb dX3_back_11 (by decide) ?_
    exact pr_reti hx hb hr hlocks dX3_back_19 (by simp [sC_back, hxj])
  · obtain rfl : r_1 = some (ad (32 + 2 * j)) := by rw [hr_1, hxj]; rfl
    refine W.eq (g2 := F0 m 5 ls [.ref (ad (32 + 2 * j))]) rfl ?_
    refine lv_astore_n (lv' := [(3, .ref (ad (32 + 2 * j))), (0, .ref (ad 0)), (1, .int n), (2, .int k)]) hx hb dX3_back_5 rfl hl (by decide) rfl (fun ls hl => ?_)
    refine lv_aload_n hx hb dX3_back_6 rfl (lv_at hl 0 rfl) ?_
    refine lv_ifnonnull (tgt := 14) hx hb dX3_back_7 (by decide) ?_
    refine lv_aload_n hx hb dX3_back_14 rfl (lv_at hl 0 rfl) ?_
    refine lv_iload_n hx hb dX3_back_15 rfl (lv_at hl 3 rfl) ?_
    refine pr_callVi (As := [.int k]) (rest := []) ⟨hx, hb, hml, hown, hts⟩ (k_M_back l G cs L f (ad (32 + 2 * j)) (ad (33 + 2 * j)) (ms j).1 (ms j).2.1 (ms j).2.2.1 (ms j).2.2.2.1 (ms j).2.2.2.2.1 (ms j).2.2.2.2.2.1 (ms j).2.2.2.2.2.2.1 (ms j).2.2.2.2.2.2.2 k (h0.mv hj).1 (h0.mv hj).2) (cwV 1 hts (wg_V mw_282 mw_275 mw_276 mw_5 mw_277) rfl rfl rfl (by decide +kernel) ⟨Nat.le_of_ble_eq_true rfl, Nat.le_of_ble_eq_true rfl⟩) hK hP (h0.mv hj).1.1.1 (h0.mv hj).1.2.1 rfl px_T (fun _ _ _ => trivial) rfl hl.1 rfl (lv_room (Nat.le_of_ble_eq_true rfl)) dX3_back_16 ⟨Nat.le_of_ble_eq_true rfl, Nat.le_of_ble_eq_true rfl⟩ (fun r_2 hr_2 => ?_)
    subst hr_2
    exact pr_reti hx hb hr hlocks dX3_back_19 (by simp [sC_back, hxj])

set_option maxHeartbeats 4000000 in
set_option maxRecDepth 100000 in
theorem k_C_late (l : Launch) (G : va_G) (cs : Nat → ClassId) (L : List Nat) (f : Nat → va_E) (ad : Nat → Nat) (t lm : Int32) (nN nM : Nat) (ns : Nat → NS) (ms : Nat → MS) (rt : Nat → Int32) (pg : sp_P) (k_ : Int32) (h0 : PS cs L f ad t lm nN nM ns ms rt pg) : Met l yX3_late (Cond.code yX3_late cX3_late 5 (some FieldType.int) :: wg) ({ frames := 1, cells := 0, slots := 0, locals := 21 }) (pr_P [.ref (ad 0), .int k_] G vwCl (tyl cs) L f (fun _ => True)) (vp_Si (fun r => r = sC_lt t lm ms k_ nM 0 0)) 0 0 (fun _ => False) := by
  refine Met.ofW (cc := cX3_late) (maxL := 5) (ret := (some FieldType.int)) (by decide) rfl ?_
  intro p e s m args below meth c s₁ B hml hv
  obtain ⟨rfl, hP, hK, hX⟩ := hv
  have hx := B.exec
  have hb := B.bytes
  have hr := B.returns
  have hts0 := atoms_spec (ws := (Cond.code yX3_late cX3_late 5 (some FieldType.int) :: wg)) B.pre
  have hts := fun (w : Cond) (h : w ∈ wg) => hts0 w (List.mem_cons_of_mem _ h)
  have hown : s.vm.findClass RX3 = some m.cls := findClass_of_methodNamed B.named
  have hlocks := B.notSynchronized
  have hl := lv_entry ([.ref (ad 0), .int k_]) (n := 5) (Nat.le_of_ble_eq_true rfl)
  rw [lg_entry_eq]
  generalize (lg_sl ([.ref (ad 0), .int k_]) ++ List.replicate (5 - (lg_sl ([.ref (ad 0), .int k_])).length) Slot.unset).toArray = ls at hl ⊢
  have hl : lv_has ls 5 [(0, .ref (ad 0)), (1, .int k_)] := hl
  have hN6 := h0.nN6
  have hM12 := h0.nM12
  have m0 := h0.mem (pu_lo (r := 0) (by decide))
  have e0 := h0.e0
  have m1 := h0.mem (pu_lo (r := 1) (by decide))
  have e1 := h0.e1
  have m2 := h0.mem (pu_lo (r := 2) (by decide))
  have e2 := h0.e2
  have m3 := h0.mem (pu_lo (r := 3) (by decide))
  have e3 := h0.e3
  refine lv_iconst (v := 0) hx hb dX3_late_0 (by decide) ?_
  refine lv_istore_n (lv' := [(2, .int 0), (0, .ref (ad 0)), (1, .int k_)]) hx hb dX3_late_1 rfl hl (by decide) rfl (fun ls hl => ?_)
  refine lv_iconst (v := 0) hx hb dX3_late_2 (by decide) ?_
  refine lv_istore_n (lv' := [(3, .int 0), (2, .int 0), (0, .ref (ad 0)), (1, .int k_)]) hx hb dX3_late_3 rfl hl (by decide) rfl (fun ls hl => ?_)
  refine pr_loop (σ := Nat × Int32) (nL := 5) (fun x => nM - x.1) (fun x => x.1 ≤ nM ∧ sC_lt t lm ms k_ (nM - x.1) x.1 x.2 = sC_lt t lm ms k_ nM 0 0) (fun x => [(3, .int (nI x.1)), (2, .int x.2), (0, .ref (ad 0)), (1, .int k_)]) ?_ (0, 0) ⟨Nat.zero_le _, rfl⟩ ls (lv_sub hl [0, 1, 2, 3] rfl)
  rintro ⟨k, b⟩ ⟨hk, hI2⟩ ih ls hl
  have hk : k ≤ nM := hk
  have hI2 : sC_lt t lm ms k_ (nM - k) k b = sC_lt t lm ms k_ nM 0 0 := hI2
  refine lv_iload_n hx hb dX3_late_4 rfl (lv_at hl 0 rfl) ?_
  refine lv_aload_n hx hb dX3_late_5 rfl (lv_at hl 2 rfl) ?_
  refine pw_get (ci := 3) (C := RX3) (T := TX3) (N := 8) hx hb hts inX3 hown hK hP m0 e0 rfl 5 (by decide) (hts _ mw_38) (fun _ h9 => h9) rfl dX3_late_6 ?_
  refine lv_icmp_ge (tgt := 49) hx hb dX3_late_9 (by decide) (fun c_9 => ?_) (fun c_9 => ?_)
  · have hk2 : k = nM := Nat.le_antisymm hk (nI_of_le c_9 (by omega))
    subst hk2
    refine lv_iconst (v := (-1)) hx hb dX3_late_49 (by decide) ?_
    exact pr_reti hx hb hr hlocks dX3_late_50 (by rw [← hI2, Nat.sub_self]; rfl)
  · have hk2 : k < nM := nI_of_ge c_9 (by omega)
    refine lv_aload_n hx hb dX3_late_12 rfl (lv_at hl 2 rfl) ?_
    refine lv_iload_n hx hb dX3_late_13 rfl (lv_at hl 0 rfl) ?_
    refine pr_callVq (As := [.int (nI k)]) (rest := []) ⟨hx, hb, hml, hown, hts⟩ (k_C_mAt l G cs L f ad t lm nN nM ns ms rt pg (nI k) h0) (cwV 1 hts (wg_V mw_147 mw_149 ms_3 mw_1 mw_150) rfl rfl rfl (by decide +kernel) ⟨Nat.le_of_ble_eq_true rfl, Nat.le_of_ble_eq_true rfl⟩) hK hP m0 e0 rfl px_T (fun _ _ _ => trivial) rfl hl.1 rfl (lv_room (Nat.le_of_ble_eq_true rfl)) dX3_late_14 ⟨Nat.le_of_ble_eq_true rfl, Nat.le_of_ble_eq_true rfl⟩ (fun r_1 hr_1 => ?_)
    obtain rfl : r_1 = some (ad (32 + 2 * k)) := by rw [hr_1, ix_nI hk2 (by omega)]; rfl
    refine W.eq (g2 := F0 m 17 ls [.ref (ad (32 + 2 * k))]) rfl ?_
    refine lv_astore (lv' := [(4, .ref (ad (32 + 2 * k))), (3, .int (nI k)), (2, .int b), (0, .ref (ad 0)), (1, .int k_)]) hx hb dX3_late_17 hl (by decide) rfl (fun ls hl => ?_)
    refine lv_aload hx hb dX3_late_19 (lv_at hl 0 rfl) ?_
    refine lv_ifnull hx hb dX3_late_21 ?_
    refine lv_aload_n hx hb dX3_late_24 rfl (lv_at hl 3 rfl) ?_
    refine lv_aload hx hb dX3_late_25 (lv_at hl 0 rfl) ?_
    refine pr_callVi (As := [.ref (ad (32 + 2 * k))]) (rest := []) ⟨hx, hb, hml, hown, hts⟩ (k_C_isl l G cs L f ad t lm nN nM ns ms rt pg k h0 hk2) (cwV 1 hts (wg_V mw_262 mw_264 ms_7 mw_1 mw_265) rfl rfl rfl (by decide +kernel) ⟨Nat.le_of_ble_eq_true rfl, Nat.le_of_ble_eq_true rfl⟩) hK hP m0 e0 rfl px_T (fun _ _ _ => trivial) rfl hl.1 rfl (lv_room (Nat.le_of_ble_eq_true rfl)) dX3_late_27 ⟨Nat.le_of_ble_eq_true rfl, Nat.le_of_ble_eq_true rfl⟩ (fun r_2 hr_2 => ?_)
    subst hr_2
    refine lv_if_eq (tgt := 43) hx hb dX3_late_30 (by decide) (fun c_30 => ?_) (fun c_30 => ?_)
    · obtain ⟨z_3, ez_3⟩ : ∃ z : Int32, z = (nI k) + 1 := ⟨_, rfl⟩
      refine lv_iinc (v := z_3) (lv' := [(3, .int z_3), (4, .ref (ad (32 + 2 * k))), (2, .int b), (0, .ref (ad 0)), (1, .int k_)]) hx hb dX3_late_43 hl (k := 1) rfl (by rw [ez_3]; rfl) (by decide) rfl (fun ls hl => ?_)
      refine lv_goto (tgt := 4) hx hb dX3_late_46 (by decide) ?_
      obtain rfl : z_3 = nI (k + 1) := by rw [ez_3]; exact nI_1 k
      refine ih (k + 1, b) ⟨(by show k + 1 ≤ nM; omega), ?_⟩ (by show nM - (k + 1) < nM - k; omega) ls (lv_sub hl [0, 2, 3, 4] rfl)
      rw [← hI2, show nM - k = (nM - (k + 1)) + 1 by omega]
      simp [sC_lt, c_30]
    · refine lv_iload_n hx hb dX3_late_33 rfl (lv_at hl 2 rfl) ?_
      refine lv_iload_n hx hb dX3_late_34 rfl (lv_at hl 4 rfl) ?_
      refine lv_icmp_ne (tgt := 40) hx hb dX3_late_35 (by decide) (fun c_35 => ?_) (fun c_35 => ?_)
      · obtain ⟨z_4, ez_4⟩ : ∃ z : Int32, z = b + 1 := ⟨_, rfl⟩
        refine lv_iinc (v := z_4) (lv' := [(2, .int z_4), (4, .ref (ad (32 + 2 * k))), (3, .int (nI k)), (0, .ref (ad 0)), (1, .int k_)]) hx hb dX3_late_40 hl (k := 2) rfl (by rw [ez_4]; rfl) (by decide) rfl (fun ls hl => ?_)
        obtain ⟨z_5, ez_5⟩ : ∃ z : Int32, z = (nI k) + 1 := ⟨_, rfl⟩
        refine lv_iinc (v := z_5) (lv' := [(3, .int z_5), (2, .int z_4), (4, .ref (ad (32 + 2 * k))), (0, .ref (ad 0)), (1, .int k_)]) hx hb dX3_late_43 hl (k := 2) rfl (by rw [ez_5]; rfl) (by decide) rfl (fun ls hl => ?_)
        refine lv_goto (tgt := 4) hx hb dX3_late_46 (by decide) ?_
        obtain rfl : z_5 = nI (k + 1) := by rw [ez_5]; exact nI_1 k
        subst ez_4
        refine ih (k + 1, b + 1) ⟨(by show k + 1 ≤ nM; omega), ?_⟩ (by show nM - (k + 1) < nM - k; omega) ls (lv_sub hl [0, 1, 3, 4] rfl)
        rw [← hI2, show nM - k = (nM - (k + 1)) + 1 by omega]
        simp [sC_lt, c_30, c_35]
      · refine lv_iload_n hx hb dX3_late_38 rfl (lv_at hl 1 rfl) ?_
        exact pr_reti hx hb hr hlocks dX3_late_39 (by rw [← hI2, show nM - k = (nM - (k + 1)) + 1 by omega]; simp [sC_lt, c_30, c_35])
