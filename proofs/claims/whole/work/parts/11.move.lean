/-! The class Move: contracts. Laid by wip/gen/move.py. -/
set_option maxHeartbeats 4000000 in
set_option maxRecDepth 100000 in
theorem k_M_uses (l : Launch) (G : va_G) (cs : Nat → ClassId) (L : List Nat) (f : Nat → va_E) (q q1 : Nat) (no : Int32) (g : Int64) (dy : Int32) (cr : Nat → Int32) (cc : Nat) (st si mk : Int32) (hM : MV cs L f q q1 no g dy cr cc st si mk) : Met l yX0_usesGrams (Cond.code yX0_usesGrams cX0_usesGrams 1 (some FieldType.boolean) :: wg) ({ frames := 0, cells := 0, slots := 0, locals := 0 }) (pr_P [.ref q] G vwCl (tyl cs) L f (fun _ => True)) (vp_Si (fun r => r = sp_uses st)) 0 0 (fun _ => False) := by
  refine Met.ofW (cc := cX0_usesGrams) (maxL := 1) (ret := (some FieldType.boolean)) (by decide) rfl ?_
  intro p e s m args below meth c s₁ B hml hv
  obtain ⟨rfl, hP, hK, hX⟩ := hv
  have hx := B.exec
  have hb := B.bytes
  have hr := B.returns
  have hts0 := atoms_spec (ws := (Cond.code yX0_usesGrams cX0_usesGrams 1 (some FieldType.boolean) :: wg)) B.pre
  have hts := fun (w : Cond) (h : w ∈ wg) => hts0 w (List.mem_cons_of_mem _ h)
  have hown : s.vm.findClass RX0 = some m.cls := findClass_of_methodNamed B.named
  have hlocks := B.notSynchronized
  have hl := lv_entry ([.ref q]) (n := 1) (Nat.le_of_ble_eq_true rfl)
  rw [lg_entry_eq]
  generalize (lg_sl ([.ref q]) ++ List.replicate (1 - (lg_sl ([.ref q])).length) Slot.unset).toArray = ls at hl ⊢
  have hl : lv_has ls 1 [(0, .ref q)] := hl
  obtain ⟨⟨m0, m1⟩, e0, e1⟩ := id hM
  refine lv_aload_n hx hb dX0_usesGrams_0 rfl (lv_at hl 0 rfl) ?_
  refine pw_get (ci := 0) (C := RX0) (T := TX0) (N := 8) hx hb hts inX0 hown hK hP m0 e0 rfl 5 (by decide) (hts _ mw_168) (fun _ h9 => h9) rfl dX0_usesGrams_1 ?_
  refine lv_iconst (v := 4) hx hb dX0_usesGrams_4 (by decide) ?_
  refine lv_icmp_eq (tgt := 20) hx hb dX0_usesGrams_5 (by decide) (fun c_5 => ?_) (fun c_5 => ?_)
  · refine lv_iconst (v := 0) hx hb dX0_usesGrams_20 (by decide) ?_
    exact pr_retz hx hb hr rfl hlocks dX0_usesGrams_21 (by simp [sp_uses, c_5])
  · refine lv_aload_n hx hb dX0_usesGrams_8 rfl (lv_at hl 0 rfl) ?_
    refine pw_get (ci := 0) (C := RX0) (T := TX0) (N := 8) hx hb hts inX0 hown hK hP m0 e0 rfl 5 (by decide) (hts _ mw_168) (fun _ h9 => h9) rfl dX0_usesGrams_9 ?_
    refine lv_iconst (v := 5) hx hb dX0_usesGrams_12 (by decide) ?_
    refine lv_icmp_eq (tgt := 20) hx hb dX0_usesGrams_13 (by decide) (fun c_13 => ?_) (fun c_13 => ?_)
    · refine lv_iconst (v := 0) hx hb dX0_usesGrams_20 (by decide) ?_
      exact pr_retz hx hb hr rfl hlocks dX0_usesGrams_21 (by simp [sp_uses, c_5, c_13])
    · refine lv_iconst (v := 1) hx hb dX0_usesGrams_16 (by decide) ?_
      refine lv_goto (tgt := 21) hx hb dX0_usesGrams_17 (by decide) ?_
      exact pr_retz hx hb hr rfl hlocks dX0_usesGrams_21 (by simp [sp_uses, c_5, c_13])

set_option maxHeartbeats 4000000 in
set_option maxRecDepth 100000 in
theorem k_M_enter (l : Launch) (G : va_G) (cs : Nat → ClassId) (L : List Nat) (f : Nat → va_E) (sz : Nat) (q q1 : Nat) (no : Int32) (g : Int64) (dy : Int32) (cr : Nat → Int32) (cc : Nat) (st si mk : Int32) (n t : Int32) (hM : MV cs L f q q1 no g dy cr cc st si mk) : Met l yX0_enter (Cond.code yX0_enter cX0_enter 3 none :: wg) ({ frames := 0, cells := 0, slots := 0, locals := 0 }) (pc_P [.ref q, .int n, .int t] G vwCl (tyl cs) L f sz (fun _ => True)) (va_Qv (fun u => u = (L, va_up f q (.inr (0, [.int no, .long g, .int dy, .ref q1, .int (nI cc), .int n, .int t, .int mk])))) (pc_B G vwCl L sz) (pw_A L sz)) 0 0 (pw_A L sz) := by
  refine Met.ofW (cc := cX0_enter) (maxL := 3) (ret := none) (by decide) rfl ?_
  intro p e s m args below meth c s₁ B hml hv
  obtain ⟨rfl, hsz, hP, hK, hD0, hX⟩ := hv
  have hx := B.exec
  have hb := B.bytes
  have hr := B.returns
  have hts0 := atoms_spec (ws := (Cond.code yX0_enter cX0_enter 3 none :: wg)) B.pre
  have hts := fun (w : Cond) (h : w ∈ wg) => hts0 w (List.mem_cons_of_mem _ h)
  have hown : s.vm.findClass RX0 = some m.cls := findClass_of_methodNamed B.named
  have hlocks := B.notSynchronized
  subst hsz
  have hD := pw_selfD (sz := s.heap.size) hD0
  have hA : ∀ q : Nat, s.heap.size ≤ q → pw_A L s.heap.size q := fun q h => Or.inr h
  have hS : va_S (pw_A L s.heap.size) s.heap s.heap [] := va_S.rf
  have hl := lv_entry ([.ref q, .int n, .int t]) (n := 3) (Nat.le_of_ble_eq_true rfl)
  rw [lg_entry_eq]
  generalize (lg_sl ([.ref q, .int n, .int t]) ++ List.replicate (3 - (lg_sl ([.ref q, .int n, .int t])).length) Slot.unset).toArray = ls at hl ⊢
  have hl : lv_has ls 3 [(0, .ref q), (1, .int n), (2, .int t)] := hl
  obtain ⟨⟨m0, m1⟩, e0, e1⟩ := id hM
  refine lv_aload_n hx hb dX0_enter_0 rfl (lv_at hl 0 rfl) ?_
  refine lv_iload_n hx hb dX0_enter_1 rfl (lv_at hl 1 rfl) ?_
  refine pw_put (ty := .int) (ci := 0) (v := .int n) (C := RX0) (T := TX0) (N := 8) hx hb hts inX0 tyX0 tyX0_ok nmX0 hown hK hP hD hS m0 e0 rfl 5 (by decide) (hts _ mw_168) (fun _ h9 => h9) rfl (by decide +kernel) rfl rfl (Nat.le_of_ble_eq_true rfl) dX0_enter_2 (fun H locs hP hD hS => ?_)
  obtain ⟨f_1, ef_1⟩ : ∃ zz : Nat → va_E, zz = va_up f q (.inr (0, [.int no, .long g, .int dy, .ref q1, .int (nI cc), .int n, .int si, .int mk])) := ⟨_, rfl⟩
  have hP : va_P G vwCl (va_pl L f_1) H := by rw [ef_1]; exact hP
  have hD : va_D (pw_A L s.heap.size) (va_pl L f_1) := by rw [ef_1]; exact hD
  have hf_1_q : f_1 q = .inr (0, [.int no, .long g, .int dy, .ref q1, .int (nI cc), .int n, .int si, .int mk]) := by rw [ef_1]; exact va_up_self _ _ _
  have hf_1_q1 := (show f_1 q1 = f q1 by rw [ef_1]; exact va_up_ne _ _ (pe_ro e0 e1).symm).trans e1
  refine lv_aload_n hx hb dX0_enter_5 rfl (lv_at hl 0 rfl) ?_
  refine lv_iload_n hx hb dX0_enter_6 rfl (lv_at hl 2 rfl) ?_
  refine pw_put (ty := .int) (ci := 0) (v := .int t) (C := RX0) (T := TX0) (N := 8) hx hb hts inX0 tyX0 tyX0_ok nmX0 hown hK hP hD hS m0 hf_1_q rfl 6 (by decide) (hts _ mw_170) (fun _ h9 => h9) rfl (by decide +kernel) rfl rfl (Nat.le_of_ble_eq_true rfl) dX0_enter_7 (fun H locs hP hD hS => ?_)
  obtain ⟨f_2, ef_2⟩ : ∃ zz : Nat → va_E, zz = va_up f_1 q (.inr (0, [.int no, .long g, .int dy, .ref q1, .int (nI cc), .int n, .int t, .int mk])) := ⟨_, rfl⟩
  have hP : va_P G vwCl (va_pl L f_2) H := by rw [ef_2]; exact hP
  have hD : va_D (pw_A L s.heap.size) (va_pl L f_2) := by rw [ef_2]; exact hD
  have hf_2_q : f_2 q = .inr (0, [.int no, .long g, .int dy, .ref q1, .int (nI cc), .int n, .int t, .int mk]) := by rw [ef_2]; exact va_up_self _ _ _
  have hf_2_q1 := (show f_2 q1 = f_1 q1 by rw [ef_2]; exact va_up_ne _ _ (pe_ro e0 e1).symm).trans hf_1_q1
  exact pc_retv hx hb hr hlocks hP hD hS dX0_enter_10 (by rw [ef_2, ef_1, bx_uu])

set_option maxHeartbeats 4000000 in
set_option maxRecDepth 100000 in
theorem k_M_back (l : Launch) (G : va_G) (cs : Nat → ClassId) (L : List Nat) (f : Nat → va_E) (q q1 : Nat) (no : Int32) (g : Int64) (dy : Int32) (cr : Nat → Int32) (cc : Nat) (st si mk : Int32) (k : Int32) (hM : MV cs L f q q1 no g dy cr cc st si mk) (h6 : cc ≤ 6) : Met l yX0_carrierBack (Cond.code yX0_carrierBack cX0_carrierBack 2 (some FieldType.int) :: wg) ({ frames := 0, cells := 0, slots := 0, locals := 0 }) (pr_P [.ref q, .int k] G vwCl (tyl cs) L f (fun _ => True)) (vp_Si (fun r => r = sp_back cr cc k)) 0 0 (fun _ => False) := by
  refine Met.ofW (cc := cX0_carrierBack) (maxL := 2) (ret := (some FieldType.int)) (by decide) rfl ?_
  intro p e s m args below meth c s₁ B hml hv
  obtain ⟨rfl, hP, hK, hX⟩ := hv
  have hx := B.exec
  have hb := B.bytes
  have hr := B.returns
  have hts0 := atoms_spec (ws := (Cond.code yX0_carrierBack cX0_carrierBack 2 (some FieldType.int) :: wg)) B.pre
  have hts := fun (w : Cond) (h : w ∈ wg) => hts0 w (List.mem_cons_of_mem _ h)
  have hown : s.vm.findClass RX0 = some m.cls := findClass_of_methodNamed B.named
  have hlocks := B.notSynchronized
  have hl := lv_entry ([.ref q, .int k]) (n := 2) (Nat.le_of_ble_eq_true rfl)
  rw [lg_entry_eq]
  generalize (lg_sl ([.ref q, .int k]) ++ List.replicate (2 - (lg_sl ([.ref q, .int k])).length) Slot.unset).toArray = ls at hl ⊢
  have hl : lv_has ls 2 [(0, .ref q), (1, .int k)] := hl
  obtain ⟨⟨m0, m1⟩, e0, e1⟩ := id hM
  refine lv_iload_n hx hb dX0_carrierBack_0 rfl (lv_at hl 1 rfl) ?_
  refine lv_if_lt (tgt := 12) hx hb dX0_carrierBack_1 (by decide) (fun c_1 => ?_) (fun c_1 => ?_)
  · refine lv_iconst (v := (-1)) hx hb dX0_carrierBack_12 (by decide) ?_
    refine lv_goto (tgt := 29) hx hb dX0_carrierBack_13 (by decide) ?_
    exact pr_reti hx hb hr hlocks dX0_carrierBack_29 (by simp [sp_back, c_1])
  · refine lv_iload_n hx hb dX0_carrierBack_4 rfl (lv_at hl 1 rfl) ?_
    refine lv_aload_n hx hb dX0_carrierBack_5 rfl (lv_at hl 0 rfl) ?_
    refine pw_get (ci := 0) (C := RX0) (T := TX0) (N := 8) hx hb hts inX0 hown hK hP m0 e0 rfl 4 (by decide) (hts _ mw_167) (fun _ h9 => h9) rfl dX0_carrierBack_6 ?_
    refine lv_icmp_lt (tgt := 16) hx hb dX0_carrierBack_9 (by decide) (fun c_9 => ?_) (fun c_9 => ?_)
    · obtain ⟨j, hj, ej, ek, ei⟩ := bk_ix h6 c_1 c_9
      refine lv_aload_n hx hb dX0_carrierBack_16 rfl (lv_at hl 0 rfl) ?_
      refine pw_get (ci := 0) (C := RX0) (T := TX0) (N := 8) hx hb hts inX0 hown hK hP m0 e0 rfl 3 (by decide) (hts _ mw_166) (fun _ h9 => h9) rfl dX0_carrierBack_17 ?_
      refine lv_aload_n hx hb dX0_carrierBack_20 rfl (lv_at hl 0 rfl) ?_
      refine pw_get (ci := 0) (C := RX0) (T := TX0) (N := 8) hx hb hts inX0 hown hK hP m0 e0 rfl 4 (by decide) (hts _ mw_167) (fun _ h9 => h9) rfl dX0_carrierBack_21 ?_
      refine lv_iconst (v := 1) hx hb dX0_carrierBack_24 (by decide) ?_
      refine lv_isub hx hb dX0_carrierBack_25 ?_
      refine lv_iload_n hx hb dX0_carrierBack_26 rfl (lv_at hl 1 rfl) ?_
      refine lv_isub hx hb dX0_carrierBack_27 ?_
      rw [ei]
      refine pw_ialdN (k := cc - 1 - j) hx hb hK hP m1 0 e1 rfl (by omega) (by decide) dX0_carrierBack_28 ?_
      exact pr_reti hx hb hr hlocks dX0_carrierBack_29 (by simp [sp_back, c_1, c_9, ek])
    · refine lv_iconst (v := (-1)) hx hb dX0_carrierBack_12 (by decide) ?_
      refine lv_goto (tgt := 29) hx hb dX0_carrierBack_13 (by decide) ?_
      exact pr_reti hx hb hr hlocks dX0_carrierBack_29 (by simp [sp_back, c_1, c_9])

def sp_addc (f : Nat → va_E) (cs : Nat → ClassId) (q q1 : Nat) (no : Int32) (g : Int64) (dy : Int32) (cr : Nat → Int32) (cc : Nat) (st si mk x : Int32) : Int32 × (Nat → va_E) := if 6 ≤ cc then (-1, f) else if sp_back cr cc 0 = x then (-1, f) else (nI (cc + 1), va_up (va_up f q1 (.inl (cs 0, 6, .inl (upd cr cc x)))) q (.inr (0, [.int no, .long g, .int dy, .ref q1, .int (nI (cc + 1)), .int st, .int si, .int mk])))

set_option maxHeartbeats 4000000 in
set_option maxRecDepth 100000 in
theorem k_M_addc (l : Launch) (G : va_G) (cs : Nat → ClassId) (L : List Nat) (f : Nat → va_E) (sz : Nat) (q q1 : Nat) (no : Int32) (g : Int64) (dy : Int32) (cr : Nat → Int32) (cc : Nat) (st si mk : Int32) (x : Int32) (hM : MV cs L f q q1 no g dy cr cc st si mk) (h6 : cc ≤ 6) : Met l yX0_addCarrier (Cond.code yX0_addCarrier cX0_addCarrier 2 (some FieldType.int) :: wg) ({ frames := 1, cells := 0, slots := 0, locals := 21 }) (pc_P [.ref q, .int x] G vwCl (tyl cs) L f sz (fun _ => True)) (va_Qi (fun r u => (r, u) = ((sp_addc f cs q q1 no g dy cr cc st si mk x).1, (L, (sp_addc f cs q q1 no g dy cr cc st si mk x).2))) (pc_B G vwCl L sz) (pw_A L sz)) 0 0 (pw_A L sz) := by
  refine Met.ofW (cc := cX0_addCarrier) (maxL := 2) (ret := (some FieldType.int)) (by decide) rfl ?_
  intro p e s m args below meth c s₁ B hml hv
  obtain ⟨rfl, hsz, hP, hK, hD0, hX⟩ := hv
  have hx := B.exec
  have hb := B.bytes
  have hr := B.returns
  have hts0 := atoms_spec (ws := (Cond.code yX0_addCarrier cX0_addCarrier 2 (some FieldType.int) :: wg)) B.pre
  have hts := fun (w : Cond) (h : w ∈ wg) => hts0 w (List.mem_cons_of_mem _ h)
  have hown : s.vm.findClass RX0 = some m.cls := findClass_of_methodNamed B.named
  have hlocks := B.notSynchronized
  subst hsz
  have hD := pw_selfD (sz := s.heap.size) hD0
  have hA : ∀ q : Nat, s.heap.size ≤ q → pw_A L s.heap.size q := fun q h => Or.inr h
  have hS : va_S (pw_A L s.heap.size) s.heap s.heap [] := va_S.rf
  have hl := lv_entry ([.ref q, .int x]) (n := 2) (Nat.le_of_ble_eq_true rfl)
  rw [lg_entry_eq]
  generalize (lg_sl ([.ref q, .int x]) ++ List.replicate (2 - (lg_sl ([.ref q, .int x])).length) Slot.unset).toArray = ls at hl ⊢
  have hl : lv_has ls 2 [(0, .ref q), (1, .int x)] := hl
  obtain ⟨⟨m0, m1⟩, e0, e1⟩ := id hM
  refine lv_aload_n hx hb dX0_addCarrier_0 rfl (lv_at hl 0 rfl) ?_
  refine pw_get (ci := 0) (C := RX0) (T := TX0) (N := 8) hx hb hts inX0 hown hK hP m0 e0 rfl 4 (by decide) (hts _ mw_167) (fun _ h9 => h9) rfl dX0_addCarrier_1 ?_
  refine lv_bipush (v := 6) hx hb dX0_addCarrier_4 (by decide) ?_
  refine lv_icmp_ge (tgt := 18) hx hb dX0_addCarrier_6 (by decide) (fun c_6 => ?_) (fun c_6 => ?_)
  · have c_6 : 6 ≤ cc := nI_of_le (b := 6) c_6 (by decide)
    refine lv_iconst (v := (-1)) hx hb dX0_addCarrier_18 (by decide) ?_
    exact pc_reti hx hb hr hlocks hP hD hS dX0_addCarrier_19 (by simp [sp_addc, c_6])
  · have hc6 : cc < 6 := nI_of_ge (b := 6) c_6 (by omega)
    have c_6 : ¬ 6 ≤ cc := Nat.not_le.mpr hc6
    refine lv_aload_n hx hb dX0_addCarrier_9 rfl (lv_at hl 0 rfl) ?_
    refine lv_iconst (v := 0) hx hb dX0_addCarrier_10 (by decide) ?_
    refine pr_callVi (As := [.int 0]) (rest := []) ⟨hx, hb, hml, hown, hts⟩ (k_M_back l G cs L f q q1 no g dy cr cc st si mk 0 hM h6) (cwV 1 hts (wg_V mw_274 mw_275 mw_276 mw_5 mw_277) rfl rfl rfl (by decide +kernel) ⟨Nat.le_of_ble_eq_true rfl, Nat.le_of_ble_eq_true rfl⟩) hK hP m0 e0 rfl px_T (fun _ _ _ => trivial) rfl hl.1 rfl (lv_room (Nat.le_of_ble_eq_true rfl)) dX0_addCarrier_11 ⟨Nat.le_of_ble_eq_true rfl, Nat.le_of_ble_eq_true rfl⟩ (fun r_1 hr_1 => ?_)
    subst hr_1
    refine lv_iload_n hx hb dX0_addCarrier_14 rfl (lv_at hl 1 rfl) ?_
    refine lv_icmp_ne (tgt := 20) hx hb dX0_addCarrier_15 (by decide) (fun c_15 => ?_) (fun c_15 => ?_)
    · refine lv_aload_n hx hb dX0_addCarrier_20 rfl (lv_at hl 0 rfl) ?_
      refine pw_get (ci := 0) (C := RX0) (T := TX0) (N := 8) hx hb hts inX0 hown hK hP m0 e0 rfl 3 (by decide) (hts _ mw_166) (fun _ h9 => h9) rfl dX0_addCarrier_21 ?_
      refine lv_aload_n hx hb dX0_addCarrier_24 rfl (lv_at hl 0 rfl) ?_
      refine pw_get (ci := 0) (C := RX0) (T := TX0) (N := 8) hx hb hts inX0 hown hK hP m0 e0 rfl 4 (by decide) (hts _ mw_167) (fun _ h9 => h9) rfl dX0_addCarrier_25 ?_
      refine lv_iload_n hx hb dX0_addCarrier_28 rfl (lv_at hl 1 rfl) ?_
      refine pw_iastN (k := cc) hx hb hK hP hD hS m1 0 e1 rfl hc6 (by decide) dX0_addCarrier_29 (fun H locs hP hD hS => ?_)
      obtain ⟨f_2, ef_2⟩ : ∃ zz : Nat → va_E, zz = va_up f q1 (.inl (cs 0, 6, .inl (upd cr cc x))) := ⟨_, rfl⟩
      have hP : va_P G vwCl (va_pl L f_2) H := by rw [ef_2]; exact hP
      have hD : va_D (pw_A L s.heap.size) (va_pl L f_2) := by rw [ef_2]; exact hD
      have hf_2_q := (show f_2 q = f q by rw [ef_2]; exact va_up_ne _ _ (pe_ro e0 e1)).trans e0
      have hf_2_q1 : f_2 q1 = .inl (cs 0, 6, .inl (upd cr cc x)) := by rw [ef_2]; exact va_up_self _ _ _
      refine lv_aload_n hx hb dX0_addCarrier_30 rfl (lv_at hl 0 rfl) ?_
      refine lv_dup hx hb dX0_addCarrier_31 rfl ?_
      refine pw_get (ci := 0) (C := RX0) (T := TX0) (N := 8) hx hb hts inX0 hown hK hP m0 hf_2_q rfl 4 (by decide) (hts _ mw_167) (fun _ h9 => h9) rfl dX0_addCarrier_32 ?_
      refine lv_iconst (v := 1) hx hb dX0_addCarrier_35 (by decide) ?_
      refine lv_iadd hx hb dX0_addCarrier_36 ?_
      rw [nI_1]
      refine pw_put (ty := .int) (ci := 0) (v := .int (nI (cc + 1))) (C := RX0) (T := TX0) (N := 8) hx hb hts inX0 tyX0 tyX0_ok nmX0 hown hK hP hD hS m0 hf_2_q rfl 4 (by decide) (hts _ mw_167) (fun _ h9 => h9) rfl (by decide +kernel) rfl rfl (Nat.le_of_ble_eq_true rfl) dX0_addCarrier_37 (fun H locs hP hD hS => ?_)
      obtain ⟨f_3, ef_3⟩ : ∃ zz : Nat → va_E, zz = va_up f_2 q (.inr (0, [.int no, .long g, .int dy, .ref q1, .int (nI (cc + 1)), .int st, .int si, .int mk])) := ⟨_, rfl⟩
      have hP : va_P G vwCl (va_pl L f_3) H := by rw [ef_3]; exact hP
      have hD : va_D (pw_A L s.heap.size) (va_pl L f_3) := by rw [ef_3]; exact hD
      have hf_3_q : f_3 q = .inr (0, [.int no, .long g, .int dy, .ref q1, .int (nI (cc + 1)), .int st, .int si, .int mk]) := by rw [ef_3]; exact va_up_self _ _ _
      have hf_3_q1 := (show f_3 q1 = f_2 q1 by rw [ef_3]; exact va_up_ne _ _ (pe_ro e0 e1).symm).trans hf_2_q1
      refine lv_aload_n hx hb dX0_addCarrier_40 rfl (lv_at hl 0 rfl) ?_
      refine pw_get (ci := 0) (C := RX0) (T := TX0) (N := 8) hx hb hts inX0 hown hK hP m0 hf_3_q rfl 4 (by decide) (hts _ mw_167) (fun _ h9 => h9) rfl dX0_addCarrier_41 ?_
      exact pc_reti hx hb hr hlocks hP hD hS dX0_addCarrier_44 (by simp [sp_addc, c_6, c_15, ef_2, ef_3])
    · refine lv_iconst (v := (-1)) hx hb dX0_addCarrier_18 (by decide) ?_
      exact pc_reti hx hb hr hlocks hP hD hS dX0_addCarrier_19 (by simp [sp_addc, c_6, c_15])

theorem sp_let_nar (j : Nat) : narrow .char (.int (sp_lets j)) = .int (sp_lets j) := by
  match j with
  | 0 => rfl
  | 1 => rfl
  | 2 => rfl
  | 3 => rfl
  | 4 => rfl
  | 5 => rfl
  | k + 6 => simp [sp_lets]; rfl

set_option maxHeartbeats 4000000 in
set_option maxRecDepth 100000 in
theorem k_M_letter (l : Launch) (G : va_G) (cs : Nat → ClassId) (L : List Nat) (f : Nat → va_E) (q q1 : Nat) (no : Int32) (g : Int64) (dy : Int32) (cr : Nat → Int32) (cc : Nat) (st si mk : Int32) (tL tC : Nat) (hM : MV cs L f q q1 no g dy cr cc st si mk) : Met l yX0_letter (Cond.code yX0_letter cX0_letter 1 (some FieldType.char) :: wg) ({ frames := 0, cells := 0, slots := 0, locals := 0 }) (pr_P [.ref q] G vwCl (tyl cs) L f (fun U => SX tL tC (fun _ => False) U U.heap)) (vp_Si (fun r => r = sp_letter st)) 0 0 (fun _ => False) := by
  refine Met.ofW (cc := cX0_letter) (maxL := 1) (ret := (some FieldType.char)) (by decide) rfl ?_
  intro p e s m args below meth c s₁ B hml hv
  obtain ⟨rfl, hP, hK, hX⟩ := hv
  have hx := B.exec
  have hb := B.bytes
  have hr := B.returns
  have hts0 := atoms_spec (ws := (Cond.code yX0_letter cX0_letter 1 (some FieldType.char) :: wg)) B.pre
  have hts := fun (w : Cond) (h : w ∈ wg) => hts0 w (List.mem_cons_of_mem _ h)
  have hown : s.vm.findClass RX0 = some m.cls := findClass_of_methodNamed B.named
  have hlocks := B.notSynchronized
  have hl := lv_entry ([.ref q]) (n := 1) (Nat.le_of_ble_eq_true rfl)
  rw [lg_entry_eq]
  generalize (lg_sl ([.ref q]) ++ List.replicate (1 - (lg_sl ([.ref q])).length) Slot.unset).toArray = ls at hl ⊢
  have hl : lv_has ls 1 [(0, .ref q)] := hl
  obtain ⟨⟨m0, m1⟩, e0, e1⟩ := id hM
  refine lv_aload_n hx hb dX0_letter_0 rfl (lv_at hl 0 rfl) ?_
  refine pw_get (ci := 0) (C := RX0) (T := TX0) (N := 8) hx hb hts inX0 hown hK hP m0 e0 rfl 5 (by decide) (hts _ mw_168) (fun _ h9 => h9) rfl dX0_letter_1 ?_
  refine lv_if_lt (tgt := 16) hx hb dX0_letter_4 (by decide) (fun c_4 => ?_) (fun c_4 => ?_)
  · refine lv_bipush (v := 63) hx hb dX0_letter_16 (by decide) ?_
    refine lv_goto (tgt := 29) hx hb dX0_letter_18 (by decide) ?_
    exact pr_retz hx hb hr rfl hlocks dX0_letter_29 (by simp [sp_letter, c_4])
  · refine lv_aload_n hx hb dX0_letter_7 rfl (lv_at hl 0 rfl) ?_
    refine pw_get (ci := 0) (C := RX0) (T := TX0) (N := 8) hx hb hts inX0 hown hK hP m0 e0 rfl 5 (by decide) (hts _ mw_168) (fun _ h9 => h9) rfl dX0_letter_8 ?_
    refine lv_bipush (v := 6) hx hb dX0_letter_11 (by decide) ?_
    refine lv_icmp_lt (tgt := 21) hx hb dX0_letter_13 (by decide) (fun c_13 => ?_) (fun c_13 => ?_)
    · refine va_getsN (A := fun _ => False) hx hb hX.2.2.1 va_S.rf hown (va_Nw.use rfl hX.2.2.2.2) (fun _ h => h) dX0_letter_21 ?_
      refine lv_aload_n hx hb dX0_letter_24 rfl (lv_at hl 0 rfl) ?_
      refine pw_get (ci := 0) (C := RX0) (T := TX0) (N := 8) hx hb hts inX0 hown hK hP m0 e0 rfl 5 (by decide) (hts _ mw_168) (fun _ h9 => h9) rfl dX0_letter_25 ?_
      refine va_tc (A := fun _ => False) hx hb hX.2.2.2.1 va_S.rf (vi_in (n := 6) (by decide) c_4 (Int32.not_le.mpr c_13)) rfl dX0_letter_28 ?_
      exact pr_retz hx hb hr (sp_let_nar _) hlocks dX0_letter_29 (by simp [sp_letter, c_4, c_13])
    · refine lv_bipush (v := 63) hx hb dX0_letter_16 (by decide) ?_
      refine lv_goto (tgt := 29) hx hb dX0_letter_18 (by decide) ?_
      exact pr_retz hx hb hr rfl hlocks dX0_letter_29 (by simp [sp_letter, c_4, c_13])

set_option maxHeartbeats 4000000 in
set_option maxRecDepth 100000 in
theorem k_M_init (l : Launch) (G : va_G) (cs : Nat → ClassId) (L : List Nat) (f : Nat → va_E) (sz : Nat) (q : Nat) (no : Int32) (g : Int64) (dy si : Int32) (hq0 : q ∈ L) (he0 : f q = .inr (0, [.int 0, .long 0, .int 0, .null, .int 0, .int 0, .int 0, .int 0])) : Met l yX0_init (Cond.code yX0_init cX0_init 6 none :: wg) ({ frames := 1, cells := 1, slots := 6, locals := 12 }) (pc_P [.ref q, .int no, .long g, .int dy, .int si] G vwCl (tyl cs) L f sz (fun _ => True)) (va_Qv (fun u => ∃ q1, q1 ∉ L ∧ (∀ a ∈ L, a ∈ u.1) ∧ (∀ a, a ∈ L → a ≠ q → u.2 a = f a) ∧ MV cs u.1 u.2 q q1 no g dy (fun _ => 0) 0 0 si 0) (pc_B G vwCl L sz) (pw_A L sz)) 1 6 (pw_A L sz) := by
  refine Met.ofW (cc := cX0_init) (maxL := 6) (ret := none) (by decide) rfl ?_
  intro p e s m args below meth c s₁ B hml hv
  obtain ⟨rfl, hsz, hP, hK, hD0, hX⟩ := hv
  have hx := B.exec
  have hb := B.bytes
  have hr := B.returns
  have hts0 := atoms_spec (ws := (Cond.code yX0_init cX0_init 6 none :: wg)) B.pre
  have hts := fun (w : Cond) (h : w ∈ wg) => hts0 w (List.mem_cons_of_mem _ h)
  have hown : s.vm.findClass RX0 = some m.cls := findClass_of_methodNamed B.named
  have hlocks := B.notSynchronized
  have hin : meth.name = "<init>" := (name_of_methodNamed B.named B.method).1
  subst hsz
  have hD := pw_selfD (sz := s.heap.size) hD0
  have hA : ∀ q : Nat, s.heap.size ≤ q → pw_A L s.heap.size q := fun q h => Or.inr h
  have hS : va_S (pw_A L s.heap.size) s.heap s.heap [] := va_S.rf
  have hl := lv_entry ([.ref q, .int no, .long g, .int dy, .int si]) (n := 6) (Nat.le_of_ble_eq_true rfl)
  rw [lg_entry_eq]
  generalize (lg_sl ([.ref q, .int no, .long g, .int dy, .int si]) ++ List.replicate (6 - (lg_sl ([.ref q, .int no, .long g, .int dy, .int si])).length) Slot.unset).toArray = ls at hl ⊢
  have hl : lv_has ls 6 [(0, .ref q), (1, .int no), (2, .long g), (4, .int dy), (5, .int si)] := hl
  refine lv_aload_n hx hb dX0_init_0 rfl (lv_at hl 0 rfl) ?_
  refine W.objInit hx hb hown (hts _ mw_159) (hts _ mw_12) (hts _ mw_obj) rfl (by rw [hml]; exact hl.1) rfl dX0_init_1 (Nat.le_of_ble_eq_true rfl) (Nat.le_of_ble_eq_true rfl) ?_
  refine W.eq (g2 := F0 m 4 ls []) rfl ?_
  refine lv_aload_n hx hb dX0_init_4 rfl (lv_at hl 0 rfl) ?_
  refine lv_bipush (v := 6) hx hb dX0_init_5 (by decide) ?_
  refine pw_newa (atype := .int) (ty := .int) (a0 := (6, .inl (fun _ => 0))) hx hb (hts _ mw_106) rfl hK hP hD hS hA 0 rfl (fun _ h => h) (fun _ => rfl) (by decide) (by decide) (by decide) (Nat.le_of_ble_eq_true rfl) (Nat.le_of_ble_eq_true rfl) dX0_init_7 (fun q_2 H hq_2 hP hD hS => ?_)
  refine W.widen (k := 1) (n := 6) (Nat.le_refl _) (Nat.le_of_ble_eq_true rfl) ?_
  obtain ⟨f_1, ef_1⟩ : ∃ zz : Nat → va_E, zz = va_up f q_2 (.inl (cs 0, 6, .inl (fun _ => 0))) := ⟨_, rfl⟩
  have hP : va_P G vwCl (va_pl (L ++ [q_2]) f_1) H := by rw [ef_1]; exact hP
  have hD : va_D (pw_A L s.heap.size) (va_pl (L ++ [q_2]) f_1) := by rw [ef_1]; exact hD
  have mf_1_q : q ∈ (L ++ [q_2]) := List.mem_append_left _ hq0
  have hf_1_q := (show f_1 q = f q by rw [ef_1]; exact va_up_ne _ _ (fun h => hq_2 (h ▸ hq0))).trans he0
  have mf_1_q_2 : q_2 ∈ (L ++ [q_2]) := List.mem_append_right _ (List.mem_singleton.mpr rfl)
  have hf_1_q_2 : f_1 q_2 = .inl (cs 0, 6, .inl (fun _ => 0)) := by rw [ef_1]; exact va_up_self _ _ _
  refine pw_putF (ty := .array .int) (ci := 0) (v := .ref q_2) (C := RX0) (T := TX0) (N := 8) hx hb hts inX0 tyX0 tyX0_ok nmX0 hown hK hP hD hS mf_1_q hf_1_q rfl 3 (by decide) (hts _ mw_166) (fun _ h9 => h9) rfl hin rfl (by decide +kernel) rfl rfl (Nat.le_of_ble_eq_true rfl) dX0_init_9 (fun H locs hP hD hS => ?_)
  obtain ⟨f_3, ef_3⟩ : ∃ zz : Nat → va_E, zz = va_up f_1 q (.inr (0, [.int 0, .long 0, .int 0, .ref q_2, .int 0, .int 0, .int 0, .int 0])) := ⟨_, rfl⟩
  have hP : va_P G vwCl (va_pl (L ++ [q_2]) f_3) H := by rw [ef_3]; exact hP
  have hD : va_D (pw_A L s.heap.size) (va_pl (L ++ [q_2]) f_3) := by rw [ef_3]; exact hD
  have hf_3_q : f_3 q = .inr (0, [.int 0, .long 0, .int 0, .ref q_2, .int 0, .int 0, .int 0, .int 0]) := by rw [ef_3]; exact va_up_self _ _ _
  have hf_3_q_2 := (show f_3 q_2 = f_1 q_2 by rw [ef_3]; exact va_up_ne _ _ (pe_ro hf_1_q hf_1_q_2).symm).trans hf_1_q_2
  refine lv_aload_n hx hb dX0_init_12 rfl (lv_at hl 0 rfl) ?_
  refine lv_iload_n hx hb dX0_init_13 rfl (lv_at hl 1 rfl) ?_
  refine pw_putF (ty := .int) (ci := 0) (v := .int no) (C := RX0) (T := TX0) (N := 8) hx hb hts inX0 tyX0 tyX0_ok nmX0 hown hK hP hD hS mf_1_q hf_3_q rfl 0 (by decide) (hts _ mw_160) (fun _ h9 => h9) rfl hin rfl (by decide +kernel) rfl rfl (Nat.le_of_ble_eq_true rfl) dX0_init_14 (fun H locs hP hD hS => ?_)
  obtain ⟨f_4, ef_4⟩ : ∃ zz : Nat → va_E, zz = va_up f_3 q (.inr (0, [.int no, .long 0, .int 0, .ref q_2, .int 0, .int 0, .int 0, .int 0])) := ⟨_, rfl⟩
  have hP : va_P G vwCl (va_pl (L ++ [q_2]) f_4) H := by rw [ef_4]; exact hP
  have hD : va_D (pw_A L s.heap.size) (va_pl (L ++ [q_2]) f_4) := by rw [ef_4]; exact hD
  have hf_4_q : f_4 q = .inr (0, [.int no, .long 0, .int 0, .ref q_2, .int 0, .int 0, .int 0, .int 0]) := by rw [ef_4]; exact va_up_self _ _ _
  have hf_4_q_2 := (show f_4 q_2 = f_3 q_2 by rw [ef_4]; exact va_up_ne _ _ (pe_ro hf_3_q hf_3_q_2).symm).trans hf_3_q_2
  refine lv_aload_n hx hb dX0_init_17 rfl (lv_at hl 0 rfl) ?_
  refine lv_lload_n hx hb dX0_init_18 rfl (lv_at hl 2 rfl) ?_
  refine pw_putF (ty := .long) (ci := 0) (v := .long g) (C := RX0) (T := TX0) (N := 8) hx hb hts inX0 tyX0 tyX0_ok nmX0 hown hK hP hD hS mf_1_q hf_4_q rfl 1 (by decide) (hts _ mw_162) (fun _ h9 => h9) rfl hin rfl (by decide +kernel) rfl rfl (Nat.le_of_ble_eq_true rfl) dX0_init_19 (fun H locs hP hD hS => ?_)
  obtain ⟨f_5, ef_5⟩ : ∃ zz : Nat → va_E, zz = va_up f_4 q (.inr (0, [.int no, .long g, .int 0, .ref q_2, .int 0, .int 0, .int 0, .int 0])) := ⟨_, rfl⟩
  have hP : va_P G vwCl (va_pl (L ++ [q_2]) f_5) H := by rw [ef_5]; exact hP
  have hD : va_D (pw_A L s.heap.size) (va_pl (L ++ [q_2]) f_5) := by rw [ef_5]; exact hD
  have hf_5_q : f_5 q = .inr (0, [.int no, .long g, .int 0, .ref q_2, .int 0, .int 0, .int 0, .int 0]) := by rw [ef_5]; exact va_up_self _ _ _
  have hf_5_q_2 := (show f_5 q_2 = f_4 q_2 by rw [ef_5]; exact va_up_ne _ _ (pe_ro hf_4_q hf_4_q_2).symm).trans hf_4_q_2
  refine lv_aload_n hx hb dX0_init_22 rfl (lv_at hl 0 rfl) ?_
  refine lv_iload hx hb dX0_init_23 (lv_at hl 3 rfl) ?_
  refine pw_putF (ty := .int) (ci := 0) (v := .int dy) (C := RX0) (T := TX0) (N := 8) hx hb hts inX0 tyX0 tyX0_ok nmX0 hown hK hP hD hS mf_1_q hf_5_q rfl 2 (by decide) (hts _ mw_164) (fun _ h9 => h9) rfl hin rfl (by decide +kernel) rfl rfl (Nat.le_of_ble_eq_true rfl) dX0_init_25 (fun H locs hP hD hS => ?_)
  obtain ⟨f_6, ef_6⟩ : ∃ zz : Nat → va_E, zz = va_up f_5 q (.inr (0, [.int no, .long g, .int dy, .ref q_2, .int 0, .int 0, .int 0, .int 0])) := ⟨_, rfl⟩
  have hP : va_P G vwCl (va_pl (L ++ [q_2]) f_6) H := by rw [ef_6]; exact hP
  have hD : va_D (pw_A L s.heap.size) (va_pl (L ++ [q_2]) f_6) := by rw [ef_6]; exact hD
  have hf_6_q : f_6 q = .inr (0, [.int no, .long g, .int dy, .ref q_2, .int 0, .int 0, .int 0, .int 0]) := by rw [ef_6]; exact va_up_self _ _ _
  have hf_6_q_2 := (show f_6 q_2 = f_5 q_2 by rw [ef_6]; exact va_up_ne _ _ (pe_ro hf_5_q hf_5_q_2).symm).trans hf_5_q_2
  refine lv_aload_n hx hb dX0_init_28 rfl (lv_at hl 0 rfl) ?_
  refine lv_iconst (v := 0) hx hb dX0_init_29 (by decide) ?_
  refine pw_put (ty := .int) (ci := 0) (v := .int 0) (C := RX0) (T := TX0) (N := 8) hx hb hts inX0 tyX0 tyX0_ok nmX0 hown hK hP hD hS mf_1_q hf_6_q rfl 5 (by decide) (hts _ mw_168) (fun _ h9 => h9) rfl (by decide +kernel) rfl rfl (Nat.le_of_ble_eq_true rfl) dX0_init_30 (fun H locs hP hD hS => ?_)
  obtain ⟨f_7, ef_7⟩ : ∃ zz : Nat → va_E, zz = va_up f_6 q (.inr (0, [.int no, .long g, .int dy, .ref q_2, .int 0, .int 0, .int 0, .int 0])) := ⟨_, rfl⟩
  have hP : va_P G vwCl (va_pl (L ++ [q_2]) f_7) H := by rw [ef_7]; exact hP
  have hD : va_D (pw_A L s.heap.size) (va_pl (L ++ [q_2]) f_7) := by rw [ef_7]; exact hD
  have hf_7_q : f_7 q = .inr (0, [.int no, .long g, .int dy, .ref q_2, .int 0, .int 0, .int 0, .int 0]) := by rw [ef_7]; exact va_up_self _ _ _
  have hf_7_q_2 := (show f_7 q_2 = f_6 q_2 by rw [ef_7]; exact va_up_ne _ _ (pe_ro hf_6_q hf_6_q_2).symm).trans hf_6_q_2
  refine lv_aload_n hx hb dX0_init_33 rfl (lv_at hl 0 rfl) ?_
  refine lv_iload hx hb dX0_init_34 (lv_at hl 4 rfl) ?_
  refine pw_put (ty := .int) (ci := 0) (v := .int si) (C := RX0) (T := TX0) (N := 8) hx hb hts inX0 tyX0 tyX0_ok nmX0 hown hK hP hD hS mf_1_q hf_7_q rfl 6 (by decide) (hts _ mw_170) (fun _ h9 => h9) rfl (by decide +kernel) rfl rfl (Nat.le_of_ble_eq_true rfl) dX0_init_36 (fun H locs hP hD hS => ?_)
  obtain ⟨f_8, ef_8⟩ : ∃ zz : Nat → va_E, zz = va_up f_7 q (.inr (0, [.int no, .long g, .int dy, .ref q_2, .int 0, .int 0, .int si, .int 0])) := ⟨_, rfl⟩
  have hP : va_P G vwCl (va_pl (L ++ [q_2]) f_8) H := by rw [ef_8]; exact hP
  have hD : va_D (pw_A L s.heap.size) (va_pl (L ++ [q_2]) f_8) := by rw [ef_8]; exact hD
  have hf_8_q : f_8 q = .inr (0, [.int no, .long g, .int dy, .ref q_2, .int 0, .int 0, .int si, .int 0]) := by rw [ef_8]; exact va_up_self _ _ _
  have hf_8_q_2 := (show f_8 q_2 = f_7 q_2 by rw [ef_8]; exact va_up_ne _ _ (pe_ro hf_7_q hf_7_q_2).symm).trans hf_7_q_2
  have hfr : ∀ a, a ∈ L → a ≠ q → f_8 a = f a := by
    intro a ha haq
    rw [ef_8, va_up_ne _ _ haq, ef_7, va_up_ne _ _ haq, ef_6, va_up_ne _ _ haq, ef_5, va_up_ne _ _ haq, ef_4, va_up_ne _ _ haq, ef_3, va_up_ne _ _ haq, ef_1, va_up_ne _ _ (show a ≠ q_2 from fun h => hq_2 (h ▸ ha))]
  have hM : MV cs (L ++ [q_2]) f_8 q q_2 no g dy (fun _ => 0) 0 0 si 0 := ⟨⟨mf_1_q, mf_1_q_2⟩, hf_8_q, hf_8_q_2⟩
  exact pc_retv hx hb hr hlocks hP hD hS dX0_init_39 ⟨q_2, fun h => hq_2 h, fun a ha => List.mem_append_left _ ha, hfr, hM⟩
