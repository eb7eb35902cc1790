/-! The class Paper: contracts. Laid by wip/gen/paper.py. -/
set_option maxHeartbeats 4000000 in
set_option maxRecDepth 100000 in
theorem k_P_clear (l : Launch) (G : va_G) (cs : Nat → ClassId) (L : List Nat) (f : Nat → va_E) (sz : Nat) (q q1 : Nat) (n : Nat) (g : Nat → Int32) (hQ : PP cs L f q q1 n g) : Met l yX2_clear (Cond.code yX2_clear cX2_clear 1 none :: wg) ({ frames := 0, cells := 0, slots := 0, locals := 0 }) (pc_P [.ref q] G vwCl (tyl cs) L f sz (fun _ => True)) (va_Qv (fun u => u = (L, va_up f q (.inr (2, [.ref q1, .int (nI 0)])))) (pc_B G vwCl L sz) (pw_A L sz)) 0 0 (pw_A L sz) := by
  refine Met.ofW (cc := cX2_clear) (maxL := 1) (ret := none) (by decide) rfl ?_
  intro p e s m args below meth c s₁ B hml hv
  obtain ⟨rfl, hsz, hP, hK, hD0, hX⟩ := hv
  have hx := B.exec
  have hb := B.bytes
  have hr := B.returns
  have hts0 := atoms_spec (ws := (Cond.code yX2_clear cX2_clear 1 none :: wg)) B.pre
  have hts := fun (w : Cond) (h : w ∈ wg) => hts0 w (List.mem_cons_of_mem _ h)
  have hown : s.vm.findClass RX2 = some m.cls := findClass_of_methodNamed B.named
  have hlocks := B.notSynchronized
  subst hsz
  have hD := pw_selfD (sz := s.heap.size) hD0
  have hA : ∀ q : Nat, s.heap.size ≤ q → pw_A L s.heap.size q := fun q h => Or.inr h
  have hS : va_S (pw_A L s.heap.size) s.heap s.heap [] := va_S.rf
  have hl := lv_entry ([.ref q]) (n := 1) (Nat.le_of_ble_eq_true rfl)
  rw [lg_entry_eq]
  generalize (lg_sl ([.ref q]) ++ List.replicate (1 - (lg_sl ([.ref q])).length) Slot.unset).toArray = ls at hl ⊢
  have hl : lv_has ls 1 [(0, .ref q)] := hl
  obtain ⟨⟨m0, m1⟩, e0, e1⟩ := id hQ
  refine lv_aload_n hx hb dX2_clear_0 rfl (lv_at hl 0 rfl) ?_
  refine lv_iconst (v := 0) hx hb dX2_clear_1 (by decide) ?_
  refine pw_put (ty := .int) (ci := 2) (v := .int 0) (C := RX2) (T := TX2) (N := 2) hx hb hts inX2 tyX2 tyX2_ok nmX2 hown hK hP hD hS m0 e0 rfl 1 (by decide) (hts _ mw_25) (fun _ h9 => h9) rfl (by decide +kernel) rfl rfl (Nat.le_of_ble_eq_true rfl) dX2_clear_2 (fun H locs hP hD hS => ?_)
  obtain ⟨f_1, ef_1⟩ : ∃ zz : Nat → va_E, zz = va_up f q (.inr (2, [.ref q1, .int 0])) := ⟨_, rfl⟩
  have hP : va_P G vwCl (va_pl L f_1) H := by rw [ef_1]; exact hP
  have hD : va_D (pw_A L s.heap.size) (va_pl L f_1) := by rw [ef_1]; exact hD
  have hf_1_q : f_1 q = .inr (2, [.ref q1, .int 0]) := by rw [ef_1]; exact va_up_self _ _ _
  have hf_1_q1 := (show f_1 q1 = f q1 by rw [ef_1]; exact va_up_ne _ _ (pe_ro e0 e1).symm).trans e1
  exact pc_retv hx hb hr hlocks hP hD hS dX2_clear_5 (by rw [ef_1]; rfl)

def sp_byte (n : Nat) (g : Nat → Int32) (i : Int32) : Int32 := if i < 0 then -1 else if i < nI n then g i.toNatClampNeg else -1

set_option maxHeartbeats 4000000 in
set_option maxRecDepth 100000 in
theorem k_P_byte (l : Launch) (G : va_G) (cs : Nat → ClassId) (L : List Nat) (f : Nat → va_E) (q q1 : Nat) (n : Nat) (g : Nat → Int32) (i : Int32) (hQ : PP cs L f q q1 n g) (h8 : n ≤ 208) : Met l yX2_byteAt (Cond.code yX2_byteAt cX2_byteAt 2 (some FieldType.int) :: wg) ({ frames := 0, cells := 0, slots := 0, locals := 0 }) (pr_P [.ref q, .int i] G vwCl (tyl cs) L f (fun _ => True)) (vp_Si (fun r => r = sp_byte n g i)) 0 0 (fun _ => False) := by
  refine Met.ofW (cc := cX2_byteAt) (maxL := 2) (ret := (some FieldType.int)) (by decide) rfl ?_
  intro p e s m args below meth c s₁ B hml hv
  obtain ⟨rfl, hP, hK, hX⟩ := hv
  have hx := B.exec
  have hb := B.bytes
  have hr := B.returns
  have hts0 := atoms_spec (ws := (Cond.code yX2_byteAt cX2_byteAt 2 (some FieldType.int) :: wg)) B.pre
  have hts := fun (w : Cond) (h : w ∈ wg) => hts0 w (List.mem_cons_of_mem _ h)
  have hown : s.vm.findClass RX2 = some m.cls := findClass_of_methodNamed B.named
  have hlocks := B.notSynchronized
  have hl := lv_entry ([.ref q, .int i]) (n := 2) (Nat.le_of_ble_eq_true rfl)
  rw [lg_entry_eq]
  generalize (lg_sl ([.ref q, .int i]) ++ List.replicate (2 - (lg_sl ([.ref q, .int i])).length) Slot.unset).toArray = ls at hl ⊢
  have hl : lv_has ls 2 [(0, .ref q), (1, .int i)] := hl
  obtain ⟨⟨m0, m1⟩, e0, e1⟩ := id hQ
  refine lv_iload_n hx hb dX2_byteAt_0 rfl (lv_at hl 1 rfl) ?_
  refine lv_if_lt (tgt := 12) hx hb dX2_byteAt_1 (by decide) (fun c_1 => ?_) (fun c_1 => ?_)
  · refine lv_iconst (v := (-1)) hx hb dX2_byteAt_12 (by decide) ?_
    refine lv_goto (tgt := 22) hx hb dX2_byteAt_13 (by decide) ?_
    exact pr_reti hx hb hr hlocks dX2_byteAt_22 (by simp [sp_byte, c_1])
  · refine lv_iload_n hx hb dX2_byteAt_4 rfl (lv_at hl 1 rfl) ?_
    refine lv_aload_n hx hb dX2_byteAt_5 rfl (lv_at hl 0 rfl) ?_
    refine pw_get (ci := 2) (C := RX2) (T := TX2) (N := 2) hx hb hts inX2 hown hK hP m0 e0 rfl 1 (by decide) (hts _ mw_25) (fun _ h9 => h9) rfl dX2_byteAt_6 ?_
    refine lv_icmp_lt (tgt := 16) hx hb dX2_byteAt_9 (by decide) (fun c_9 => ?_) (fun c_9 => ?_)
    · refine lv_aload_n hx hb dX2_byteAt_16 rfl (lv_at hl 0 rfl) ?_
      refine pw_get (ci := 2) (C := RX2) (T := TX2) (N := 2) hx hb hts inX2 hown hK hP m0 e0 rfl 0 (by decide) (hts _ mw_24) (fun _ h9 => h9) rfl dX2_byteAt_17 ?_
      refine lv_iload_n hx hb dX2_byteAt_20 rfl (lv_at hl 1 rfl) ?_
      refine pw_bald hx hb hK hP m1 1 e1 rfl (vi_in (n := 208) (by decide) c_1 (fun h => Int32.lt_irrefl (Int32.lt_of_lt_of_le c_9 (Int32.le_trans (nI_le h8 (by decide)) h)))) dX2_byteAt_21 ?_
      exact pr_reti hx hb hr hlocks dX2_byteAt_22 (by simp [sp_byte, c_1, c_9])
    · refine lv_iconst (v := (-1)) hx hb dX2_byteAt_12 (by decide) ?_
      refine lv_goto (tgt := 22) hx hb dX2_byteAt_13 (by decide) ?_
      exact pr_reti hx hb hr hlocks dX2_byteAt_22 (by simp [sp_byte, c_1, c_9])

set_option maxHeartbeats 4000000 in
set_option maxRecDepth 100000 in
theorem k_P_add (l : Launch) (G : va_G) (cs : Nat → ClassId) (L : List Nat) (f : Nat → va_E) (sz : Nat) (q q1 : Nat) (n : Nat) (g : Nat → Int32) (x : Int32) (hQ : PP cs L f q q1 n g) (h8 : n ≤ 208) : Met l yX2_add (Cond.code yX2_add cX2_add 2 none :: wg) ({ frames := 0, cells := 0, slots := 0, locals := 0 }) (pc_P [.ref q, .int x] G vwCl (tyl cs) L f sz (fun _ => True)) (va_Qv (fun u => u = (L, pp_f cs f q q1 (sp_add (n, g) x))) (pc_B G vwCl L sz) (pw_A L sz)) 0 0 (pw_A L sz) := by
  refine Met.ofW (cc := cX2_add) (maxL := 2) (ret := none) (by decide) rfl ?_
  intro p e s m args below meth c s₁ B hml hv
  obtain ⟨rfl, hsz, hP, hK, hD0, hX⟩ := hv
  have hx := B.exec
  have hb := B.bytes
  have hr := B.returns
  have hts0 := atoms_spec (ws := (Cond.code yX2_add cX2_add 2 none :: wg)) B.pre
  have hts := fun (w : Cond) (h : w ∈ wg) => hts0 w (List.mem_cons_of_mem _ h)
  have hown : s.vm.findClass RX2 = some m.cls := findClass_of_methodNamed B.named
  have hlocks := B.notSynchronized
  subst hsz
  have hD := pw_selfD (sz := s.heap.size) hD0
  have hA : ∀ q : Nat, s.heap.size ≤ q → pw_A L s.heap.size q := fun q h => Or.inr h
  have hS : va_S (pw_A L s.heap.size) s.heap s.heap [] := va_S.rf
  have hl := lv_entry ([.ref q, .int x]) (n := 2) (Nat.le_of_ble_eq_true rfl)
  rw [lg_entry_eq]
  generalize (lg_sl ([.ref q, .int x]) ++ List.replicate (2 - (lg_sl ([.ref q, .int x])).length) Slot.unset).toArray = ls at hl ⊢
  have hl : lv_has ls 2 [(0, .ref q), (1, .int x)] := hl
  obtain ⟨⟨m0, m1⟩, e0, e1⟩ := id hQ
  refine lv_aload_n hx hb dX2_add_0 rfl (lv_at hl 0 rfl) ?_
  refine pw_get (ci := 2) (C := RX2) (T := TX2) (N := 2) hx hb hts inX2 hown hK hP m0 e0 rfl 1 (by decide) (hts _ mw_25) (fun _ h9 => h9) rfl dX2_add_1 ?_
  refine lv_sipush (v := 208) hx hb dX2_add_4 (by decide) ?_
  refine lv_icmp_ge (tgt := 31) hx hb dX2_add_7 (by decide) (fun c_7 => ?_) (fun c_7 => ?_)
  · have c_7 : 208 ≤ n := nI_of_le (b := 208) c_7 (by decide)
    exact pc_retv hx hb hr hlocks hP hD hS dX2_add_31 (by rw [show sp_add (n, g) x = (n, g) from if_neg (Nat.not_lt.mpr c_7), pp_self hQ])
  · have hn8 : n < 208 := nI_of_ge (b := 208) c_7 (by omega)
    refine lv_aload_n hx hb dX2_add_10 rfl (lv_at hl 0 rfl) ?_
    refine pw_get (ci := 2) (C := RX2) (T := TX2) (N := 2) hx hb hts inX2 hown hK hP m0 e0 rfl 0 (by decide) (hts _ mw_24) (fun _ h9 => h9) rfl dX2_add_11 ?_
    refine lv_aload_n hx hb dX2_add_14 rfl (lv_at hl 0 rfl) ?_
    refine pw_get (ci := 2) (C := RX2) (T := TX2) (N := 2) hx hb hts inX2 hown hK hP m0 e0 rfl 1 (by decide) (hts _ mw_25) (fun _ h9 => h9) rfl dX2_add_15 ?_
    refine lv_iload_n hx hb dX2_add_18 rfl (lv_at hl 1 rfl) ?_
    refine lv_i2b hx hb dX2_add_19 rfl ?_
    refine pw_bastN (k := n) hx hb hK hP hD hS m1 1 e1 rfl hn8 (by decide) dX2_add_20 (fun H locs hP hD hS => ?_)
    obtain ⟨f_1, ef_1⟩ : ∃ zz : Nat → va_E, zz = va_up f q1 (.inl (cs 1, 208, .inl (upd g n (vp_nar .byte x.toInt8.toInt32)))) := ⟨_, rfl⟩
    have hP : va_P G vwCl (va_pl L f_1) H := by rw [ef_1]; exact hP
    have hD : va_D (pw_A L s.heap.size) (va_pl L f_1) := by rw [ef_1]; exact hD
    have hf_1_q := (show f_1 q = f q by rw [ef_1]; exact va_up_ne _ _ (pe_ro e0 e1)).trans e0
    have hf_1_q1 : f_1 q1 = .inl (cs 1, 208, .inl (upd g n (vp_nar .byte x.toInt8.toInt32))) := by rw [ef_1]; exact va_up_self _ _ _
    refine lv_aload_n hx hb dX2_add_21 rfl (lv_at hl 0 rfl) ?_
    refine lv_dup hx hb dX2_add_22 rfl ?_
    refine pw_get (ci := 2) (C := RX2) (T := TX2) (N := 2) hx hb hts inX2 hown hK hP m0 hf_1_q rfl 1 (by decide) (hts _ mw_25) (fun _ h9 => h9) rfl dX2_add_23 ?_
    refine lv_iconst (v := 1) hx hb dX2_add_26 (by decide) ?_
    refine lv_iadd hx hb dX2_add_27 ?_
    rw [nI_1]
    refine pw_put (ty := .int) (ci := 2) (v := .int (nI (n + 1))) (C := RX2) (T := TX2) (N := 2) hx hb hts inX2 tyX2 tyX2_ok nmX2 hown hK hP hD hS m0 hf_1_q rfl 1 (by decide) (hts _ mw_25) (fun _ h9 => h9) rfl (by decide +kernel) rfl rfl (Nat.le_of_ble_eq_true rfl) dX2_add_28 (fun H locs hP hD hS => ?_)
    obtain ⟨f_2, ef_2⟩ : ∃ zz : Nat → va_E, zz = va_up f_1 q (.inr (2, [.ref q1, .int (nI (n + 1))])) := ⟨_, rfl⟩
    have hP : va_P G vwCl (va_pl L f_2) H := by rw [ef_2]; exact hP
    have hD : va_D (pw_A L s.heap.size) (va_pl L f_2) := by rw [ef_2]; exact hD
    have hf_2_q : f_2 q = .inr (2, [.ref q1, .int (nI (n + 1))]) := by rw [ef_2]; exact va_up_self _ _ _
    have hf_2_q1 := (show f_2 q1 = f_1 q1 by rw [ef_2]; exact va_up_ne _ _ (pe_ro hf_1_q hf_1_q1).symm).trans hf_1_q1
    exact pc_retv hx hb hr hlocks hP hD hS dX2_add_31 (by rw [show sp_add (n, g) x = (n + 1, upd g n x.toInt8.toInt32) from if_pos hn8, ef_2, ef_1, pk_vb]; rfl)

set_option maxHeartbeats 4000000 in
set_option maxRecDepth 100000 in
theorem k_P_init (l : Launch) (G : va_G) (cs : Nat → ClassId) (L : List Nat) (f : Nat → va_E) (sz : Nat) (q : Nat) (hq0 : q ∈ L) (he0 : f q = .inr (2, [.null, .int 0])) : Met l yX2_init (Cond.code yX2_init cX2_init 1 none :: wg) ({ frames := 1, cells := 1, slots := 208, locals := 12 }) (pc_P [.ref q] G vwCl (tyl cs) L f sz (fun _ => True)) (va_Qv (fun u => ∃ q1, q1 ∉ L ∧ (∀ a ∈ L, a ∈ u.1) ∧ (∀ a, a ∈ L → a ≠ q → u.2 a = f a) ∧ PP cs u.1 u.2 q q1 0 (fun _ => 0)) (pc_B G vwCl L sz) (pw_A L sz)) 1 208 (pw_A L sz) := by
  refine Met.ofW (cc := cX2_init) (maxL := 1) (ret := none) (by decide) rfl ?_
  intro p e s m args below meth c s₁ B hml hv
  obtain ⟨rfl, hsz, hP, hK, hD0, hX⟩ := hv
  have hx := B.exec
  have hb := B.bytes
  have hr := B.returns
  have hts0 := atoms_spec (ws := (Cond.code yX2_init cX2_init 1 none :: wg)) B.pre
  have hts := fun (w : Cond) (h : w ∈ wg) => hts0 w (List.mem_cons_of_mem _ h)
  have hown : s.vm.findClass RX2 = some m.cls := findClass_of_methodNamed B.named
  have hlocks := B.notSynchronized
  have hin : meth.name = "<init>" := (name_of_methodNamed B.named B.method).1
  subst hsz
  have hD := pw_selfD (sz := s.heap.size) hD0
  have hA : ∀ q : Nat, s.heap.size ≤ q → pw_A L s.heap.size q := fun q h => Or.inr h
  have hS : va_S (pw_A L s.heap.size) s.heap s.heap [] := va_S.rf
  have hl := lv_entry ([.ref q]) (n := 1) (Nat.le_of_ble_eq_true rfl)
  rw [lg_entry_eq]
  generalize (lg_sl ([.ref q]) ++ List.replicate (1 - (lg_sl ([.ref q])).length) Slot.unset).toArray = ls at hl ⊢
  have hl : lv_has ls 1 [(0, .ref q)] := hl
  refine lv_aload_n hx hb dX2_init_0 rfl (lv_at hl 0 rfl) ?_
  refine W.objInit hx hb hown (hts _ mw_23) (hts _ mw_12) (hts _ mw_obj) rfl (by rw [hml]; exact hl.1) rfl dX2_init_1 (Nat.le_of_ble_eq_true rfl) (Nat.le_of_ble_eq_true rfl) ?_
  refine W.eq (g2 := F0 m 4 ls []) rfl ?_
  refine lv_aload_n hx hb dX2_init_4 rfl (lv_at hl 0 rfl) ?_
  refine lv_sipush (v := 208) hx hb dX2_init_5 (by decide) ?_
  refine pw_newa (atype := .byte) (ty := .byte) (a0 := (208, .inl (fun _ => 0))) hx hb (hts _ mw_32) rfl hK hP hD hS hA 1 rfl (fun _ h => h) (fun _ => rfl) (by decide) (by decide) (by decide) (Nat.le_of_ble_eq_true rfl) (Nat.le_of_ble_eq_true rfl) dX2_init_8 (fun q_2 H hq_2 hP hD hS => ?_)
  refine W.widen (k := 1) (n := 208) (Nat.le_refl _) (Nat.le_of_ble_eq_true rfl) ?_
  obtain ⟨f_1, ef_1⟩ : ∃ zz : Nat → va_E, zz = va_up f q_2 (.inl (cs 1, 208, .inl (fun _ => 0))) := ⟨_, rfl⟩
  have hP : va_P G vwCl (va_pl (L ++ [q_2]) f_1) H := by rw [ef_1]; exact hP
  have hD : va_D (pw_A L s.heap.size) (va_pl (L ++ [q_2]) f_1) := by rw [ef_1]; exact hD
  have mf_1_q : q ∈ (L ++ [q_2]) := List.mem_append_left _ hq0
  have hf_1_q := (show f_1 q = f q by rw [ef_1]; exact va_up_ne _ _ (fun h => hq_2 (h ▸ hq0))).trans he0
  have mf_1_q_2 : q_2 ∈ (L ++ [q_2]) := List.mem_append_right _ (List.mem_singleton.mpr rfl)
  have hf_1_q_2 : f_1 q_2 = .inl (cs 1, 208, .inl (fun _ => 0)) := by rw [ef_1]; exact va_up_self _ _ _
  refine pw_putF (ty := .array .byte) (ci := 2) (v := .ref q_2) (C := RX2) (T := TX2) (N := 2) hx hb hts inX2 tyX2 tyX2_ok nmX2 hown hK hP hD hS mf_1_q hf_1_q rfl 0 (by decide) (hts _ mw_24) (fun _ h9 => h9) rfl hin rfl (by decide +kernel) rfl rfl (Nat.le_of_ble_eq_true rfl) dX2_init_10 (fun H locs hP hD hS => ?_)
  obtain ⟨f_3, ef_3⟩ : ∃ zz : Nat → va_E, zz = va_up f_1 q (.inr (2, [.ref q_2, .int 0])) := ⟨_, rfl⟩
  have hP : va_P G vwCl (va_pl (L ++ [q_2]) f_3) H := by rw [ef_3]; exact hP
  have hD : va_D (pw_A L s.heap.size) (va_pl (L ++ [q_2]) f_3) := by rw [ef_3]; exact hD
  have hf_3_q : f_3 q = .inr (2, [.ref q_2, .int 0]) := by rw [ef_3]; exact va_up_self _ _ _
  have hf_3_q_2 := (show f_3 q_2 = f_1 q_2 by rw [ef_3]; exact va_up_ne _ _ (pe_ro hf_1_q hf_1_q_2).symm).trans hf_1_q_2
  have hfr : ∀ a, a ∈ L → a ≠ q → f_3 a = f a := by
    intro a ha haq
    rw [ef_3, va_up_ne _ _ haq, ef_1, va_up_ne _ _ (show a ≠ q_2 from fun h => hq_2 (h ▸ ha))]
  have hQ : PP cs (L ++ [q_2]) f_3 q q_2 0 (fun _ => 0) := ⟨⟨mf_1_q, mf_1_q_2⟩, hf_3_q, hf_3_q_2⟩
  exact pc_retv hx hb hr hlocks hP hD hS dX2_init_13 ⟨q_2, fun h => hq_2 h, fun a ha => List.mem_append_left _ ha, hfr, hQ⟩

def sp_un : Nat → Nat
  | 0 => 0
  | k + 1 => 10 ^ k
theorem sp_pow_lt {j : Nat} (h : j ≤ 9) : 10 ^ j < 2 ^ 63 := Nat.lt_of_le_of_lt (Nat.pow_le_pow_right (by decide) h) (by decide)
theorem sp_pow_pos (j : Nat) : 0 < 10 ^ j := Nat.pow_pos (by decide)
theorem sp_ne0 {j : Nat} (h : j ≤ 9) : ¬ lN (10 ^ j) = 0 := fun e => by
  have := (pk_lEQ (sp_pow_lt h) (show 0 < 2 ^ 63 by decide)).mp e
  exact absurd this (Nat.ne_of_gt (sp_pow_pos j))
theorem sp_digit {v j : Nat} (hv : v < 2 ^ 63) (h : j ≤ 9) : lN v / lN (10 ^ j) - lN v / lN (10 ^ j) / 10 * 10 = lN (v / 10 ^ j % 10) := by
  rw [pk_lDiv hv (sp_pow_pos j) (sp_pow_lt h)]
  exact pk_lRem (Nat.lt_of_le_of_lt (Nat.div_le_self _ _) hv) (by decide) (by decide)
theorem sp_unit {j : Nat} (h : j ≤ 9) : lN (10 ^ j) / 10 = lN (sp_un j) := by
  rw [show (10 : Int64) = lN 10 from rfl, pk_lDiv (sp_pow_lt h) (by decide) (by decide)]
  cases j with
  | zero => rfl
  | succ i => rw [Nat.pow_succ, Nat.mul_div_cancel _ (by decide)]; rfl
theorem sp_char {d : Nat} (h : d < 10) : (((48 : Int64) + lN d).toInt32.toUInt32 % 65536).toInt32 = nI (48 + d) := by
  rw [show (48 : Int64) = lN 48 from rfl, lN_add, lN_i]
  match d, h with
  | 0, _ => rfl
  | 1, _ => rfl
  | 2, _ => rfl
  | 3, _ => rfl
  | 4, _ => rfl
  | 5, _ => rfl
  | 6, _ => rfl
  | 7, _ => rfl
  | 8, _ => rfl
  | 9, _ => rfl
theorem sp_lz {n : Nat} (h : n < 2 ^ 63) : lN n = 0 ↔ n = 0 := pk_lEQ (b := 0) h (by decide)
theorem sp_l1 {n : Nat} (h : n < 2 ^ 63) : lN n = 1 ↔ n = 1 := pk_lEQ (b := 1) h (by decide)
theorem sp_dlt (v j : Nat) : v / 10 ^ j % 10 < 10 := Nat.mod_lt _ (by decide)

theorem sp_j0 {j : Nat} (h : 10 ^ j = 1) : j = 0 := by
  cases j with
  | zero => rfl
  | succ i =>
    rw [Nat.pow_succ] at h
    have := sp_pow_pos i
    omega

set_option maxHeartbeats 4000000 in
set_option maxRecDepth 100000 in
theorem k_P_num (l : Launch) (G : va_G) (cs : Nat → ClassId) (L : List Nat) (f : Nat → va_E) (sz : Nat) (q q1 : Nat) (n : Nat) (g : Nat → Int32) (v : Nat) (hQ : PP cs L f q q1 n g) (h8 : n ≤ 208) (hv : v < 2 ^ 63) : Met l yX2_addNumber (Cond.code yX2_addNumber cX2_addNumber 8 none :: wg) ({ frames := 1, cells := 0, slots := 0, locals := 21 }) (pc_P [.ref q, .long (lN v)] G vwCl (tyl cs) L f sz (fun _ => True)) (va_Qv (fun u => u = (L, pp_f cs f q q1 (sp_dig v 10 false (n, g)))) (pc_B G vwCl L sz) (pw_A L sz)) 0 0 (pw_A L sz) := by
  refine Met.ofW (cc := cX2_addNumber) (maxL := 8) (ret := none) (by decide) rfl ?_
  intro p e s m args below meth c s₁ B hml hv
  obtain ⟨rfl, hsz, hP, hK, hD0, hX⟩ := hv
  have hx := B.exec
  have hb := B.bytes
  have hr := B.returns
  have hts0 := atoms_spec (ws := (Cond.code yX2_addNumber cX2_addNumber 8 none :: wg)) B.pre
  have hts := fun (w : Cond) (h : w ∈ wg) => hts0 w (List.mem_cons_of_mem _ h)
  have hown : s.vm.findClass RX2 = some m.cls := findClass_of_methodNamed B.named
  have hlocks := B.notSynchronized
  subst hsz
  have hD := pw_selfD (sz := s.heap.size) hD0
  have hA : ∀ q : Nat, s.heap.size ≤ q → pw_A L s.heap.size q := fun q h => Or.inr h
  have hS : va_S (pw_A L s.heap.size) s.heap s.heap [] := va_S.rf
  have hl := lv_entry ([.ref q, .long (lN v)]) (n := 8) (Nat.le_of_ble_eq_true rfl)
  rw [lg_entry_eq]
  generalize (lg_sl ([.ref q, .long (lN v)]) ++ List.replicate (8 - (lg_sl ([.ref q, .long (lN v)])).length) Slot.unset).toArray = ls at hl ⊢
  have hl : lv_has ls 8 [(0, .ref q), (1, .long (lN v))] := hl
  obtain ⟨⟨m0, m1⟩, e0, e1⟩ := id hQ
  refine lv_iconst (v := 0) hx hb dX2_addNumber_0 (by decide) ?_
  refine lv_istore_n (lv' := [(3, .int 0), (0, .ref q), (1, .long (lN v))]) hx hb dX2_addNumber_1 rfl hl (by decide) rfl (fun ls hl => ?_)
  refine lv_ldc2 hx hb hown (hts _ mw_299) dX2_addNumber_2 ?_
  refine lv_lstore (lv' := [(4, .long 1000000000), (3, .int 0), (0, .ref q), (1, .long (lN v))]) hx hb dX2_addNumber_5 hl (by decide) rfl (fun ls hl => ?_)
  have hu : (1000000000 : Int64) = lN (sp_un 10) := rfl
  rw [hu] at hl
  have hne : q ≠ q1 := pe_ro e0 e1
  have hse := pp_self hQ
  refine pc_loop (σ := Nat × Bool × sp_P) (nL := 8) (fun x => x.1) (fun x => x.1 ≤ 10 ∧ x.2.2.1 ≤ 208 ∧ sp_dig v x.1 x.2.1 x.2.2 = sp_dig v 10 false (n, g)) (fun x => (L, pp_f cs f q q1 x.2.2)) (fun x => [(4, .long (lN (sp_un x.1))), (3, .int (if x.2.1 = true then 1 else 0)), (0, .ref q), (1, .long (lN v))]) ?_ (10, false, (n, g)) ⟨Nat.le_refl _, h8, rfl⟩ (by rw [hse]; exact hP) (by rw [hse]; exact hD) hS ls (lv_sub hl [0, 1, 2, 3] rfl)
  rintro ⟨k, b, pg⟩ ⟨hI1, hI2, hI3⟩ ih H locs ls hP hD hS hl
  have hP : va_P G vwCl (va_pl L (pp_f cs f q q1 pg)) H := hP
  have hD : va_D (pw_A L s.heap.size) (va_pl L (pp_f cs f q q1 pg)) := hD
  have hI1 : k ≤ 10 := hI1
  have hI2 : pg.1 ≤ 208 := hI2
  have hI3 : sp_dig v k b pg = sp_dig v 10 false (n, g) := hI3
  have hQk := pp_PP (cs := cs) (f := f) m0 m1 hne pg
  match k, b, hI1, hI3, hl, ih with
  | 0, b, hI1, hI3, hl, ih =>
    have hl : lv_has ls 8 [(4, .long (lN 0)), (3, .int (if b = true then 1 else 0)), (0, .ref q), (1, .long (lN v))] := hl
    replace ih := True.intro
    refine lv_lload hx hb dX2_addNumber_7 (lv_at hl 0 rfl) ?_
    refine lv_lconst (v := 1) hx hb dX2_addNumber_9 (by decide) ?_
    refine W.lcmp hx hb dX2_addNumber_10 ?_
    refine lv_if_lt (tgt := 75) hx hb dX2_addNumber_11 (by decide) (fun c_11 => ?_) (fun c_11 => ?_)
    · have c_11 := (lg_cmp_lt _ _).mp c_11
      exact pc_retv hx hb hr hlocks hP hD hS dX2_addNumber_75 (by rw [← hI3]; rfl)
    · have c_11 := fun h => c_11 ((lg_cmp_lt _ _).mpr h)
      exact absurd (show lN 0 < 1 by decide) c_11
  | j + 1, true, hI1, hI3, hl, ih =>
    have hl : lv_has ls 8 [(4, .long (lN (10 ^ j))), (3, .int 1), (0, .ref q), (1, .long (lN v))] := hl
    have hj : j ≤ 9 := by omega
    refine lv_lload hx hb dX2_addNumber_7 (lv_at hl 0 rfl) ?_
    refine lv_lconst (v := 1) hx hb dX2_addNumber_9 (by decide) ?_
    refine W.lcmp hx hb dX2_addNumber_10 ?_
    refine lv_if_lt (tgt := 75) hx hb dX2_addNumber_11 (by decide) (fun c_11 => ?_) (fun c_11 => ?_)
    · have c_11 := (lg_cmp_lt _ _).mp c_11
      exact absurd (show lN 1 ≤ lN (10 ^ j) from (pk_lLE (by decide) (sp_pow_lt hj)).mpr (sp_pow_pos j)) (Int64.not_le.mpr c_11)
    · have c_11 := fun h => c_11 ((lg_cmp_lt _ _).mpr h)
      refine lv_lload_n hx hb dX2_addNumber_14 rfl (lv_at hl 3 rfl) ?_
      refine lv_lload hx hb dX2_addNumber_15 (lv_at hl 0 rfl) ?_
      refine lv_ldiv hx hb dX2_addNumber_17 (sp_ne0 hj) ?_
      refine lv_ldc2 hx hb hown (hts _ mw_300) dX2_addNumber_18 ?_
      refine lv_lrem hx hb dX2_addNumber_21 (by decide) ?_
      rw [sp_digit hv hj]
      refine lv_lstore (lv' := [(6, .long (lN (v / 10 ^ j % 10))), (4, .long (lN (10 ^ j))), (3, .int 1), (0, .ref q), (1, .long (lN v))]) hx hb dX2_addNumber_22 hl (by decide) rfl (fun ls hl => ?_)
      refine lv_iload_n hx hb dX2_addNumber_24 rfl (lv_at hl 2 rfl) ?_
      refine lv_if_ne (tgt := 42) hx hb dX2_addNumber_25 (by decide) (fun c_25 => ?_) (fun c_25 => ?_)
      · refine lv_iconst (v := 1) hx hb dX2_addNumber_42 (by decide) ?_
        refine lv_goto (tgt := 47) hx hb dX2_addNumber_43 (by decide) ?_
        refine lv_istore_n (lv' := [(3, .int 1), (6, .long (lN (v / 10 ^ j % 10))), (4, .long (lN (10 ^ j))), (0, .ref q), (1, .long (lN v))]) hx hb dX2_addNumber_47 rfl hl (by decide) rfl (fun ls hl => ?_)
        refine lv_iload_n hx hb dX2_addNumber_48 rfl (lv_at hl 0 rfl) ?_
        refine lv_if_eq (tgt := 64) hx hb dX2_addNumber_49 (by decide) (fun c_49 => ?_) (fun c_49 => ?_)
        · exact absurd c_49 (by decide)
        · refine lv_aload_n hx hb dX2_addNumber_52 rfl (lv_at hl 3 rfl) ?_
          refine lv_ldc2 hx hb hown (hts _ mw_301) dX2_addNumber_53 ?_
          refine lv_lload hx hb dX2_addNumber_56 (lv_at hl 1 rfl) ?_
          refine lv_ladd hx hb dX2_addNumber_58 ?_
          refine lv_l2i hx hb dX2_addNumber_59 rfl ?_
          refine lv_i2c hx hb dX2_addNumber_60 rfl ?_
          rw [sp_char (sp_dlt v j)]
          refine pc_callVv (As := [.int (nI (48 + v / 10 ^ j % 10))]) (rest := []) ⟨hx, hb, hml, hown, hts⟩ (k_P_add l G cs L (pp_f cs f q q1 pg) _ q q1 pg.1 pg.2 (nI (48 + v / 10 ^ j % 10)) hQk hI2) (cwV 1 hts (wg_V mw_302 mw_303 mw_304 mw_2 mw_305) rfl rfl rfl (by decide +kernel) ⟨Nat.le_of_ble_eq_true rfl, Nat.le_of_ble_eq_true rfl⟩) hK hP hD hS hA m0 hQk.2.1 rfl px_T (fun _ _ _ => trivial) rfl hl.1 rfl (lv_room (Nat.le_of_ble_eq_true rfl)) dX2_addNumber_61 ⟨Nat.le_of_ble_eq_true rfl, Nat.le_of_ble_eq_true rfl⟩ (fun L1 f1 H locs hr_1 hP hD hS => ?_)
          obtain ⟨rfl, rfl⟩ := Prod.mk.inj hr_1
          rw [pp_pp hne] at hP hD
          refine lv_lload hx hb dX2_addNumber_64 (lv_at hl 2 rfl) ?_
          refine lv_ldc2 hx hb hown (hts _ mw_300) dX2_addNumber_66 ?_
          refine lv_ldiv hx hb dX2_addNumber_69 (by decide) ?_
          rw [sp_unit hj]
          refine lv_lstore (lv' := [(4, .long (lN (sp_un j))), (3, .int 1), (6, .long (lN (v / 10 ^ j % 10))), (0, .ref q), (1, .long (lN v))]) hx hb dX2_addNumber_70 hl (by decide) rfl (fun ls hl => ?_)
          refine lv_goto (tgt := 7) hx hb dX2_addNumber_72 (by decide) ?_
          refine ih (j, true, sp_add pg (nI (48 + v / 10 ^ j % 10))) ⟨(by omega : j ≤ 10), sp_add_le _ _ hI2, ?_⟩ (by show j < j + 1; omega) _ _ ls hP hD hS (lv_sub hl [0, 1, 3, 4] rfl)
          rw [← hI3]
          exact (if_pos (Or.inl rfl)).symm
      · exact absurd c_25 (by decide)
  | j + 1, false, hI1, hI3, hl, ih =>
    have hl : lv_has ls 8 [(4, .long (lN (10 ^ j))), (3, .int 0), (0, .ref q), (1, .long (lN v))] := hl
    have hj : j ≤ 9 := by omega
    refine lv_lload hx hb dX2_addNumber_7 (lv_at hl 0 rfl) ?_
    refine lv_lconst (v := 1) hx hb dX2_addNumber_9 (by decide) ?_
    refine W.lcmp hx hb dX2_addNumber_10 ?_
    refine lv_if_lt (tgt := 75) hx hb dX2_addNumber_11 (by decide) (fun c_11 => ?_) (fun c_11 => ?_)
    · have c_11 := (lg_cmp_lt _ _).mp c_11
      exact absurd (show lN 1 ≤ lN (10 ^ j) from (pk_lLE (by decide) (sp_pow_lt hj)).mpr (sp_pow_pos j)) (Int64.not_le.mpr c_11)
    · have c_11 := fun h => c_11 ((lg_cmp_lt _ _).mpr h)
      refine lv_lload_n hx hb dX2_addNumber_14 rfl (lv_at hl 3 rfl) ?_
      refine lv_lload hx hb dX2_addNumber_15 (lv_at hl 0 rfl) ?_
      refine lv_ldiv hx hb dX2_addNumber_17 (sp_ne0 hj) ?_
      refine lv_ldc2 hx hb hown (hts _ mw_300) dX2_addNumber_18 ?_
      refine lv_lrem hx hb dX2_addNumber_21 (by decide) ?_
      rw [sp_digit hv hj]
      refine lv_lstore (lv' := [(6, .long (lN (v / 10 ^ j % 10))), (4, .long (lN (10 ^ j))), (3, .int 0), (0, .ref q), (1, .long (lN v))]) hx hb dX2_addNumber_22 hl (by decide) rfl (fun ls hl => ?_)
      refine lv_iload_n hx hb dX2_addNumber_24 rfl (lv_at hl 2 rfl) ?_
      refine lv_if_ne (tgt := 42) hx hb dX2_addNumber_25 (by decide) (fun c_25 => ?_) (fun c_25 => ?_)
      · exact absurd rfl c_25
      · refine lv_lload hx hb dX2_addNumber_28 (lv_at hl 0 rfl) ?_
        refine lv_lconst (v := 0) hx hb dX2_addNumber_30 (by decide) ?_
        refine W.lcmp hx hb dX2_addNumber_31 ?_
        refine lv_if_ne (tgt := 42) hx hb dX2_addNumber_32 (by decide) (fun c_32 => ?_) (fun c_32 => ?_)
        · have c_32 := fun h => c_32 ((lg_cmp_eq _ _).mpr h)
          have hd0 : ¬ v / 10 ^ j % 10 = 0 := fun h => c_32 ((sp_lz (Nat.lt_trans (sp_dlt v j) (by decide))).mpr h)
          refine lv_iconst (v := 1) hx hb dX2_addNumber_42 (by decide) ?_
          refine lv_goto (tgt := 47) hx hb dX2_addNumber_43 (by decide) ?_
          refine lv_istore_n (lv' := [(3, .int 1), (6, .long (lN (v / 10 ^ j % 10))), (4, .long (lN (10 ^ j))), (0, .ref q), (1, .long (lN v))]) hx hb dX2_addNumber_47 rfl hl (by decide) rfl (fun ls hl => ?_)
          refine lv_iload_n hx hb dX2_addNumber_48 rfl (lv_at hl 0 rfl) ?_
          refine lv_if_eq (tgt := 64) hx hb dX2_addNumber_49 (by decide) (fun c_49 => ?_) (fun c_49 => ?_)
          · exact absurd c_49 (by decide)
          · refine lv_aload_n hx hb dX2_addNumber_52 rfl (lv_at hl 3 rfl) ?_
            refine lv_ldc2 hx hb hown (hts _ mw_301) dX2_addNumber_53 ?_
            refine lv_lload hx hb dX2_addNumber_56 (lv_at hl 1 rfl) ?_
            refine lv_ladd hx hb dX2_addNumber_58 ?_
            refine lv_l2i hx hb dX2_addNumber_59 rfl ?_
            refine lv_i2c hx hb dX2_addNumber_60 rfl ?_
            rw [sp_char (sp_dlt v j)]
            refine pc_callVv (As := [.int (nI (48 + v / 10 ^ j % 10))]) (rest := []) ⟨hx, hb, hml, hown, hts⟩ (k_P_add l G cs L (pp_f cs f q q1 pg) _ q q1 pg.1 pg.2 (nI (48 + v / 10 ^ j % 10)) hQk hI2) (cwV 1 hts (wg_V mw_302 mw_303 mw_304 mw_2 mw_305) rfl rfl rfl (by decide +kernel) ⟨Nat.le_of_ble_eq_true rfl, Nat.le_of_ble_eq_true rfl⟩) hK hP hD hS hA m0 hQk.2.1 rfl px_T (fun _ _ _ => trivial) rfl hl.1 rfl (lv_room (Nat.le_of_ble_eq_true rfl)) dX2_addNumber_61 ⟨Nat.le_of_ble_eq_true rfl, Nat.le_of_ble_eq_true rfl⟩ (fun L1 f1 H locs hr_2 hP hD hS => ?_)
            obtain ⟨rfl, rfl⟩ := Prod.mk.inj hr_2
            rw [pp_pp hne] at hP hD
            refine lv_lload hx hb dX2_addNumber_64 (lv_at hl 2 rfl) ?_
            refine lv_ldc2 hx hb hown (hts _ mw_300) dX2_addNumber_66 ?_
            refine lv_ldiv hx hb dX2_addNumber_69 (by decide) ?_
            rw [sp_unit hj]
            refine lv_lstore (lv' := [(4, .long (lN (sp_un j))), (3, .int 1), (6, .long (lN (v / 10 ^ j % 10))), (0, .ref q), (1, .long (lN v))]) hx hb dX2_addNumber_70 hl (by decide) rfl (fun ls hl => ?_)
            refine lv_goto (tgt := 7) hx hb dX2_addNumber_72 (by decide) ?_
            refine ih (j, true, sp_add pg (nI (48 + v / 10 ^ j % 10))) ⟨(by omega : j ≤ 10), sp_add_le _ _ hI2, ?_⟩ (by show j < j + 1; omega) _ _ ls hP hD hS (lv_sub hl [0, 1, 3, 4] rfl)
            rw [← hI3]
            exact (if_pos (Or.inr (Or.inl hd0))).symm
        · have c_32 := (lg_cmp_eq _ _).mp c_32
          have hd0 : v / 10 ^ j % 10 = 0 := (sp_lz (Nat.lt_trans (sp_dlt v j) (by decide))).mp c_32
          refine lv_lload hx hb dX2_addNumber_35 (lv_at hl 1 rfl) ?_
          refine lv_lconst (v := 1) hx hb dX2_addNumber_37 (by decide) ?_
          refine W.lcmp hx hb dX2_addNumber_38 ?_
          refine lv_if_ne (tgt := 46) hx hb dX2_addNumber_39 (by decide) (fun c_39 => ?_) (fun c_39 => ?_)
          · have c_39 := fun h => c_39 ((lg_cmp_eq _ _).mpr h)
            have hj0 : ¬ j = 0 := fun h => c_39 (by rw [h]; rfl)
            refine lv_iconst (v := 0) hx hb dX2_addNumber_46 (by decide) ?_
            refine lv_istore_n (lv' := [(3, .int 0), (6, .long (lN (v / 10 ^ j % 10))), (4, .long (lN (10 ^ j))), (0, .ref q), (1, .long (lN v))]) hx hb dX2_addNumber_47 rfl hl (by decide) rfl (fun ls hl => ?_)
            refine lv_iload_n hx hb dX2_addNumber_48 rfl (lv_at hl 0 rfl) ?_
            refine lv_if_eq (tgt := 64) hx hb dX2_addNumber_49 (by decide) (fun c_49 => ?_) (fun c_49 => ?_)
            · refine lv_lload hx hb dX2_addNumber_64 (lv_at hl 2 rfl) ?_
              refine lv_ldc2 hx hb hown (hts _ mw_300) dX2_addNumber_66 ?_
              refine lv_ldiv hx hb dX2_addNumber_69 (by decide) ?_
              rw [sp_unit hj]
              refine lv_lstore (lv' := [(4, .long (lN (sp_un j))), (3, .int 0), (6, .long (lN (v / 10 ^ j % 10))), (0, .ref q), (1, .long (lN v))]) hx hb dX2_addNumber_70 hl (by decide) rfl (fun ls hl => ?_)
              refine lv_goto (tgt := 7) hx hb dX2_addNumber_72 (by decide) ?_
              refine ih (j, false, pg) ⟨(by omega : j ≤ 10), hI2, ?_⟩ (by show j < j + 1; omega) _ _ ls hP hD hS (lv_sub hl [0, 1, 3, 4] rfl)
              rw [← hI3]
              exact (if_neg (fun h => h.elim (fun h => absurd h (by decide)) (fun h => h.elim (fun h => h hd0) hj0))).symm
            · exact absurd rfl c_49
          · have c_39 := (lg_cmp_eq _ _).mp c_39
            have hj0 : j = 0 := sp_j0 ((sp_l1 (sp_pow_lt hj)).mp c_39)
            refine lv_iconst (v := 1) hx hb dX2_addNumber_42 (by decide) ?_
            refine lv_goto (tgt := 47) hx hb dX2_addNumber_43 (by decide) ?_
            refine lv_istore_n (lv' := [(3, .int 1), (6, .long (lN (v / 10 ^ j % 10))), (4, .long (lN (10 ^ j))), (0, .ref q), (1, .long (lN v))]) hx hb dX2_addNumber_47 rfl hl (by decide) rfl (fun ls hl => ?_)
            refine lv_iload_n hx hb dX2_addNumber_48 rfl (lv_at hl 0 rfl) ?_
            refine lv_if_eq (tgt := 64) hx hb dX2_addNumber_49 (by decide) (fun c_49 => ?_) (fun c_49 => ?_)
            · exact absurd c_49 (by decide)
            · refine lv_aload_n hx hb dX2_addNumber_52 rfl (lv_at hl 3 rfl) ?_
              refine lv_ldc2 hx hb hown (hts _ mw_301) dX2_addNumber_53 ?_
              refine lv_lload hx hb dX2_addNumber_56 (lv_at hl 1 rfl) ?_
              refine lv_ladd hx hb dX2_addNumber_58 ?_
              refine lv_l2i hx hb dX2_addNumber_59 rfl ?_
              refine lv_i2c hx hb dX2_addNumber_60 rfl ?_
              rw [sp_char (sp_dlt v j)]
              refine pc_callVv (As := [.int (nI (48 + v / 10 ^ j % 10))]) (rest := []) ⟨hx, hb, hml, hown, hts⟩ (k_P_add l G cs L (pp_f cs f q q1 pg) _ q q1 pg.1 pg.2 (nI (48 + v / 10 ^ j % 10)) hQk hI2) (cwV 1 hts (wg_V mw_302 mw_303 mw_304 mw_2 mw_305) rfl rfl rfl (by decide +kernel) ⟨Nat.le_of_ble_eq_true rfl, Nat.le_of_ble_eq_true rfl⟩) hK hP hD hS hA m0 hQk.2.1 rfl px_T (fun _ _ _ => trivial) rfl hl.1 rfl (lv_room (Nat.le_of_ble_eq_true rfl)) dX2_addNumber_61 ⟨Nat.le_of_ble_eq_true rfl, Nat.le_of_ble_eq_true rfl⟩ (fun L1 f1 H locs hr_3 hP hD hS => ?_)
              obtain ⟨rfl, rfl⟩ := Prod.mk.inj hr_3
              rw [pp_pp hne] at hP hD
              refine lv_lload hx hb dX2_addNumber_64 (lv_at hl 2 rfl) ?_
              refine lv_ldc2 hx hb hown (hts _ mw_300) dX2_addNumber_66 ?_
              refine lv_ldiv hx hb dX2_addNumber_69 (by decide) ?_
              rw [sp_unit hj]
              refine lv_lstore (lv' := [(4, .long (lN (sp_un j))), (3, .int 1), (6, .long (lN (v / 10 ^ j % 10))), (0, .ref q), (1, .long (lN v))]) hx hb dX2_addNumber_70 hl (by decide) rfl (fun ls hl => ?_)
              refine lv_goto (tgt := 7) hx hb dX2_addNumber_72 (by decide) ?_
              refine ih (j, true, sp_add pg (nI (48 + v / 10 ^ j % 10))) ⟨(by omega : j ≤ 10), sp_add_le _ _ hI2, ?_⟩ (by show j < j + 1; omega) _ _ ls hP hD hS (lv_sub hl [0, 1, 3, 4] rfl)
              rw [← hI3]
              exact (if_pos (Or.inr (Or.inr hj0))).symm
