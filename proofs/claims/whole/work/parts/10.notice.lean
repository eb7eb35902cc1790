/-! The class Notice: contracts. Laid by wip/gen/notice.py. -/
set_option maxHeartbeats 4000000 in
set_option maxRecDepth 100000 in
theorem k_N_covers (l : Launch) (G : va_G) (cs : Nat → ClassId) (L : List Nat) (f : Nat → va_E) (q q1 q2 q3 : Nat) (g : Int64) (fr to : Int32) (an ao dy : Nat → Int32) (ct : Int64) (d : Int32) (hN : NT cs L f q q1 q2 q3 g fr to an ao dy ct) : Met l yX1_covers (Cond.code yX1_covers cX1_covers 2 (some FieldType.boolean) :: wg) ({ frames := 0, cells := 0, slots := 0, locals := 0 }) (pr_P [.ref q, .int d] G vwCl (tyl cs) L f (fun _ => True)) (vp_Si (fun r => r = sp_covers fr to d)) 0 0 (fun _ => False) := by
  refine Met.ofW (cc := cX1_covers) (maxL := 2) (ret := (some FieldType.boolean)) (by decide) rfl ?_
  intro p e s m args below meth c s₁ B hml hv
  obtain ⟨rfl, hP, hK, hX⟩ := hv
  have hx := B.exec
  have hb := B.bytes
  have hr := B.returns
  have hts0 := atoms_spec (ws := (Cond.code yX1_covers cX1_covers 2 (some FieldType.boolean) :: wg)) B.pre
  have hts := fun (w : Cond) (h : w ∈ wg) => hts0 w (List.mem_cons_of_mem _ h)
  have hown : s.vm.findClass RX1 = some m.cls := findClass_of_methodNamed B.named
  have hlocks := B.notSynchronized
  have hl := lv_entry ([.ref q, .int d]) (n := 2) (Nat.le_of_ble_eq_true rfl)
  rw [lg_entry_eq]
  generalize (lg_sl ([.ref q, .int d]) ++ List.replicate (2 - (lg_sl ([.ref q, .int d])).length) Slot.unset).toArray = ls at hl ⊢
  have hl : lv_has ls 2 [(0, .ref q), (1, .int d)] := hl
  obtain ⟨⟨m0, m1, m2, m3⟩, ⟨e0, e1, e2, e3⟩, n12, n13, n23⟩ := hN
  refine lv_iload_n hx hb dX1_covers_0 rfl (lv_at hl 1 rfl) ?_
  refine lv_aload_n hx hb dX1_covers_1 rfl (lv_at hl 0 rfl) ?_
  refine pw_get (ci := 1) (C := RX1) (T := TX1) (N := 7) hx hb hts inX1 hown hK hP m0 e0 rfl 1 (by decide) (hts _ mw_83) (fun _ h9 => h9) rfl dX1_covers_2 ?_
  refine lv_icmp_lt (tgt := 20) hx hb dX1_covers_5 (by decide) (fun c_5 => ?_) (fun c_5 => ?_)
  · refine lv_iconst (v := 0) hx hb dX1_covers_20 (by decide) ?_
    exact pr_retz hx hb hr rfl hlocks dX1_covers_21 (by simp [sp_covers, c_5])
  · refine lv_iload_n hx hb dX1_covers_8 rfl (lv_at hl 1 rfl) ?_
    refine lv_aload_n hx hb dX1_covers_9 rfl (lv_at hl 0 rfl) ?_
    refine pw_get (ci := 1) (C := RX1) (T := TX1) (N := 7) hx hb hts inX1 hown hK hP m0 e0 rfl 2 (by decide) (hts _ mw_85) (fun _ h9 => h9) rfl dX1_covers_10 ?_
    refine lv_icmp_gt (tgt := 20) hx hb dX1_covers_13 (by decide) (fun c_13 => ?_) (fun c_13 => ?_)
    · refine lv_iconst (v := 0) hx hb dX1_covers_20 (by decide) ?_
      exact pr_retz hx hb hr rfl hlocks dX1_covers_21 (by simp [sp_covers, c_5, c_13])
    · refine lv_iconst (v := 1) hx hb dX1_covers_16 (by decide) ?_
      refine lv_goto (tgt := 21) hx hb dX1_covers_17 (by decide) ?_
      exact pr_retz hx hb hr rfl hlocks dX1_covers_21 (by simp [sp_covers, c_5, c_13])

set_option maxHeartbeats 4000000 in
set_option maxRecDepth 100000 in
theorem k_N_countOf (l : Launch) (G : va_G) (cs : Nat → ClassId) (L : List Nat) (f : Nat → va_E) (q q1 q2 q3 : Nat) (g : Int64) (fr to : Int32) (an ao dy : Nat → Int32) (ct : Int64) (x : Int32) (hN : NT cs L f q q1 q2 q3 g fr to an ao dy ct) : Met l yX1_countOf (Cond.code yX1_countOf cX1_countOf 4 (some FieldType.int) :: wg) ({ frames := 0, cells := 0, slots := 0, locals := 0 }) (pr_P [.ref q, .int x] G vwCl (tyl cs) L f (fun _ => True)) (vp_Si (fun r => r = nI (sp_cn an x 6))) 0 0 (fun _ => False) := by
  refine Met.ofW (cc := cX1_countOf) (maxL := 4) (ret := (some FieldType.int)) (by decide) rfl ?_
  intro p e s m args below meth c s₁ B hml hv
  obtain ⟨rfl, hP, hK, hX⟩ := hv
  have hx := B.exec
  have hb := B.bytes
  have hr := B.returns
  have hts0 := atoms_spec (ws := (Cond.code yX1_countOf cX1_countOf 4 (some FieldType.int) :: wg)) B.pre
  have hts := fun (w : Cond) (h : w ∈ wg) => hts0 w (List.mem_cons_of_mem _ h)
  have hown : s.vm.findClass RX1 = some m.cls := findClass_of_methodNamed B.named
  have hlocks := B.notSynchronized
  have hl := lv_entry ([.ref q, .int x]) (n := 4) (Nat.le_of_ble_eq_true rfl)
  rw [lg_entry_eq]
  generalize (lg_sl ([.ref q, .int x]) ++ List.replicate (4 - (lg_sl ([.ref q, .int x])).length) Slot.unset).toArray = ls at hl ⊢
  have hl : lv_has ls 4 [(0, .ref q), (1, .int x)] := hl
  obtain ⟨⟨m0, m1, m2, m3⟩, ⟨e0, e1, e2, e3⟩, n12, n13, n23⟩ := hN
  refine lv_iconst (v := 0) hx hb dX1_countOf_0 (by decide) ?_
  refine lv_istore_n (lv' := [(2, .int 0), (0, .ref q), (1, .int x)]) hx hb dX1_countOf_1 rfl hl (by decide) rfl (fun ls hl => ?_)
  refine lv_iconst (v := 0) hx hb dX1_countOf_2 (by decide) ?_
  refine lv_istore_n (lv' := [(3, .int 0), (2, .int 0), (0, .ref q), (1, .int x)]) hx hb dX1_countOf_3 rfl hl (by decide) rfl (fun ls hl => ?_)
  refine pr_loop (σ := Nat) (nL := 4) (fun k => 6 - k) (fun k => k ≤ 6) (fun k => [(3, .int (nI k)), (2, .int (nI (sp_cn an x k))), (0, .ref q), (1, .int x)]) ?_ 0 (by omega) ls (lv_sub hl [0, 1, 2, 3] rfl)
  intro k hk ih ls hl
  refine lv_iload_n hx hb dX1_countOf_4 rfl (lv_at hl 0 rfl) ?_
  refine lv_bipush (v := 6) hx hb dX1_countOf_5 (by decide) ?_
  refine lv_icmp_ge (tgt := 29) hx hb dX1_countOf_7 (by decide) (fun c_7 => ?_) (fun c_7 => ?_)
  · have hk6 : k = 6 := Nat.le_antisymm hk (nI_of_le (b := 6) c_7 (by decide))
    subst hk6
    refine lv_iload_n hx hb dX1_countOf_29 rfl (lv_at hl 1 rfl) ?_
    exact pr_reti hx hb hr hlocks dX1_countOf_30 rfl
  · have hk6 : k < 6 := nI_of_ge (b := 6) c_7 (by omega)
    refine lv_aload_n hx hb dX1_countOf_10 rfl (lv_at hl 2 rfl) ?_
    refine pw_get (ci := 1) (C := RX1) (T := TX1) (N := 7) hx hb hts inX1 hown hK hP m0 e0 rfl 3 (by decide) (hts _ mw_87) (fun _ h9 => h9) rfl dX1_countOf_11 ?_
    refine lv_iload_n hx hb dX1_countOf_14 rfl (lv_at hl 0 rfl) ?_
    refine pw_ialdN (k := k) hx hb hK hP m1 0 e1 rfl hk6 (by decide) dX1_countOf_15 ?_
    refine lv_iload_n hx hb dX1_countOf_16 rfl (lv_at hl 3 rfl) ?_
    refine lv_icmp_ne (tgt := 23) hx hb dX1_countOf_17 (by decide) (fun c_17 => ?_) (fun c_17 => ?_)
    · obtain ⟨z_1, ez_1⟩ : ∃ z : Int32, z = (nI k) + 1 := ⟨_, rfl⟩
      refine lv_iinc (v := z_1) (lv' := [(3, .int z_1), (2, .int (nI (sp_cn an x k))), (0, .ref q), (1, .int x)]) hx hb dX1_countOf_23 hl (k := 0) rfl (by rw [ez_1]; rfl) (by decide) rfl (fun ls hl => ?_)
      refine lv_goto (tgt := 4) hx hb dX1_countOf_26 (by decide) ?_
      obtain rfl : z_1 = nI (k + 1) := by rw [ez_1]; exact nI_1 k
      have hcn : sp_cn an x (k + 1) = sp_cn an x k := by simp [sp_cn, c_7, c_17]
      rw [← hcn] at hl
      exact ih (k + 1) (by omega) (by omega) ls (lv_sub hl [0, 1, 2, 3] rfl)
    · obtain ⟨z_2, ez_2⟩ : ∃ z : Int32, z = (nI (sp_cn an x k)) + 1 := ⟨_, rfl⟩
      refine lv_iinc (v := z_2) (lv' := [(2, .int z_2), (3, .int (nI k)), (0, .ref q), (1, .int x)]) hx hb dX1_countOf_20 hl (k := 1) rfl (by rw [ez_2]; rfl) (by decide) rfl (fun ls hl => ?_)
      obtain ⟨z_3, ez_3⟩ : ∃ z : Int32, z = (nI k) + 1 := ⟨_, rfl⟩
      refine lv_iinc (v := z_3) (lv' := [(3, .int z_3), (2, .int z_2), (0, .ref q), (1, .int x)]) hx hb dX1_countOf_23 hl (k := 1) rfl (by rw [ez_3]; rfl) (by decide) rfl (fun ls hl => ?_)
      refine lv_goto (tgt := 4) hx hb dX1_countOf_26 (by decide) ?_
      obtain rfl : z_3 = nI (k + 1) := by rw [ez_3]; exact nI_1 k
      obtain rfl : z_2 = nI (sp_cn an x (k + 1)) := by rw [ez_2, nI_1]; simp [sp_cn, c_7, c_17]
      exact ih (k + 1) (by omega) (by omega) ls (lv_sub hl [0, 1, 2, 3] rfl)

set_option maxHeartbeats 4000000 in
set_option maxRecDepth 100000 in
theorem k_N_stateOn (l : Launch) (G : va_G) (cs : Nat → ClassId) (L : List Nat) (f : Nat → va_E) (q q1 q2 q3 : Nat) (g : Int64) (fr to : Int32) (an ao dy : Nat → Int32) (ct : Int64) (t : Int32) (hN : NT cs L f q q1 q2 q3 g fr to an ao dy ct) : Met l yX1_stateOn (Cond.code yX1_stateOn cX1_stateOn 2 (some FieldType.int) :: wg) ({ frames := 1, cells := 0, slots := 0, locals := 23 }) (pr_P [.ref q, .int t] G vwCl (tyl cs) L f (fun _ => True)) (vp_Si (fun r => r = sp_state an to t)) 0 0 (fun _ => False) := by
  refine Met.ofW (cc := cX1_stateOn) (maxL := 2) (ret := (some FieldType.int)) (by decide) rfl ?_
  intro p e s m args below meth c s₁ B hml hv
  obtain ⟨rfl, hP, hK, hX⟩ := hv
  have hx := B.exec
  have hb := B.bytes
  have hr := B.returns
  have hts0 := atoms_spec (ws := (Cond.code yX1_stateOn cX1_stateOn 2 (some FieldType.int) :: wg)) B.pre
  have hts := fun (w : Cond) (h : w ∈ wg) => hts0 w (List.mem_cons_of_mem _ h)
  have hown : s.vm.findClass RX1 = some m.cls := findClass_of_methodNamed B.named
  have hlocks := B.notSynchronized
  have hl := lv_entry ([.ref q, .int t]) (n := 2) (Nat.le_of_ble_eq_true rfl)
  rw [lg_entry_eq]
  generalize (lg_sl ([.ref q, .int t]) ++ List.replicate (2 - (lg_sl ([.ref q, .int t])).length) Slot.unset).toArray = ls at hl ⊢
  have hl : lv_has ls 2 [(0, .ref q), (1, .int t)] := hl
  obtain ⟨⟨m0, m1, m2, m3⟩, ⟨e0, e1, e2, e3⟩, n12, n13, n23⟩ := id hN
  refine lv_aload_n hx hb dX1_stateOn_0 rfl (lv_at hl 0 rfl) ?_
  refine lv_iconst (v := 3) hx hb dX1_stateOn_1 (by decide) ?_
  refine pr_callVi (As := [.int 3]) (rest := []) ⟨hx, hb, hml, hown, hts⟩ (k_N_countOf l G cs L f q q1 q2 q3 g fr to an ao dy ct 3 hN) (cwV 1 hts (wg_V mw_131 mw_133 ms_1 mw_4 mw_134) rfl rfl rfl (by decide +kernel) ⟨Nat.le_of_ble_eq_true rfl, Nat.le_of_ble_eq_true rfl⟩) hK hP m0 e0 rfl px_T (fun _ _ _ => trivial) rfl hl.1 rfl (lv_room (Nat.le_of_ble_eq_true rfl)) dX1_stateOn_2 ⟨Nat.le_of_ble_eq_true rfl, Nat.le_of_ble_eq_true rfl⟩ (fun r_1 hr_1 => ?_)
  subst hr_1
  refine lv_if_le (tgt := 10) hx hb dX1_stateOn_5 (by decide) (fun c_5 => ?_) (fun c_5 => ?_)
  · have c_5 : ¬ 0 < sp_cn an 3 6 := fun h => nI_nle h (Nat.lt_of_le_of_lt (sp_cn_le an 3 6) (by decide)) c_5
    refine lv_iload_n hx hb dX1_stateOn_10 rfl (lv_at hl 1 rfl) ?_
    refine lv_aload_n hx hb dX1_stateOn_11 rfl (lv_at hl 0 rfl) ?_
    refine pw_get (ci := 1) (C := RX1) (T := TX1) (N := 7) hx hb hts inX1 hown hK hP m0 e0 rfl 2 (by decide) (hts _ mw_85) (fun _ h9 => h9) rfl dX1_stateOn_12 ?_
    refine lv_icmp_le (tgt := 20) hx hb dX1_stateOn_15 (by decide) (fun c_15 => ?_) (fun c_15 => ?_)
    · have c_15 : ¬ to < t := Int32.not_lt.mpr c_15
      refine lv_aload_n hx hb dX1_stateOn_20 rfl (lv_at hl 0 rfl) ?_
      refine lv_iconst (v := 2) hx hb dX1_stateOn_21 (by decide) ?_
      refine pr_callVi (As := [.int 2]) (rest := []) ⟨hx, hb, hml, hown, hts⟩ (k_N_countOf l G cs L f q q1 q2 q3 g fr to an ao dy ct 2 hN) (cwV 1 hts (wg_V mw_131 mw_133 ms_1 mw_4 mw_134) rfl rfl rfl (by decide +kernel) ⟨Nat.le_of_ble_eq_true rfl, Nat.le_of_ble_eq_true rfl⟩) hK hP m0 e0 rfl px_T (fun _ _ _ => trivial) rfl hl.1 rfl (lv_room (Nat.le_of_ble_eq_true rfl)) dX1_stateOn_22 ⟨Nat.le_of_ble_eq_true rfl, Nat.le_of_ble_eq_true rfl⟩ (fun r_2 hr_2 => ?_)
      subst hr_2
      refine lv_if_le (tgt := 40) hx hb dX1_stateOn_25 (by decide) (fun c_25 => ?_) (fun c_25 => ?_)
      · have c_25 : ¬ 0 < sp_cn an 2 6 := fun h => nI_nle h (Nat.lt_of_le_of_lt (sp_cn_le an 2 6) (by decide)) c_25
        refine lv_iconst (v := 0) hx hb dX1_stateOn_40 (by decide) ?_
        exact pr_reti hx hb hr hlocks dX1_stateOn_41 (by simp [sp_state, c_5, c_15, c_25])
      · have c_25 : 0 < sp_cn an 2 6 := Nat.pos_of_ne_zero fun h => c_25 (by rw [h]; decide)
        refine lv_aload_n hx hb dX1_stateOn_28 rfl (lv_at hl 0 rfl) ?_
        refine lv_iconst (v := 1) hx hb dX1_stateOn_29 (by decide) ?_
        refine pr_callVi (As := [.int 1]) (rest := []) ⟨hx, hb, hml, hown, hts⟩ (k_N_countOf l G cs L f q q1 q2 q3 g fr to an ao dy ct 1 hN) (cwV 1 hts (wg_V mw_131 mw_133 ms_1 mw_4 mw_134) rfl rfl rfl (by decide +kernel) ⟨Nat.le_of_ble_eq_true rfl, Nat.le_of_ble_eq_true rfl⟩) hK hP m0 e0 rfl px_T (fun _ _ _ => trivial) rfl hl.1 rfl (lv_room (Nat.le_of_ble_eq_true rfl)) dX1_stateOn_30 ⟨Nat.le_of_ble_eq_true rfl, Nat.le_of_ble_eq_true rfl⟩ (fun r_3 hr_3 => ?_)
        subst hr_3
        refine lv_if_ne (tgt := 40) hx hb dX1_stateOn_33 (by decide) (fun c_33 => ?_) (fun c_33 => ?_)
        · have c_33 : ¬ sp_cn an 1 6 = 0 := fun h => c_33 (by rw [h]; rfl)
          refine lv_iconst (v := 0) hx hb dX1_stateOn_40 (by decide) ?_
          exact pr_reti hx hb hr hlocks dX1_stateOn_41 (by simp [sp_state, c_5, c_15, c_25, c_33])
        · have c_33 : sp_cn an 1 6 = 0 := Decidable.byContradiction fun h => nI_ne0 (Nat.pos_of_ne_zero h) (Nat.lt_of_le_of_lt (sp_cn_le an 1 6) (by decide)) c_33
          refine lv_iconst (v := 1) hx hb dX1_stateOn_36 (by decide) ?_
          refine lv_goto (tgt := 41) hx hb dX1_stateOn_37 (by decide) ?_
          exact pr_reti hx hb hr hlocks dX1_stateOn_41 (by simp [sp_state, c_5, c_15, c_25, c_33])
    · have c_15 : to < t := Int32.not_le.mp c_15
      refine lv_iconst (v := 3) hx hb dX1_stateOn_18 (by decide) ?_
      exact pr_reti hx hb hr hlocks dX1_stateOn_19 (by simp [sp_state, c_5, c_15])
  · have c_5 : 0 < sp_cn an 3 6 := Nat.pos_of_ne_zero fun h => c_5 (by rw [h]; decide)
    refine lv_iconst (v := 2) hx hb dX1_stateOn_8 (by decide) ?_
    exact pr_reti hx hb hr hlocks dX1_stateOn_9 (by simp [sp_state, c_5])

def sp_ask (f : Nat → va_E) (cs : Nat → ClassId) (q1 q2 q3 : Nat) (an ao dy : Nat → Int32) (x d t : Int32) : Int32 × (Nat → va_E) := if x < 0 then (0, f) else if 6 ≤ x then (0, f) else if an x.toNatClampNeg = 0 then (1, va_up (va_up (va_up f q1 (.inl (cs 0, 6, .inl (upd an x.toNatClampNeg 1)))) q2 (.inl (cs 0, 6, .inl (upd ao x.toNatClampNeg t)))) q3 (.inl (cs 0, 6, .inl (upd dy x.toNatClampNeg d)))) else (0, f)
def sp_answer (f : Nat → va_E) (cs : Nat → ClassId) (q1 : Nat) (an : Nat → Int32) (x y : Int32) : Int32 × (Nat → va_E) := if x < 0 then (0, f) else if 6 ≤ x then (0, f) else if an x.toNatClampNeg = 1 then (1, va_up f q1 (.inl (cs 0, 6, .inl (upd an x.toNatClampNeg (if y = 0 then 3 else 2))))) else (0, f)

set_option maxHeartbeats 4000000 in
set_option maxRecDepth 100000 in
theorem k_N_ask (l : Launch) (G : va_G) (cs : Nat → ClassId) (L : List Nat) (f : Nat → va_E) (sz : Nat) (q q1 q2 q3 : Nat) (g : Int64) (fr to : Int32) (an ao dy : Nat → Int32) (ct : Int64) (x d t : Int32) (hN : NT cs L f q q1 q2 q3 g fr to an ao dy ct) : Met l yX1_ask (Cond.code yX1_ask cX1_ask 4 (some FieldType.boolean) :: wg) ({ frames := 0, cells := 0, slots := 0, locals := 0 }) (pc_P [.ref q, .int x, .int d, .int t] G vwCl (tyl cs) L f sz (fun _ => True)) (va_Qi (fun r u => (r, u) = ((sp_ask f cs q1 q2 q3 an ao dy x d t).1, (L, (sp_ask f cs q1 q2 q3 an ao dy x d t).2))) (pc_B G vwCl L sz) (pw_A L sz)) 0 0 (pw_A L sz) := by
  refine Met.ofW (cc := cX1_ask) (maxL := 4) (ret := (some FieldType.boolean)) (by decide) rfl ?_
  intro p e s m args below meth c s₁ B hml hv
  obtain ⟨rfl, hsz, hP, hK, hD0, hX⟩ := hv
  have hx := B.exec
  have hb := B.bytes
  have hr := B.returns
  have hts0 := atoms_spec (ws := (Cond.code yX1_ask cX1_ask 4 (some FieldType.boolean) :: wg)) B.pre
  have hts := fun (w : Cond) (h : w ∈ wg) => hts0 w (List.mem_cons_of_mem _ h)
  have hown : s.vm.findClass RX1 = some m.cls := findClass_of_methodNamed B.named
  have hlocks := B.notSynchronized
  subst hsz
  have hD := pw_selfD (sz := s.heap.size) hD0
  have hA : ∀ q : Nat, s.heap.size ≤ q → pw_A L s.heap.size q := fun q h => Or.inr h
  have hS : va_S (pw_A L s.heap.size) s.heap s.heap [] := va_S.rf
  have hl := lv_entry ([.ref q, .int x, .int d, .int t]) (n := 4) (Nat.le_of_ble_eq_true rfl)
  rw [lg_entry_eq]
  generalize (lg_sl ([.ref q, .int x, .int d, .int t]) ++ List.replicate (4 - (lg_sl ([.ref q, .int x, .int d, .int t])).length) Slot.unset).toArray = ls at hl ⊢
  have hl : lv_has ls 4 [(0, .ref q), (1, .int x), (2, .int d), (3, .int t)] := hl
  obtain ⟨⟨m0, m1, m2, m3⟩, ⟨e0, e1, e2, e3⟩, n12, n13, n23⟩ := hN
  refine lv_iload_n hx hb dX1_ask_0 rfl (lv_at hl 1 rfl) ?_
  refine lv_if_lt (tgt := 19) hx hb dX1_ask_1 (by decide) (fun c_1 => ?_) (fun c_1 => ?_)
  · refine lv_iconst (v := 0) hx hb dX1_ask_19 (by decide) ?_
    exact pc_retz hx hb hr rfl hlocks hP hD hS dX1_ask_20 (by simp [sp_ask, c_1])
  · refine lv_iload_n hx hb dX1_ask_4 rfl (lv_at hl 1 rfl) ?_
    refine lv_bipush (v := 6) hx hb dX1_ask_5 (by decide) ?_
    refine lv_icmp_ge (tgt := 19) hx hb dX1_ask_7 (by decide) (fun c_7 => ?_) (fun c_7 => ?_)
    · refine lv_iconst (v := 0) hx hb dX1_ask_19 (by decide) ?_
      exact pc_retz hx hb hr rfl hlocks hP hD hS dX1_ask_20 (by simp [sp_ask, c_1, c_7])
    · refine lv_aload_n hx hb dX1_ask_10 rfl (lv_at hl 0 rfl) ?_
      refine pw_get (ci := 1) (C := RX1) (T := TX1) (N := 7) hx hb hts inX1 hown hK hP m0 e0 rfl 3 (by decide) (hts _ mw_87) (fun _ h9 => h9) rfl dX1_ask_11 ?_
      refine lv_iload_n hx hb dX1_ask_14 rfl (lv_at hl 1 rfl) ?_
      refine pw_iald hx hb hK hP m1 0 e1 rfl (vi_in (n := 6) (by decide) c_1 c_7) dX1_ask_15 ?_
      refine lv_if_eq (tgt := 21) hx hb dX1_ask_16 (by decide) (fun c_16 => ?_) (fun c_16 => ?_)
      · refine lv_aload_n hx hb dX1_ask_21 rfl (lv_at hl 0 rfl) ?_
        refine pw_get (ci := 1) (C := RX1) (T := TX1) (N := 7) hx hb hts inX1 hown hK hP m0 e0 rfl 3 (by decide) (hts _ mw_87) (fun _ h9 => h9) rfl dX1_ask_22 ?_
        refine lv_iload_n hx hb dX1_ask_25 rfl (lv_at hl 1 rfl) ?_
        refine lv_iconst (v := 1) hx hb dX1_ask_26 (by decide) ?_
        refine pw_iast hx hb hK hP hD hS m1 0 e1 rfl (vi_in (n := 6) (by decide) c_1 c_7) dX1_ask_27 (fun H locs hP hD hS => ?_)
        obtain ⟨f_1, ef_1⟩ : ∃ zz : Nat → va_E, zz = va_up f q1 (.inl (cs 0, 6, .inl (upd an x.toNatClampNeg 1))) := ⟨_, rfl⟩
        have hP : va_P G vwCl (va_pl L f_1) H := by rw [ef_1]; exact hP
        have hD : va_D (pw_A L s.heap.size) (va_pl L f_1) := by rw [ef_1]; exact hD
        have hf_1_q := (show f_1 q = f q by rw [ef_1]; exact va_up_ne _ _ (pe_ro e0 e1)).trans e0
        have hf_1_q1 : f_1 q1 = .inl (cs 0, 6, .inl (upd an x.toNatClampNeg 1)) := by rw [ef_1]; exact va_up_self _ _ _
        have hf_1_q2 := (show f_1 q2 = f q2 by rw [ef_1]; exact va_up_ne _ _ (Ne.symm n12)).trans e2
        have hf_1_q3 := (show f_1 q3 = f q3 by rw [ef_1]; exact va_up_ne _ _ (Ne.symm n13)).trans e3
        refine lv_aload_n hx hb dX1_ask_28 rfl (lv_at hl 0 rfl) ?_
        refine pw_get (ci := 1) (C := RX1) (T := TX1) (N := 7) hx hb hts inX1 hown hK hP m0 hf_1_q rfl 4 (by decide) (hts _ mw_88) (fun _ h9 => h9) rfl dX1_ask_29 ?_
        refine lv_iload_n hx hb dX1_ask_32 rfl (lv_at hl 1 rfl) ?_
        refine lv_iload_n hx hb dX1_ask_33 rfl (lv_at hl 3 rfl) ?_
        refine pw_iast hx hb hK hP hD hS m2 0 hf_1_q2 rfl (vi_in (n := 6) (by decide) c_1 c_7) dX1_ask_34 (fun H locs hP hD hS => ?_)
        obtain ⟨f_2, ef_2⟩ : ∃ zz : Nat → va_E, zz = va_up f_1 q2 (.inl (cs 0, 6, .inl (upd ao x.toNatClampNeg t))) := ⟨_, rfl⟩
        have hP : va_P G vwCl (va_pl L f_2) H := by rw [ef_2]; exact hP
        have hD : va_D (pw_A L s.heap.size) (va_pl L f_2) := by rw [ef_2]; exact hD
        have hf_2_q := (show f_2 q = f_1 q by rw [ef_2]; exact va_up_ne _ _ (pe_ro e0 e2)).trans hf_1_q
        have hf_2_q1 := (show f_2 q1 = f_1 q1 by rw [ef_2]; exact va_up_ne _ _ n12).trans hf_1_q1
        have hf_2_q2 : f_2 q2 = .inl (cs 0, 6, .inl (upd ao x.toNatClampNeg t)) := by rw [ef_2]; exact va_up_self _ _ _
        have hf_2_q3 := (show f_2 q3 = f_1 q3 by rw [ef_2]; exact va_up_ne _ _ (Ne.symm n23)).trans hf_1_q3
        refine lv_aload_n hx hb dX1_ask_35 rfl (lv_at hl 0 rfl) ?_
        refine pw_get (ci := 1) (C := RX1) (T := TX1) (N := 7) hx hb hts inX1 hown hK hP m0 hf_2_q rfl 5 (by decide) (hts _ mw_89) (fun _ h9 => h9) rfl dX1_ask_36 ?_
        refine lv_iload_n hx hb dX1_ask_39 rfl (lv_at hl 1 rfl) ?_
        refine lv_iload_n hx hb dX1_ask_40 rfl (lv_at hl 2 rfl) ?_
        refine pw_iast hx hb hK hP hD hS m3 0 hf_2_q3 rfl (vi_in (n := 6) (by decide) c_1 c_7) dX1_ask_41 (fun H locs hP hD hS => ?_)
        obtain ⟨f_3, ef_3⟩ : ∃ zz : Nat → va_E, zz = va_up f_2 q3 (.inl (cs 0, 6, .inl (upd dy x.toNatClampNeg d))) := ⟨_, rfl⟩
        have hP : va_P G vwCl (va_pl L f_3) H := by rw [ef_3]; exact hP
        have hD : va_D (pw_A L s.heap.size) (va_pl L f_3) := by rw [ef_3]; exact hD
        have hf_3_q := (show f_3 q = f_2 q by rw [ef_3]; exact va_up_ne _ _ (pe_ro e0 e3)).trans hf_2_q
        have hf_3_q1 := (show f_3 q1 = f_2 q1 by rw [ef_3]; exact va_up_ne _ _ n13).trans hf_2_q1
        have hf_3_q2 := (show f_3 q2 = f_2 q2 by rw [ef_3]; exact va_up_ne _ _ n23).trans hf_2_q2
        have hf_3_q3 : f_3 q3 = .inl (cs 0, 6, .inl (upd dy x.toNatClampNeg d)) := by rw [ef_3]; exact va_up_self _ _ _
        refine lv_iconst (v := 1) hx hb dX1_ask_42 (by decide) ?_
        exact pc_retz hx hb hr rfl hlocks hP hD hS dX1_ask_43 (by simp [sp_ask, c_1, c_7, c_16, ef_1, ef_2, ef_3])
      · refine lv_iconst (v := 0) hx hb dX1_ask_19 (by decide) ?_
        exact pc_retz hx hb hr rfl hlocks hP hD hS dX1_ask_20 (by simp [sp_ask, c_1, c_7, c_16])

set_option maxHeartbeats 4000000 in
set_option maxRecDepth 100000 in
theorem k_N_answer (l : Launch) (G : va_G) (cs : Nat → ClassId) (L : List Nat) (f : Nat → va_E) (sz : Nat) (q q1 q2 q3 : Nat) (g : Int64) (fr to : Int32) (an ao dy : Nat → Int32) (ct : Int64) (x y : Int32) (hN : NT cs L f q q1 q2 q3 g fr to an ao dy ct) : Met l yX1_answer (Cond.code yX1_answer cX1_answer 3 (some FieldType.boolean) :: wg) ({ frames := 0, cells := 0, slots := 0, locals := 0 }) (pc_P [.ref q, .int x, .int y] G vwCl (tyl cs) L f sz (fun _ => True)) (va_Qi (fun r u => (r, u) = ((sp_answer f cs q1 an x y).1, (L, (sp_answer f cs q1 an x y).2))) (pc_B G vwCl L sz) (pw_A L sz)) 0 0 (pw_A L sz) := by
  refine Met.ofW (cc := cX1_answer) (maxL := 3) (ret := (some FieldType.boolean)) (by decide) rfl ?_
  intro p e s m args below meth c s₁ B hml hv
  obtain ⟨rfl, hsz, hP, hK, hD0, hX⟩ := hv
  have hx := B.exec
  have hb := B.bytes
  have hr := B.returns
  have hts0 := atoms_spec (ws := (Cond.code yX1_answer cX1_answer 3 (some FieldType.boolean) :: wg)) B.pre
  have hts := fun (w : Cond) (h : w ∈ wg) => hts0 w (List.mem_cons_of_mem _ h)
  have hown : s.vm.findClass RX1 = some m.cls := findClass_of_methodNamed B.named
  have hlocks := B.notSynchronized
  subst hsz
  have hD := pw_selfD (sz := s.heap.size) hD0
  have hA : ∀ q : Nat, s.heap.size ≤ q → pw_A L s.heap.size q := fun q h => Or.inr h
  have hS : va_S (pw_A L s.heap.size) s.heap s.heap [] := va_S.rf
  have hl := lv_entry ([.ref q, .int x, .int y]) (n := 3) (Nat.le_of_ble_eq_true rfl)
  rw [lg_entry_eq]
  generalize (lg_sl ([.ref q, .int x, .int y]) ++ List.replicate (3 - (lg_sl ([.ref q, .int x, .int y])).length) Slot.unset).toArray = ls at hl ⊢
  have hl : lv_has ls 3 [(0, .ref q), (1, .int x), (2, .int y)] := hl
  obtain ⟨⟨m0, m1, m2, m3⟩, ⟨e0, e1, e2, e3⟩, n12, n13, n23⟩ := hN
  refine lv_iload_n hx hb dX1_answer_0 rfl (lv_at hl 1 rfl) ?_
  refine lv_if_lt (tgt := 20) hx hb dX1_answer_1 (by decide) (fun c_1 => ?_) (fun c_1 => ?_)
  · refine lv_iconst (v := 0) hx hb dX1_answer_20 (by decide) ?_
    exact pc_retz hx hb hr rfl hlocks hP hD hS dX1_answer_21 (by simp [sp_answer, c_1])
  · refine lv_iload_n hx hb dX1_answer_4 rfl (lv_at hl 1 rfl) ?_
    refine lv_bipush (v := 6) hx hb dX1_answer_5 (by decide) ?_
    refine lv_icmp_ge (tgt := 20) hx hb dX1_answer_7 (by decide) (fun c_7 => ?_) (fun c_7 => ?_)
    · refine lv_iconst (v := 0) hx hb dX1_answer_20 (by decide) ?_
      exact pc_retz hx hb hr rfl hlocks hP hD hS dX1_answer_21 (by simp [sp_answer, c_1, c_7])
    · refine lv_aload_n hx hb dX1_answer_10 rfl (lv_at hl 0 rfl) ?_
      refine pw_get (ci := 1) (C := RX1) (T := TX1) (N := 7) hx hb hts inX1 hown hK hP m0 e0 rfl 3 (by decide) (hts _ mw_87) (fun _ h9 => h9) rfl dX1_answer_11 ?_
      refine lv_iload_n hx hb dX1_answer_14 rfl (lv_at hl 1 rfl) ?_
      refine pw_iald hx hb hK hP m1 0 e1 rfl (vi_in (n := 6) (by decide) c_1 c_7) dX1_answer_15 ?_
      refine lv_iconst (v := 1) hx hb dX1_answer_16 (by decide) ?_
      refine lv_icmp_eq (tgt := 22) hx hb dX1_answer_17 (by decide) (fun c_17 => ?_) (fun c_17 => ?_)
      · refine lv_aload_n hx hb dX1_answer_22 rfl (lv_at hl 0 rfl) ?_
        refine pw_get (ci := 1) (C := RX1) (T := TX1) (N := 7) hx hb hts inX1 hown hK hP m0 e0 rfl 3 (by decide) (hts _ mw_87) (fun _ h9 => h9) rfl dX1_answer_23 ?_
        refine lv_iload_n hx hb dX1_answer_26 rfl (lv_at hl 1 rfl) ?_
        refine lv_iload_n hx hb dX1_answer_27 rfl (lv_at hl 2 rfl) ?_
        refine lv_if_eq (tgt := 35) hx hb dX1_answer_28 (by decide) (fun c_28 => ?_) (fun c_28 => ?_)
        · refine lv_iconst (v := 3) hx hb dX1_answer_35 (by decide) ?_
          refine pw_iast hx hb hK hP hD hS m1 0 e1 rfl (vi_in (n := 6) (by decide) c_1 c_7) dX1_answer_36 (fun H locs hP hD hS => ?_)
          obtain ⟨f_1, ef_1⟩ : ∃ zz : Nat → va_E, zz = va_up f q1 (.inl (cs 0, 6, .inl (upd an x.toNatClampNeg 3))) := ⟨_, rfl⟩
          have hP : va_P G vwCl (va_pl L f_1) H := by rw [ef_1]; exact hP
          have hD : va_D (pw_A L s.heap.size) (va_pl L f_1) := by rw [ef_1]; exact hD
          have hf_1_q := (show f_1 q = f q by rw [ef_1]; exact va_up_ne _ _ (pe_ro e0 e1)).trans e0
          have hf_1_q1 : f_1 q1 = .inl (cs 0, 6, .inl (upd an x.toNatClampNeg 3)) := by rw [ef_1]; exact va_up_self _ _ _
          have hf_1_q2 := (show f_1 q2 = f q2 by rw [ef_1]; exact va_up_ne _ _ (Ne.symm n12)).trans e2
          have hf_1_q3 := (show f_1 q3 = f q3 by rw [ef_1]; exact va_up_ne _ _ (Ne.symm n13)).trans e3
          refine lv_iconst (v := 1) hx hb dX1_answer_37 (by decide) ?_
          exact pc_retz hx hb hr rfl hlocks hP hD hS dX1_answer_38 (by simp [sp_answer, c_1, c_7, c_17, c_28, ef_1])
        · refine lv_iconst (v := 2) hx hb dX1_answer_31 (by decide) ?_
          refine lv_goto (tgt := 36) hx hb dX1_answer_32 (by decide) ?_
          refine pw_iast hx hb hK hP hD hS m1 0 e1 rfl (vi_in (n := 6) (by decide) c_1 c_7) dX1_answer_36 (fun H locs hP hD hS => ?_)
          obtain ⟨f_2, ef_2⟩ : ∃ zz : Nat → va_E, zz = va_up f q1 (.inl (cs 0, 6, .inl (upd an x.toNatClampNeg 2))) := ⟨_, rfl⟩
          have hP : va_P G vwCl (va_pl L f_2) H := by rw [ef_2]; exact hP
          have hD : va_D (pw_A L s.heap.size) (va_pl L f_2) := by rw [ef_2]; exact hD
          have hf_2_q := (show f_2 q = f q by rw [ef_2]; exact va_up_ne _ _ (pe_ro e0 e1)).trans e0
          have hf_2_q1 : f_2 q1 = .inl (cs 0, 6, .inl (upd an x.toNatClampNeg 2)) := by rw [ef_2]; exact va_up_self _ _ _
          have hf_2_q2 := (show f_2 q2 = f q2 by rw [ef_2]; exact va_up_ne _ _ (Ne.symm n12)).trans e2
          have hf_2_q3 := (show f_2 q3 = f q3 by rw [ef_2]; exact va_up_ne _ _ (Ne.symm n13)).trans e3
          refine lv_iconst (v := 1) hx hb dX1_answer_37 (by decide) ?_
          exact pc_retz hx hb hr rfl hlocks hP hD hS dX1_answer_38 (by simp [sp_answer, c_1, c_7, c_17, c_28, ef_2])
      · refine lv_iconst (v := 0) hx hb dX1_answer_20 (by decide) ?_
        exact pc_retz hx hb hr rfl hlocks hP hD hS dX1_answer_21 (by simp [sp_answer, c_1, c_7, c_17])

set_option maxHeartbeats 4000000 in
set_option maxRecDepth 100000 in
theorem k_N_silent (l : Launch) (G : va_G) (cs : Nat → ClassId) (L : List Nat) (f : Nat → va_E) (sz : Nat) (q q1 q2 q3 : Nat) (g : Int64) (fr to : Int32) (an ao dy : Nat → Int32) (ct : Int64) (t : Int32) (hN : NT cs L f q q1 q2 q3 g fr to an ao dy ct) : Met l yX1_agreeSilently (Cond.code yX1_agreeSilently cX1_agreeSilently 4 (some FieldType.int) :: wg) ({ frames := 0, cells := 0, slots := 0, locals := 0 }) (pc_P [.ref q, .int t] G vwCl (tyl cs) L f sz (fun _ => True)) (va_Qi (fun r u => (r, u) = (nI (sp_sil ao dy t an 6).2, (L, va_up f q1 (.inl (cs 0, 6, .inl (sp_sil ao dy t an 6).1))))) (pc_B G vwCl L sz) (pw_A L sz)) 0 0 (pw_A L sz) := by
  refine Met.ofW (cc := cX1_agreeSilently) (maxL := 4) (ret := (some FieldType.int)) (by decide) rfl ?_
  intro p e s m args below meth c s₁ B hml hv
  obtain ⟨rfl, hsz, hP, hK, hD0, hX⟩ := hv
  have hx := B.exec
  have hb := B.bytes
  have hr := B.returns
  have hts0 := atoms_spec (ws := (Cond.code yX1_agreeSilently cX1_agreeSilently 4 (some FieldType.int) :: wg)) B.pre
  have hts := fun (w : Cond) (h : w ∈ wg) => hts0 w (List.mem_cons_of_mem _ h)
  have hown : s.vm.findClass RX1 = some m.cls := findClass_of_methodNamed B.named
  have hlocks := B.notSynchronized
  subst hsz
  have hD := pw_selfD (sz := s.heap.size) hD0
  have hA : ∀ q : Nat, s.heap.size ≤ q → pw_A L s.heap.size q := fun q h => Or.inr h
  have hS : va_S (pw_A L s.heap.size) s.heap s.heap [] := va_S.rf
  have hl := lv_entry ([.ref q, .int t]) (n := 4) (Nat.le_of_ble_eq_true rfl)
  rw [lg_entry_eq]
  generalize (lg_sl ([.ref q, .int t]) ++ List.replicate (4 - (lg_sl ([.ref q, .int t])).length) Slot.unset).toArray = ls at hl ⊢
  have hl : lv_has ls 4 [(0, .ref q), (1, .int t)] := hl
  obtain ⟨⟨m0, m1, m2, m3⟩, ⟨e0, e1, e2, e3⟩, n12, n13, n23⟩ := hN
  refine lv_iconst (v := 0) hx hb dX1_agreeSilently_0 (by decide) ?_
  refine lv_istore_n (lv' := [(2, .int 0), (0, .ref q), (1, .int t)]) hx hb dX1_agreeSilently_1 rfl hl (by decide) rfl (fun ls hl => ?_)
  refine lv_iconst (v := 0) hx hb dX1_agreeSilently_2 (by decide) ?_
  refine lv_istore_n (lv' := [(3, .int 0), (2, .int 0), (0, .ref q), (1, .int t)]) hx hb dX1_agreeSilently_3 rfl hl (by decide) rfl (fun ls hl => ?_)
  have hf0 : f = va_up f q1 (.inl (cs 0, 6, .inl (sp_sil ao dy t an 0).1)) := by
    funext b
    by_cases hb1 : b = q1
    · rw [hb1, va_up_self, e1]; rfl
    · rw [va_up_ne _ _ hb1]
  refine pc_loop (σ := Nat) (nL := 4) (fun k => 6 - k) (fun k => k ≤ 6) (fun k => (L, va_up f q1 (.inl (cs 0, 6, .inl (sp_sil ao dy t an k).1)))) (fun k => [(3, .int (nI k)), (2, .int (nI (sp_sil ao dy t an k).2)), (0, .ref q), (1, .int t)]) ?_ 0 (by omega) (by rw [← hf0]; exact hP) (by rw [← hf0]; exact hD) hS ls (lv_sub hl [0, 1, 2, 3] rfl)
  intro k hk ih H locs ls hP hD hS hl
  obtain ⟨fk, efk⟩ : ∃ zz : Nat → va_E, zz = va_up f q1 (.inl (cs 0, 6, .inl (sp_sil ao dy t an k).1)) := ⟨_, rfl⟩
  have hP : va_P G vwCl (va_pl L fk) H := by rw [efk]; exact hP
  have hD : va_D (pw_A L s.heap.size) (va_pl L fk) := by rw [efk]; exact hD
  have k0 := (show fk q = f q by rw [efk]; exact va_up_ne _ _ (pe_ro e0 e1)).trans e0
  have k1 : fk q1 = .inl (cs 0, 6, .inl (sp_sil ao dy t an k).1) := by rw [efk]; exact va_up_self _ _ _
  have k2 := (show fk q2 = f q2 by rw [efk]; exact va_up_ne _ _ (Ne.symm n12)).trans e2
  have k3 := (show fk q3 = f q3 by rw [efk]; exact va_up_ne _ _ (Ne.symm n13)).trans e3
  refine lv_iload_n hx hb dX1_agreeSilently_4 rfl (lv_at hl 0 rfl) ?_
  refine lv_bipush (v := 6) hx hb dX1_agreeSilently_5 (by decide) ?_
  refine lv_icmp_ge (tgt := 53) hx hb dX1_agreeSilently_7 (by decide) (fun c_7 => ?_) (fun c_7 => ?_)
  · have hk6 : k = 6 := Nat.le_antisymm hk (nI_of_le (b := 6) c_7 (by decide))
    subst hk6
    refine lv_iload_n hx hb dX1_agreeSilently_53 rfl (lv_at hl 1 rfl) ?_
    exact pc_reti hx hb hr hlocks hP hD hS dX1_agreeSilently_54 rfl
  · have hk6 : k < 6 := nI_of_ge (b := 6) c_7 (by omega)
    refine lv_aload_n hx hb dX1_agreeSilently_10 rfl (lv_at hl 2 rfl) ?_
    refine pw_get (ci := 1) (C := RX1) (T := TX1) (N := 7) hx hb hts inX1 hown hK hP m0 k0 rfl 3 (by decide) (hts _ mw_87) (fun _ h9 => h9) rfl dX1_agreeSilently_11 ?_
    refine lv_iload_n hx hb dX1_agreeSilently_14 rfl (lv_at hl 0 rfl) ?_
    refine pw_ialdN (k := k) hx hb hK hP m1 0 k1 rfl hk6 (by decide) dX1_agreeSilently_15 ?_
    refine lv_iconst (v := 1) hx hb dX1_agreeSilently_16 (by decide) ?_
    refine lv_icmp_ne (tgt := 47) hx hb dX1_agreeSilently_17 (by decide) (fun c_17 => ?_) (fun c_17 => ?_)
    · obtain ⟨z_1, ez_1⟩ : ∃ z : Int32, z = (nI k) + 1 := ⟨_, rfl⟩
      refine lv_iinc (v := z_1) (lv' := [(3, .int z_1), (2, .int (nI (sp_sil ao dy t an k).2)), (0, .ref q), (1, .int t)]) hx hb dX1_agreeSilently_47 hl (k := 0) rfl (by rw [ez_1]; rfl) (by decide) rfl (fun ls hl => ?_)
      refine lv_goto (tgt := 4) hx hb dX1_agreeSilently_50 (by decide) ?_
      obtain rfl : z_1 = nI (k + 1) := by rw [ez_1]; exact nI_1 k
      have hsl : sp_sil ao dy t an (k + 1) = sp_sil ao dy t an k := by simp [sp_sil, c_7, c_17]
      have hfe : fk = va_up f q1 (.inl (cs 0, 6, .inl (sp_sil ao dy t an (k + 1)).1)) := by rw [hsl, efk]
      rw [← hsl] at hl
      rw [hfe] at hP hD
      exact ih (k + 1) (by omega) (by omega) _ _ ls hP hD hS (lv_sub hl [0, 1, 2, 3] rfl)
    · refine lv_iload_n hx hb dX1_agreeSilently_20 rfl (lv_at hl 3 rfl) ?_
      refine lv_aload_n hx hb dX1_agreeSilently_21 rfl (lv_at hl 2 rfl) ?_
      refine pw_get (ci := 1) (C := RX1) (T := TX1) (N := 7) hx hb hts inX1 hown hK hP m0 k0 rfl 4 (by decide) (hts _ mw_88) (fun _ h9 => h9) rfl dX1_agreeSilently_22 ?_
      refine lv_iload_n hx hb dX1_agreeSilently_25 rfl (lv_at hl 0 rfl) ?_
      refine pw_ialdN (k := k) hx hb hK hP m2 0 k2 rfl hk6 (by decide) dX1_agreeSilently_26 ?_
      refine lv_isub hx hb dX1_agreeSilently_27 ?_
      refine lv_aload_n hx hb dX1_agreeSilently_28 rfl (lv_at hl 2 rfl) ?_
      refine pw_get (ci := 1) (C := RX1) (T := TX1) (N := 7) hx hb hts inX1 hown hK hP m0 k0 rfl 5 (by decide) (hts _ mw_89) (fun _ h9 => h9) rfl dX1_agreeSilently_29 ?_
      refine lv_iload_n hx hb dX1_agreeSilently_32 rfl (lv_at hl 0 rfl) ?_
      refine pw_ialdN (k := k) hx hb hK hP m3 0 k3 rfl hk6 (by decide) dX1_agreeSilently_33 ?_
      refine lv_icmp_le (tgt := 47) hx hb dX1_agreeSilently_34 (by decide) (fun c_34 => ?_) (fun c_34 => ?_)
      · obtain ⟨z_2, ez_2⟩ : ∃ z : Int32, z = (nI k) + 1 := ⟨_, rfl⟩
        refine lv_iinc (v := z_2) (lv' := [(3, .int z_2), (2, .int (nI (sp_sil ao dy t an k).2)), (0, .ref q), (1, .int t)]) hx hb dX1_agreeSilently_47 hl (k := 0) rfl (by rw [ez_2]; rfl) (by decide) rfl (fun ls hl => ?_)
        refine lv_goto (tgt := 4) hx hb dX1_agreeSilently_50 (by decide) ?_
        obtain rfl : z_2 = nI (k + 1) := by rw [ez_2]; exact nI_1 k
        have hsl : sp_sil ao dy t an (k + 1) = sp_sil ao dy t an k := by simp [sp_sil, c_7, c_17, c_34]
        have hfe : fk = va_up f q1 (.inl (cs 0, 6, .inl (sp_sil ao dy t an (k + 1)).1)) := by rw [hsl, efk]
        rw [← hsl] at hl
        rw [hfe] at hP hD
        exact ih (k + 1) (by omega) (by omega) _ _ ls hP hD hS (lv_sub hl [0, 1, 2, 3] rfl)
      · refine lv_aload_n hx hb dX1_agreeSilently_37 rfl (lv_at hl 2 rfl) ?_
        refine pw_get (ci := 1) (C := RX1) (T := TX1) (N := 7) hx hb hts inX1 hown hK hP m0 k0 rfl 3 (by decide) (hts _ mw_87) (fun _ h9 => h9) rfl dX1_agreeSilently_38 ?_
        refine lv_iload_n hx hb dX1_agreeSilently_41 rfl (lv_at hl 0 rfl) ?_
        refine lv_iconst (v := 2) hx hb dX1_agreeSilently_42 (by decide) ?_
        refine pw_iastN (k := k) hx hb hK hP hD hS m1 0 k1 rfl hk6 (by decide) dX1_agreeSilently_43 (fun H locs hP hD hS => ?_)
        obtain ⟨f_3, ef_3⟩ : ∃ zz : Nat → va_E, zz = va_up fk q1 (.inl (cs 0, 6, .inl (upd ((sp_sil ao dy t an k).1) k 2))) := ⟨_, rfl⟩
        have hP : va_P G vwCl (va_pl L f_3) H := by rw [ef_3]; exact hP
        have hD : va_D (pw_A L s.heap.size) (va_pl L f_3) := by rw [ef_3]; exact hD
        have hf_3_q := (show f_3 q = fk q by rw [ef_3]; exact va_up_ne _ _ (pe_ro e0 e1)).trans k0
        have hf_3_q1 : f_3 q1 = .inl (cs 0, 6, .inl (upd ((sp_sil ao dy t an k).1) k 2)) := by rw [ef_3]; exact va_up_self _ _ _
        have hf_3_q2 := (show f_3 q2 = fk q2 by rw [ef_3]; exact va_up_ne _ _ (Ne.symm n12)).trans k2
        have hf_3_q3 := (show f_3 q3 = fk q3 by rw [ef_3]; exact va_up_ne _ _ (Ne.symm n13)).trans k3
        obtain ⟨z_4, ez_4⟩ : ∃ z : Int32, z = (nI (sp_sil ao dy t an k).2) + 1 := ⟨_, rfl⟩
        refine lv_iinc (v := z_4) (lv' := [(2, .int z_4), (3, .int (nI k)), (0, .ref q), (1, .int t)]) hx hb dX1_agreeSilently_44 hl (k := 1) rfl (by rw [ez_4]; rfl) (by decide) rfl (fun ls hl => ?_)
        obtain ⟨z_5, ez_5⟩ : ∃ z : Int32, z = (nI k) + 1 := ⟨_, rfl⟩
        refine lv_iinc (v := z_5) (lv' := [(3, .int z_5), (2, .int z_4), (0, .ref q), (1, .int t)]) hx hb dX1_agreeSilently_47 hl (k := 1) rfl (by rw [ez_5]; rfl) (by decide) rfl (fun ls hl => ?_)
        refine lv_goto (tgt := 4) hx hb dX1_agreeSilently_50 (by decide) ?_
        obtain rfl : z_5 = nI (k + 1) := by rw [ez_5]; exact nI_1 k
        have hsl : sp_sil ao dy t an (k + 1) = (upd (sp_sil ao dy t an k).1 k 2, (sp_sil ao dy t an k).2 + 1) := by simp [sp_sil, c_7, c_17, c_34]
        obtain rfl : z_4 = nI (sp_sil ao dy t an (k + 1)).2 := by rw [ez_4, nI_1, hsl]
        have hfe : f_3 = va_up f q1 (.inl (cs 0, 6, .inl (sp_sil ao dy t an (k + 1)).1)) := by rw [ef_3, efk, hsl, bx_uu]
        rw [hfe] at hP hD
        exact ih (k + 1) (by omega) (by omega) _ _ ls hP hD hS (lv_sub hl [0, 1, 2, 3] rfl)

set_option maxHeartbeats 4000000 in
set_option maxRecDepth 100000 in
theorem k_N_init (l : Launch) (G : va_G) (cs : Nat → ClassId) (L : List Nat) (f : Nat → va_E) (sz : Nat) (q : Nat) (g : Int64) (fr to : Int32) (hq0 : q ∈ L) (he0 : f q = .inr (1, [.long 0, .int 0, .int 0, .null, .null, .null, .long 0])) : Met l yX1_init (Cond.code yX1_init cX1_init 5 none :: wg) ({ frames := 1, cells := 3, slots := 18, locals := 12 }) (pc_P [.ref q, .long g, .int fr, .int to] G vwCl (tyl cs) L f sz (fun _ => True)) (va_Qv (fun u => ∃ q1 q2 q3, q1 ∉ L ∧ q2 ∉ L ∧ q3 ∉ L ∧ (∀ a ∈ L, a ∈ u.1) ∧ (∀ a, a ∈ L → a ≠ q → u.2 a = f a) ∧ NT cs u.1 u.2 q q1 q2 q3 g fr to (fun _ => 0) (fun _ => 0) (fun _ => 0) 0) (pc_B G vwCl L sz) (pw_A L sz)) 3 18 (pw_A L sz) := by
  refine Met.ofW (cc := cX1_init) (maxL := 5) (ret := none) (by decide) rfl ?_
  intro p e s m args below meth c s₁ B hml hv
  obtain ⟨rfl, hsz, hP, hK, hD0, hX⟩ := hv
  have hx := B.exec
  have hb := B.bytes
  have hr := B.returns
  have hts0 := atoms_spec (ws := (Cond.code yX1_init cX1_init 5 none :: wg)) B.pre
  have hts := fun (w : Cond) (h : w ∈ wg) => hts0 w (List.mem_cons_of_mem _ h)
  have hown : s.vm.findClass RX1 = some m.cls := findClass_of_methodNamed B.named
  have hlocks := B.notSynchronized
  have hin : meth.name = "<init>" := (name_of_methodNamed B.named B.method).1
  subst hsz
  have hD := pw_selfD (sz := s.heap.size) hD0
  have hA : ∀ q : Nat, s.heap.size ≤ q → pw_A L s.heap.size q := fun q h => Or.inr h
  have hS : va_S (pw_A L s.heap.size) s.heap s.heap [] := va_S.rf
  have hl := lv_entry ([.ref q, .long g, .int fr, .int to]) (n := 5) (Nat.le_of_ble_eq_true rfl)
  rw [lg_entry_eq]
  generalize (lg_sl ([.ref q, .long g, .int fr, .int to]) ++ List.replicate (5 - (lg_sl ([.ref q, .long g, .int fr, .int to])).length) Slot.unset).toArray = ls at hl ⊢
  have hl : lv_has ls 5 [(0, .ref q), (1, .long g), (3, .int fr), (4, .int to)] := hl
  refine lv_aload_n hx hb dX1_init_0 rfl (lv_at hl 0 rfl) ?_
  refine W.objInit hx hb hown (hts _ mw_80) (hts _ mw_12) (hts _ mw_obj) rfl (by rw [hml]; exact hl.1) rfl dX1_init_1 (Nat.le_of_ble_eq_true rfl) (Nat.le_of_ble_eq_true rfl) ?_
  refine W.eq (g2 := F0 m 4 ls []) rfl ?_
  refine lv_aload_n hx hb dX1_init_4 rfl (lv_at hl 0 rfl) ?_
  refine lv_bipush (v := 6) hx hb dX1_init_5 (by decide) ?_
  refine pw_newa (atype := .int) (ty := .int) (a0 := (6, .inl (fun _ => 0))) hx hb (hts _ mw_106) rfl hK hP hD hS hA 0 rfl (fun _ h => h) (fun _ => rfl) (by decide) (by decide) (by decide) (Nat.le_of_ble_eq_true rfl) (Nat.le_of_ble_eq_true rfl) dX1_init_7 (fun q_2 H hq_2 hP hD hS => ?_)
  refine W.widen (k := 1) (n := 6) (Nat.le_refl _) (Nat.le_of_ble_eq_true rfl) ?_
  obtain ⟨f_1, ef_1⟩ : ∃ zz : Nat → va_E, zz = va_up f q_2 (.inl (cs 0, 6, .inl (fun _ => 0))) := ⟨_, rfl⟩
  have hP : va_P G vwCl (va_pl (L ++ [q_2]) f_1) H := by rw [ef_1]; exact hP
  have hD : va_D (pw_A L s.heap.size) (va_pl (L ++ [q_2]) f_1) := by rw [ef_1]; exact hD
  have mf_1_q : q ∈ (L ++ [q_2]) := List.mem_append_left _ hq0
  have hf_1_q := (show f_1 q = f q by rw [ef_1]; exact va_up_ne _ _ (fun h => hq_2 (h ▸ hq0))).trans he0
  have mf_1_q_2 : q_2 ∈ (L ++ [q_2]) := List.mem_append_right _ (List.mem_singleton.mpr rfl)
  have hf_1_q_2 : f_1 q_2 = .inl (cs 0, 6, .inl (fun _ => 0)) := by rw [ef_1]; exact va_up_self _ _ _
  refine pw_putF (ty := .array .int) (ci := 1) (v := .ref q_2) (C := RX1) (T := TX1) (N := 7) hx hb hts inX1 tyX1 tyX1_ok nmX1 hown hK hP hD hS mf_1_q hf_1_q rfl 3 (by decide) (hts _ mw_87) (fun _ h9 => h9) rfl hin rfl (by decide +kernel) rfl rfl (Nat.le_of_ble_eq_true rfl) dX1_init_9 (fun H locs hP hD hS => ?_)
  obtain ⟨f_3, ef_3⟩ : ∃ zz : Nat → va_E, zz = va_up f_1 q (.inr (1, [.long 0, .int 0, .int 0, .ref q_2, .null, .null, .long 0])) := ⟨_, rfl⟩
  have hP : va_P G vwCl (va_pl (L ++ [q_2]) f_3) H := by rw [ef_3]; exact hP
  have hD : va_D (pw_A L s.heap.size) (va_pl (L ++ [q_2]) f_3) := by rw [ef_3]; exact hD
  have hf_3_q : f_3 q = .inr (1, [.long 0, .int 0, .int 0, .ref q_2, .null, .null, .long 0]) := by rw [ef_3]; exact va_up_self _ _ _
  have hf_3_q_2 := (show f_3 q_2 = f_1 q_2 by rw [ef_3]; exact va_up_ne _ _ (pe_ro hf_1_q hf_1_q_2).symm).trans hf_1_q_2
  refine lv_aload_n hx hb dX1_init_12 rfl (lv_at hl 0 rfl) ?_
  refine lv_bipush (v := 6) hx hb dX1_init_13 (by decide) ?_
  refine pw_newa (atype := .int) (ty := .int) (a0 := (6, .inl (fun _ => 0))) hx hb (hts _ mw_106) rfl hK hP hD hS hA 0 rfl (fun _ h => h) (fun _ => rfl) (by decide) (by decide) (by decide) (Nat.le_of_ble_eq_true rfl) (Nat.le_of_ble_eq_true rfl) dX1_init_15 (fun q_5 H hq_5 hP hD hS => ?_)
  refine W.widen (k := 2) (n := 12) (Nat.le_refl _) (Nat.le_of_ble_eq_true rfl) ?_
  obtain ⟨f_4, ef_4⟩ : ∃ zz : Nat → va_E, zz = va_up f_3 q_5 (.inl (cs 0, 6, .inl (fun _ => 0))) := ⟨_, rfl⟩
  have hP : va_P G vwCl (va_pl ((L ++ [q_2]) ++ [q_5]) f_4) H := by rw [ef_4]; exact hP
  have hD : va_D (pw_A L s.heap.size) (va_pl ((L ++ [q_2]) ++ [q_5]) f_4) := by rw [ef_4]; exact hD
  have mf_4_q : q ∈ ((L ++ [q_2]) ++ [q_5]) := List.mem_append_left _ mf_1_q
  have hf_4_q := (show f_4 q = f_3 q by rw [ef_4]; exact va_up_ne _ _ (fun h => hq_5 (h ▸ mf_1_q))).trans hf_3_q
  have mf_4_q_2 : q_2 ∈ ((L ++ [q_2]) ++ [q_5]) := List.mem_append_left _ mf_1_q_2
  have hf_4_q_2 := (show f_4 q_2 = f_3 q_2 by rw [ef_4]; exact va_up_ne _ _ (fun h => hq_5 (h ▸ mf_1_q_2))).trans hf_3_q_2
  have mf_4_q_5 : q_5 ∈ ((L ++ [q_2]) ++ [q_5]) := List.mem_append_right _ (List.mem_singleton.mpr rfl)
  have hf_4_q_5 : f_4 q_5 = .inl (cs 0, 6, .inl (fun _ => 0)) := by rw [ef_4]; exact va_up_self _ _ _
  refine pw_putF (ty := .array .int) (ci := 1) (v := .ref q_5) (C := RX1) (T := TX1) (N := 7) hx hb hts inX1 tyX1 tyX1_ok nmX1 hown hK hP hD hS mf_4_q hf_4_q rfl 4 (by decide) (hts _ mw_88) (fun _ h9 => h9) rfl hin rfl (by decide +kernel) rfl rfl (Nat.le_of_ble_eq_true rfl) dX1_init_17 (fun H locs hP hD hS => ?_)
  obtain ⟨f_6, ef_6⟩ : ∃ zz : Nat → va_E, zz = va_up f_4 q (.inr (1, [.long 0, .int 0, .int 0, .ref q_2, .ref q_5, .null, .long 0])) := ⟨_, rfl⟩
  have hP : va_P G vwCl (va_pl ((L ++ [q_2]) ++ [q_5]) f_6) H := by rw [ef_6]; exact hP
  have hD : va_D (pw_A L s.heap.size) (va_pl ((L ++ [q_2]) ++ [q_5]) f_6) := by rw [ef_6]; exact hD
  have hf_6_q : f_6 q = .inr (1, [.long 0, .int 0, .int 0, .ref q_2, .ref q_5, .null, .long 0]) := by rw [ef_6]; exact va_up_self _ _ _
  have hf_6_q_2 := (show f_6 q_2 = f_4 q_2 by rw [ef_6]; exact va_up_ne _ _ (pe_ro hf_4_q hf_4_q_2).symm).trans hf_4_q_2
  have hf_6_q_5 := (show f_6 q_5 = f_4 q_5 by rw [ef_6]; exact va_up_ne _ _ (pe_ro hf_4_q hf_4_q_5).symm).trans hf_4_q_5
  refine lv_aload_n hx hb dX1_init_20 rfl (lv_at hl 0 rfl) ?_
  refine lv_bipush (v := 6) hx hb dX1_init_21 (by decide) ?_
  refine pw_newa (atype := .int) (ty := .int) (a0 := (6, .inl (fun _ => 0))) hx hb (hts _ mw_106) rfl hK hP hD hS hA 0 rfl (fun _ h => h) (fun _ => rfl) (by decide) (by decide) (by decide) (Nat.le_of_ble_eq_true rfl) (Nat.le_of_ble_eq_true rfl) dX1_init_23 (fun q_8 H hq_8 hP hD hS => ?_)
  refine W.widen (k := 3) (n := 18) (Nat.le_refl _) (Nat.le_of_ble_eq_true rfl) ?_
  obtain ⟨f_7, ef_7⟩ : ∃ zz : Nat → va_E, zz = va_up f_6 q_8 (.inl (cs 0, 6, .inl (fun _ => 0))) := ⟨_, rfl⟩
  have hP : va_P G vwCl (va_pl (((L ++ [q_2]) ++ [q_5]) ++ [q_8]) f_7) H := by rw [ef_7]; exact hP
  have hD : va_D (pw_A L s.heap.size) (va_pl (((L ++ [q_2]) ++ [q_5]) ++ [q_8]) f_7) := by rw [ef_7]; exact hD
  have mf_7_q : q ∈ (((L ++ [q_2]) ++ [q_5]) ++ [q_8]) := List.mem_append_left _ mf_4_q
  have hf_7_q := (show f_7 q = f_6 q by rw [ef_7]; exact va_up_ne _ _ (fun h => hq_8 (h ▸ mf_4_q))).trans hf_6_q
  have mf_7_q_2 : q_2 ∈ (((L ++ [q_2]) ++ [q_5]) ++ [q_8]) := List.mem_append_left _ mf_4_q_2
  have hf_7_q_2 := (show f_7 q_2 = f_6 q_2 by rw [ef_7]; exact va_up_ne _ _ (fun h => hq_8 (h ▸ mf_4_q_2))).trans hf_6_q_2
  have mf_7_q_5 : q_5 ∈ (((L ++ [q_2]) ++ [q_5]) ++ [q_8]) := List.mem_append_left _ mf_4_q_5
  have hf_7_q_5 := (show f_7 q_5 = f_6 q_5 by rw [ef_7]; exact va_up_ne _ _ (fun h => hq_8 (h ▸ mf_4_q_5))).trans hf_6_q_5
  have mf_7_q_8 : q_8 ∈ (((L ++ [q_2]) ++ [q_5]) ++ [q_8]) := List.mem_append_right _ (List.mem_singleton.mpr rfl)
  have hf_7_q_8 : f_7 q_8 = .inl (cs 0, 6, .inl (fun _ => 0)) := by rw [ef_7]; exact va_up_self _ _ _
  refine pw_putF (ty := .array .int) (ci := 1) (v := .ref q_8) (C := RX1) (T := TX1) (N := 7) hx hb hts inX1 tyX1 tyX1_ok nmX1 hown hK hP hD hS mf_7_q hf_7_q rfl 5 (by decide) (hts _ mw_89) (fun _ h9 => h9) rfl hin rfl (by decide +kernel) rfl rfl (Nat.le_of_ble_eq_true rfl) dX1_init_25 (fun H locs hP hD hS => ?_)
  obtain ⟨f_9, ef_9⟩ : ∃ zz : Nat → va_E, zz = va_up f_7 q (.inr (1, [.long 0, .int 0, .int 0, .ref q_2, .ref q_5, .ref q_8, .long 0])) := ⟨_, rfl⟩
  have hP : va_P G vwCl (va_pl (((L ++ [q_2]) ++ [q_5]) ++ [q_8]) f_9) H := by rw [ef_9]; exact hP
  have hD : va_D (pw_A L s.heap.size) (va_pl (((L ++ [q_2]) ++ [q_5]) ++ [q_8]) f_9) := by rw [ef_9]; exact hD
  have hf_9_q : f_9 q = .inr (1, [.long 0, .int 0, .int 0, .ref q_2, .ref q_5, .ref q_8, .long 0]) := by rw [ef_9]; exact va_up_self _ _ _
  have hf_9_q_2 := (show f_9 q_2 = f_7 q_2 by rw [ef_9]; exact va_up_ne _ _ (pe_ro hf_7_q hf_7_q_2).symm).trans hf_7_q_2
  have hf_9_q_5 := (show f_9 q_5 = f_7 q_5 by rw [ef_9]; exact va_up_ne _ _ (pe_ro hf_7_q hf_7_q_5).symm).trans hf_7_q_5
  have hf_9_q_8 := (show f_9 q_8 = f_7 q_8 by rw [ef_9]; exact va_up_ne _ _ (pe_ro hf_7_q hf_7_q_8).symm).trans hf_7_q_8
  refine lv_aload_n hx hb dX1_init_28 rfl (lv_at hl 0 rfl) ?_
  refine lv_lload_n hx hb dX1_init_29 rfl (lv_at hl 1 rfl) ?_
  refine pw_putF (ty := .long) (ci := 1) (v := .long g) (C := RX1) (T := TX1) (N := 7) hx hb hts inX1 tyX1 tyX1_ok nmX1 hown hK hP hD hS mf_7_q hf_9_q rfl 0 (by decide) (hts _ mw_81) (fun _ h9 => h9) rfl hin rfl (by decide +kernel) rfl rfl (Nat.le_of_ble_eq_true rfl) dX1_init_30 (fun H locs hP hD hS => ?_)
  obtain ⟨f_10, ef_10⟩ : ∃ zz : Nat → va_E, zz = va_up f_9 q (.inr (1, [.long g, .int 0, .int 0, .ref q_2, .ref q_5, .ref q_8, .long 0])) := ⟨_, rfl⟩
  have hP : va_P G vwCl (va_pl (((L ++ [q_2]) ++ [q_5]) ++ [q_8]) f_10) H := by rw [ef_10]; exact hP
  have hD : va_D (pw_A L s.heap.size) (va_pl (((L ++ [q_2]) ++ [q_5]) ++ [q_8]) f_10) := by rw [ef_10]; exact hD
  have hf_10_q : f_10 q = .inr (1, [.long g, .int 0, .int 0, .ref q_2, .ref q_5, .ref q_8, .long 0]) := by rw [ef_10]; exact va_up_self _ _ _
  have hf_10_q_2 := (show f_10 q_2 = f_9 q_2 by rw [ef_10]; exact va_up_ne _ _ (pe_ro hf_9_q hf_9_q_2).symm).trans hf_9_q_2
  have hf_10_q_5 := (show f_10 q_5 = f_9 q_5 by rw [ef_10]; exact va_up_ne _ _ (pe_ro hf_9_q hf_9_q_5).symm).trans hf_9_q_5
  have hf_10_q_8 := (show f_10 q_8 = f_9 q_8 by rw [ef_10]; exact va_up_ne _ _ (pe_ro hf_9_q hf_9_q_8).symm).trans hf_9_q_8
  refine lv_aload_n hx hb dX1_init_33 rfl (lv_at hl 0 rfl) ?_
  refine lv_iload_n hx hb dX1_init_34 rfl (lv_at hl 2 rfl) ?_
  refine pw_putF (ty := .int) (ci := 1) (v := .int fr) (C := RX1) (T := TX1) (N := 7) hx hb hts inX1 tyX1 tyX1_ok nmX1 hown hK hP hD hS mf_7_q hf_10_q rfl 1 (by decide) (hts _ mw_83) (fun _ h9 => h9) rfl hin rfl (by decide +kernel) rfl rfl (Nat.le_of_ble_eq_true rfl) dX1_init_35 (fun H locs hP hD hS => ?_)
  obtain ⟨f_11, ef_11⟩ : ∃ zz : Nat → va_E, zz = va_up f_10 q (.inr (1, [.long g, .int fr, .int 0, .ref q_2, .ref q_5, .ref q_8, .long 0])) := ⟨_, rfl⟩
  have hP : va_P G vwCl (va_pl (((L ++ [q_2]) ++ [q_5]) ++ [q_8]) f_11) H := by rw [ef_11]; exact hP
  have hD : va_D (pw_A L s.heap.size) (va_pl (((L ++ [q_2]) ++ [q_5]) ++ [q_8]) f_11) := by rw [ef_11]; exact hD
  have hf_11_q : f_11 q = .inr (1, [.long g, .int fr, .int 0, .ref q_2, .ref q_5, .ref q_8, .long 0]) := by rw [ef_11]; exact va_up_self _ _ _
  have hf_11_q_2 := (show f_11 q_2 = f_10 q_2 by rw [ef_11]; exact va_up_ne _ _ (pe_ro hf_10_q hf_10_q_2).symm).trans hf_10_q_2
  have hf_11_q_5 := (show f_11 q_5 = f_10 q_5 by rw [ef_11]; exact va_up_ne _ _ (pe_ro hf_10_q hf_10_q_5).symm).trans hf_10_q_5
  have hf_11_q_8 := (show f_11 q_8 = f_10 q_8 by rw [ef_11]; exact va_up_ne _ _ (pe_ro hf_10_q hf_10_q_8).symm).trans hf_10_q_8
  refine lv_aload_n hx hb dX1_init_38 rfl (lv_at hl 0 rfl) ?_
  refine lv_iload hx hb dX1_init_39 (lv_at hl 3 rfl) ?_
  refine pw_putF (ty := .int) (ci := 1) (v := .int to) (C := RX1) (T := TX1) (N := 7) hx hb hts inX1 tyX1 tyX1_ok nmX1 hown hK hP hD hS mf_7_q hf_11_q rfl 2 (by decide) (hts _ mw_85) (fun _ h9 => h9) rfl hin rfl (by decide +kernel) rfl rfl (Nat.le_of_ble_eq_true rfl) dX1_init_41 (fun H locs hP hD hS => ?_)
  obtain ⟨f_12, ef_12⟩ : ∃ zz : Nat → va_E, zz = va_up f_11 q (.inr (1, [.long g, .int fr, .int to, .ref q_2, .ref q_5, .ref q_8, .long 0])) := ⟨_, rfl⟩
  have hP : va_P G vwCl (va_pl (((L ++ [q_2]) ++ [q_5]) ++ [q_8]) f_12) H := by rw [ef_12]; exact hP
  have hD : va_D (pw_A L s.heap.size) (va_pl (((L ++ [q_2]) ++ [q_5]) ++ [q_8]) f_12) := by rw [ef_12]; exact hD
  have hf_12_q : f_12 q = .inr (1, [.long g, .int fr, .int to, .ref q_2, .ref q_5, .ref q_8, .long 0]) := by rw [ef_12]; exact va_up_self _ _ _
  have hf_12_q_2 := (show f_12 q_2 = f_11 q_2 by rw [ef_12]; exact va_up_ne _ _ (pe_ro hf_11_q hf_11_q_2).symm).trans hf_11_q_2
  have hf_12_q_5 := (show f_12 q_5 = f_11 q_5 by rw [ef_12]; exact va_up_ne _ _ (pe_ro hf_11_q hf_11_q_5).symm).trans hf_11_q_5
  have hf_12_q_8 := (show f_12 q_8 = f_11 q_8 by rw [ef_12]; exact va_up_ne _ _ (pe_ro hf_11_q hf_11_q_8).symm).trans hf_11_q_8
  have hfr : ∀ a, a ∈ L → a ≠ q → f_12 a = f a := by
    intro a ha haq
    rw [ef_12, va_up_ne _ _ haq, ef_11, va_up_ne _ _ haq, ef_10, va_up_ne _ _ haq, ef_9, va_up_ne _ _ haq, ef_7, va_up_ne _ _ (show a ≠ q_8 from fun h => hq_8 (h ▸ List.mem_append_left _ (List.mem_append_left _ (ha)))), ef_6, va_up_ne _ _ haq, ef_4, va_up_ne _ _ (show a ≠ q_5 from fun h => hq_5 (h ▸ List.mem_append_left _ (ha))), ef_3, va_up_ne _ _ haq, ef_1, va_up_ne _ _ (show a ≠ q_2 from fun h => hq_2 (h ▸ ha))]
  have hN : NT cs (((L ++ [q_2]) ++ [q_5]) ++ [q_8]) f_12 q q_2 q_5 q_8 g fr to (fun _ => 0) (fun _ => 0) (fun _ => 0) 0 := ⟨⟨mf_7_q, mf_7_q_2, mf_7_q_5, mf_7_q_8⟩, ⟨hf_12_q, hf_12_q_2, hf_12_q_5, hf_12_q_8⟩, (fun h => hq_5 (h ▸ List.mem_append_right _ (List.mem_singleton.mpr rfl))), (fun h => hq_8 (h ▸ List.mem_append_left _ (List.mem_append_right _ (List.mem_singleton.mpr rfl)))), (fun h => hq_8 (h ▸ List.mem_append_right _ (List.mem_singleton.mpr rfl)))⟩
  exact pc_retv hx hb hr hlocks hP hD hS dX1_init_44 ⟨q_2, q_5, q_8, fun h => hq_2 h, fun h => hq_5 (List.mem_append_left _ h), fun h => hq_8 (List.mem_append_left _ (List.mem_append_left _ h)), fun a ha => List.mem_append_left _ (List.mem_append_left _ (List.mem_append_left _ ha)), hfr, hN⟩
