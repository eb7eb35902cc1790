/-! The reference: methods that only read. Laid by wip/gen/rreads.py. -/
theorem ld6 (a b : Nat) : (6 : Int32) * nI a + nI b = nI (6 * a + b) := by
  rw [show (6 : Int32) = nI 6 from rfl, pk_mul, nI_add]
theorem ld5 (a b : Nat) : (5 : Int32) * nI a + nI b = nI (a * 5 + b) := by
  rw [show (5 : Int32) = nI 5 from rfl, pk_mul, nI_add, Nat.mul_comm]

set_option maxHeartbeats 4000000 in
set_option maxRecDepth 100000 in
theorem k_R_isIn (l : Launch) (G : va_G) (cs : Nat → ClassId) (L : List Nat) (f : Nat → va_E) (v a b : Int64) : Met l yX4_isIn (Cond.code yX4_isIn cX4_isIn 6 (some FieldType.boolean) :: wg) ({ frames := 0, cells := 0, slots := 0, locals := 0 }) (pr_P [.long v, .long a, .long b] G vwCl (tyl cs) L f (fun _ => True)) (vp_Si (fun r => r = sR_in v a b)) 0 0 (fun _ => False) := by
  refine Met.ofW (cc := cX4_isIn) (maxL := 6) (ret := (some FieldType.boolean)) (by decide) rfl ?_
  intro p e s m args below meth c s₁ B hml hv
  obtain ⟨rfl, hP, hK, hX⟩ := hv
  have hx := B.exec
  have hb := B.bytes
  have hr := B.returns
  have hts0 := atoms_spec (ws := (Cond.code yX4_isIn cX4_isIn 6 (some FieldType.boolean) :: wg)) B.pre
  have hts := fun (w : Cond) (h : w ∈ wg) => hts0 w (List.mem_cons_of_mem _ h)
  have hown : s.vm.findClass RX4 = some m.cls := findClass_of_methodNamed B.named
  have hlocks := B.notSynchronized
  have hl := lv_entry ([.long v, .long a, .long b]) (n := 6) (Nat.le_of_ble_eq_true rfl)
  rw [lg_entry_eq]
  generalize (lg_sl ([.long v, .long a, .long b]) ++ List.replicate (6 - (lg_sl ([.long v, .long a, .long b])).length) Slot.unset).toArray = ls at hl ⊢
  have hl : lv_has ls 6 [(0, .long v), (2, .long a), (4, .long b)] := hl
  refine lv_lload_n hx hb dX4_isIn_0 rfl (lv_at hl 0 rfl) ?_
  refine lv_lload_n hx hb dX4_isIn_1 rfl (lv_at hl 1 rfl) ?_
  refine W.lcmp hx hb dX4_isIn_2 ?_
  refine lv_if_lt (tgt := 17) hx hb dX4_isIn_3 (by decide) (fun c_3 => ?_) (fun c_3 => ?_)
  · have c_3 := (lg_cmp_lt _ _).mp c_3
    refine lv_iconst (v := 0) hx hb dX4_isIn_17 (by decide) ?_
    exact pr_retz hx hb hr rfl hlocks dX4_isIn_18 (by simp [sR_in, c_3])
  · have c_3 : ¬ v < a := fun h => c_3 ((lg_cmp_lt _ _).mpr h)
    refine lv_lload_n hx hb dX4_isIn_6 rfl (lv_at hl 0 rfl) ?_
    refine lv_lload hx hb dX4_isIn_7 (lv_at hl 2 rfl) ?_
    refine W.lcmp hx hb dX4_isIn_9 ?_
    refine lv_if_gt (tgt := 17) hx hb dX4_isIn_10 (by decide) (fun c_10 => ?_) (fun c_10 => ?_)
    · have c_10 := (lg_cmp_gt _ _).mp c_10
      refine lv_iconst (v := 0) hx hb dX4_isIn_17 (by decide) ?_
      exact pr_retz hx hb hr rfl hlocks dX4_isIn_18 (by simp [sR_in, c_3, c_10])
    · have c_10 : ¬ b < v := fun h => c_10 ((lg_cmp_gt _ _).mpr h)
      refine lv_iconst (v := 1) hx hb dX4_isIn_13 (by decide) ?_
      refine lv_goto (tgt := 18) hx hb dX4_isIn_14 (by decide) ?_
      exact pr_retz hx hb hr rfl hlocks dX4_isIn_18 (by simp [sR_in, c_3, c_10])

set_option maxHeartbeats 4000000 in
set_option maxRecDepth 100000 in
theorem k_R_isN (l : Launch) (G : va_G) (cs : Nat → ClassId) (L : List Nat) (f : Nat → va_E) (ad : Nat → Nat) (t lm : Int32) (nN nM : Nat) (rs lk : Int32) (A : RA) (Bq : RB) (n : Int32) (h0 : RS cs L f ad t lm nN nM rs lk A Bq) : Met l yX4_isNotice (Cond.code yX4_isNotice cX4_isNotice 2 (some FieldType.boolean) :: wg) ({ frames := 0, cells := 0, slots := 0, locals := 0 }) (pr_P [.ref (ad 0), .int n] G vwCl (tyl cs) L f (fun _ => True)) (vp_Si (fun r => r = sp_in nN n)) 0 0 (fun _ => False) := by
  refine Met.ofW (cc := cX4_isNotice) (maxL := 2) (ret := (some FieldType.boolean)) (by decide) rfl ?_
  intro p e s m args below meth c s₁ B hml hv
  obtain ⟨rfl, hP, hK, hX⟩ := hv
  have hx := B.exec
  have hb := B.bytes
  have hr := B.returns
  have hts0 := atoms_spec (ws := (Cond.code yX4_isNotice cX4_isNotice 2 (some FieldType.boolean) :: wg)) B.pre
  have hts := fun (w : Cond) (h : w ∈ wg) => hts0 w (List.mem_cons_of_mem _ h)
  have hown : s.vm.findClass RX4 = some m.cls := findClass_of_methodNamed B.named
  have hlocks := B.notSynchronized
  have hl := lv_entry ([.ref (ad 0), .int n]) (n := 2) (Nat.le_of_ble_eq_true rfl)
  rw [lg_entry_eq]
  generalize (lg_sl ([.ref (ad 0), .int n]) ++ List.replicate (2 - (lg_sl ([.ref (ad 0), .int n])).length) Slot.unset).toArray = ls at hl ⊢
  have hl : lv_has ls 2 [(0, .ref (ad 0)), (1, .int n)] := hl
  have hN6 := h0.nN6
  have hM12 := h0.nM12
  have m0 := h0.mem 0 (by decide)
  have e0 := h0.e0
  refine lv_iload_n hx hb dX4_isNotice_0 rfl (lv_at hl 1 rfl) ?_
  refine lv_if_lt (tgt := 16) hx hb dX4_isNotice_1 (by decide) (fun c_1 => ?_) (fun c_1 => ?_)
  · refine lv_iconst (v := 0) hx hb dX4_isNotice_16 (by decide) ?_
    exact pr_retz hx hb hr rfl hlocks dX4_isNotice_17 (by simp [sp_in, c_1])
  · refine lv_iload_n hx hb dX4_isNotice_4 rfl (lv_at hl 1 rfl) ?_
    refine lv_aload_n hx hb dX4_isNotice_5 rfl (lv_at hl 0 rfl) ?_
    refine pw_get (ci := 4) (C := RX4) (T := TX4) (N := 23) hx hb hts inX4 hown hK hP m0 e0 rfl 1 (by decide) (hts _ mw_328) (fun _ h9 => h9) rfl dX4_isNotice_6 ?_
    refine lv_icmp_ge (tgt := 16) hx hb dX4_isNotice_9 (by decide) (fun c_9 => ?_) (fun c_9 => ?_)
    · refine lv_iconst (v := 0) hx hb dX4_isNotice_16 (by decide) ?_
      exact pr_retz hx hb hr rfl hlocks dX4_isNotice_17 (by simp [sp_in, c_1, c_9])
    · refine lv_iconst (v := 1) hx hb dX4_isNotice_12 (by decide) ?_
      refine lv_goto (tgt := 17) hx hb dX4_isNotice_13 (by decide) ?_
      exact pr_retz hx hb hr rfl hlocks dX4_isNotice_17 (by simp [sp_in, c_1, c_9])

set_option maxHeartbeats 4000000 in
set_option maxRecDepth 100000 in
theorem k_R_isM (l : Launch) (G : va_G) (cs : Nat → ClassId) (L : List Nat) (f : Nat → va_E) (ad : Nat → Nat) (t lm : Int32) (nN nM : Nat) (rs lk : Int32) (A : RA) (Bq : RB) (n : Int32) (h0 : RS cs L f ad t lm nN nM rs lk A Bq) : Met l yX4_isMove (Cond.code yX4_isMove cX4_isMove 2 (some FieldType.boolean) :: wg) ({ frames := 0, cells := 0, slots := 0, locals := 0 }) (pr_P [.ref (ad 0), .int n] G vwCl (tyl cs) L f (fun _ => True)) (vp_Si (fun r => r = sp_in nM n)) 0 0 (fun _ => False) := by
  refine Met.ofW (cc := cX4_isMove) (maxL := 2) (ret := (some FieldType.boolean)) (by decide) rfl ?_
  intro p e s m args below meth c s₁ B hml hv
  obtain ⟨rfl, hP, hK, hX⟩ := hv
  have hx := B.exec
  have hb := B.bytes
  have hr := B.returns
  have hts0 := atoms_spec (ws := (Cond.code yX4_isMove cX4_isMove 2 (some FieldType.boolean) :: wg)) B.pre
  have hts := fun (w : Cond) (h : w ∈ wg) => hts0 w (List.mem_cons_of_mem _ h)
  have hown : s.vm.findClass RX4 = some m.cls := findClass_of_methodNamed B.named
  have hlocks := B.notSynchronized
  have hl := lv_entry ([.ref (ad 0), .int n]) (n := 2) (Nat.le_of_ble_eq_true rfl)
  rw [lg_entry_eq]
  generalize (lg_sl ([.ref (ad 0), .int n]) ++ List.replicate (2 - (lg_sl ([.ref (ad 0), .int n])).length) Slot.unset).toArray = ls at hl ⊢
  have hl : lv_has ls 2 [(0, .ref (ad 0)), (1, .int n)] := hl
  have hN6 := h0.nN6
  have hM12 := h0.nM12
  have m0 := h0.mem 0 (by decide)
  have e0 := h0.e0
  refine lv_iload_n hx hb dX4_isMove_0 rfl (lv_at hl 1 rfl) ?_
  refine lv_if_lt (tgt := 16) hx hb dX4_isMove_1 (by decide) (fun c_1 => ?_) (fun c_1 => ?_)
  · refine lv_iconst (v := 0) hx hb dX4_isMove_16 (by decide) ?_
    exact pr_retz hx hb hr rfl hlocks dX4_isMove_17 (by simp [sp_in, c_1])
  · refine lv_iload_n hx hb dX4_isMove_4 rfl (lv_at hl 1 rfl) ?_
    refine lv_aload_n hx hb dX4_isMove_5 rfl (lv_at hl 0 rfl) ?_
    refine pw_get (ci := 4) (C := RX4) (T := TX4) (N := 23) hx hb hts inX4 hown hK hP m0 e0 rfl 10 (by decide) (hts _ mw_337) (fun _ h9 => h9) rfl dX4_isMove_6 ?_
    refine lv_icmp_ge (tgt := 16) hx hb dX4_isMove_9 (by decide) (fun c_9 => ?_) (fun c_9 => ?_)
    · refine lv_iconst (v := 0) hx hb dX4_isMove_16 (by decide) ?_
      exact pr_retz hx hb hr rfl hlocks dX4_isMove_17 (by simp [sp_in, c_1, c_9])
    · refine lv_iconst (v := 1) hx hb dX4_isMove_12 (by decide) ?_
      refine lv_goto (tgt := 17) hx hb dX4_isMove_13 (by decide) ?_
      exact pr_retz hx hb hr rfl hlocks dX4_isMove_17 (by simp [sp_in, c_1, c_9])

set_option maxHeartbeats 4000000 in
set_option maxRecDepth 100000 in
theorem k_R_isC (l : Launch) (G : va_G) (cs : Nat → ClassId) (L : List Nat) (f : Nat → va_E) (n : Int32) : Met l yX4_isCountry (Cond.code yX4_isCountry cX4_isCountry 1 (some FieldType.boolean) :: wg) ({ frames := 0, cells := 0, slots := 0, locals := 0 }) (pr_P [.int n] G vwCl (tyl cs) L f (fun _ => True)) (vp_Si (fun r => r = sp_in 6 n)) 0 0 (fun _ => False) := by
  refine Met.ofW (cc := cX4_isCountry) (maxL := 1) (ret := (some FieldType.boolean)) (by decide) rfl ?_
  intro p e s m args below meth c s₁ B hml hv
  obtain ⟨rfl, hP, hK, hX⟩ := hv
  have hx := B.exec
  have hb := B.bytes
  have hr := B.returns
  have hts0 := atoms_spec (ws := (Cond.code yX4_isCountry cX4_isCountry 1 (some FieldType.boolean) :: wg)) B.pre
  have hts := fun (w : Cond) (h : w ∈ wg) => hts0 w (List.mem_cons_of_mem _ h)
  have hown : s.vm.findClass RX4 = some m.cls := findClass_of_methodNamed B.named
  have hlocks := B.notSynchronized
  have hl := lv_entry ([.int n]) (n := 1) (Nat.le_of_ble_eq_true rfl)
  rw [lg_entry_eq]
  generalize (lg_sl ([.int n]) ++ List.replicate (1 - (lg_sl ([.int n])).length) Slot.unset).toArray = ls at hl ⊢
  have hl : lv_has ls 1 [(0, .int n)] := hl
  refine lv_iload_n hx hb dX4_isCountry_0 rfl (lv_at hl 0 rfl) ?_
  refine lv_if_lt (tgt := 14) hx hb dX4_isCountry_1 (by decide) (fun c_1 => ?_) (fun c_1 => ?_)
  · refine lv_iconst (v := 0) hx hb dX4_isCountry_14 (by decide) ?_
    exact pr_retz hx hb hr rfl hlocks dX4_isCountry_15 (by simp [sp_in, show nI 6 = 6 from rfl, c_1])
  · refine lv_iload_n hx hb dX4_isCountry_4 rfl (lv_at hl 0 rfl) ?_
    refine lv_bipush (v := 6) hx hb dX4_isCountry_5 (by decide) ?_
    refine lv_icmp_ge (tgt := 14) hx hb dX4_isCountry_7 (by decide) (fun c_7 => ?_) (fun c_7 => ?_)
    · refine lv_iconst (v := 0) hx hb dX4_isCountry_14 (by decide) ?_
      exact pr_retz hx hb hr rfl hlocks dX4_isCountry_15 (by simp [sp_in, show nI 6 = 6 from rfl, c_1, c_7])
    · refine lv_iconst (v := 1) hx hb dX4_isCountry_10 (by decide) ?_
      refine lv_goto (tgt := 15) hx hb dX4_isCountry_11 (by decide) ?_
      exact pr_retz hx hb hr rfl hlocks dX4_isCountry_15 (by simp [sp_in, show nI 6 = 6 from rfl, c_1, c_7])

set_option maxHeartbeats 4000000 in
set_option maxRecDepth 100000 in
theorem k_R_isP (l : Launch) (G : va_G) (cs : Nat → ClassId) (L : List Nat) (f : Nat → va_E) (n : Int32) : Met l yX4_isPerson (Cond.code yX4_isPerson cX4_isPerson 1 (some FieldType.boolean) :: wg) ({ frames := 0, cells := 0, slots := 0, locals := 0 }) (pr_P [.int n] G vwCl (tyl cs) L f (fun _ => True)) (vp_Si (fun r => r = sp_in 8 n)) 0 0 (fun _ => False) := by
  refine Met.ofW (cc := cX4_isPerson) (maxL := 1) (ret := (some FieldType.boolean)) (by decide) rfl ?_
  intro p e s m args below meth c s₁ B hml hv
  obtain ⟨rfl, hP, hK, hX⟩ := hv
  have hx := B.exec
  have hb := B.bytes
  have hr := B.returns
  have hts0 := atoms_spec (ws := (Cond.code yX4_isPerson cX4_isPerson 1 (some FieldType.boolean) :: wg)) B.pre
  have hts := fun (w : Cond) (h : w ∈ wg) => hts0 w (List.mem_cons_of_mem _ h)
  have hown : s.vm.findClass RX4 = some m.cls := findClass_of_methodNamed B.named
  have hlocks := B.notSynchronized
  have hl := lv_entry ([.int n]) (n := 1) (Nat.le_of_ble_eq_true rfl)
  rw [lg_entry_eq]
  generalize (lg_sl ([.int n]) ++ List.replicate (1 - (lg_sl ([.int n])).length) Slot.unset).toArray = ls at hl ⊢
  have hl : lv_has ls 1 [(0, .int n)] := hl
  refine lv_iload_n hx hb dX4_isPerson_0 rfl (lv_at hl 0 rfl) ?_
  refine lv_if_lt (tgt := 14) hx hb dX4_isPerson_1 (by decide) (fun c_1 => ?_) (fun c_1 => ?_)
  · refine lv_iconst (v := 0) hx hb dX4_isPerson_14 (by decide) ?_
    exact pr_retz hx hb hr rfl hlocks dX4_isPerson_15 (by simp [sp_in, show nI 8 = 8 from rfl, c_1])
  · refine lv_iload_n hx hb dX4_isPerson_4 rfl (lv_at hl 0 rfl) ?_
    refine lv_bipush (v := 8) hx hb dX4_isPerson_5 (by decide) ?_
    refine lv_icmp_ge (tgt := 14) hx hb dX4_isPerson_7 (by decide) (fun c_7 => ?_) (fun c_7 => ?_)
    · refine lv_iconst (v := 0) hx hb dX4_isPerson_14 (by decide) ?_
      exact pr_retz hx hb hr rfl hlocks dX4_isPerson_15 (by simp [sp_in, show nI 8 = 8 from rfl, c_1, c_7])
    · refine lv_iconst (v := 1) hx hb dX4_isPerson_10 (by decide) ?_
      refine lv_goto (tgt := 15) hx hb dX4_isPerson_11 (by decide) ?_
      exact pr_retz hx hb hr rfl hlocks dX4_isPerson_15 (by simp [sp_in, show nI 8 = 8 from rfl, c_1, c_7])

set_option maxHeartbeats 4000000 in
set_option maxRecDepth 100000 in
theorem k_R_isE (l : Launch) (G : va_G) (cs : Nat → ClassId) (L : List Nat) (f : Nat → va_E) (n : Int32) : Met l yX4_isEvent (Cond.code yX4_isEvent cX4_isEvent 1 (some FieldType.boolean) :: wg) ({ frames := 0, cells := 0, slots := 0, locals := 0 }) (pr_P [.int n] G vwCl (tyl cs) L f (fun _ => True)) (vp_Si (fun r => r = sp_in 5 n)) 0 0 (fun _ => False) := by
  refine Met.ofW (cc := cX4_isEvent) (maxL := 1) (ret := (some FieldType.boolean)) (by decide) rfl ?_
  intro p e s m args below meth c s₁ B hml hv
  obtain ⟨rfl, hP, hK, hX⟩ := hv
  have hx := B.exec
  have hb := B.bytes
  have hr := B.returns
  have hts0 := atoms_spec (ws := (Cond.code yX4_isEvent cX4_isEvent 1 (some FieldType.boolean) :: wg)) B.pre
  have hts := fun (w : Cond) (h : w ∈ wg) => hts0 w (List.mem_cons_of_mem _ h)
  have hown : s.vm.findClass RX4 = some m.cls := findClass_of_methodNamed B.named
  have hlocks := B.notSynchronized
  have hl := lv_entry ([.int n]) (n := 1) (Nat.le_of_ble_eq_true rfl)
  rw [lg_entry_eq]
  generalize (lg_sl ([.int n]) ++ List.replicate (1 - (lg_sl ([.int n])).length) Slot.unset).toArray = ls at hl ⊢
  have hl : lv_has ls 1 [(0, .int n)] := hl
  refine lv_iload_n hx hb dX4_isEvent_0 rfl (lv_at hl 0 rfl) ?_
  refine lv_if_lt (tgt := 13) hx hb dX4_isEvent_1 (by decide) (fun c_1 => ?_) (fun c_1 => ?_)
  · refine lv_iconst (v := 0) hx hb dX4_isEvent_13 (by decide) ?_
    exact pr_retz hx hb hr rfl hlocks dX4_isEvent_14 (by simp [sp_in, show nI 5 = 5 from rfl, c_1])
  · refine lv_iload_n hx hb dX4_isEvent_4 rfl (lv_at hl 0 rfl) ?_
    refine lv_iconst (v := 5) hx hb dX4_isEvent_5 (by decide) ?_
    refine lv_icmp_ge (tgt := 13) hx hb dX4_isEvent_6 (by decide) (fun c_6 => ?_) (fun c_6 => ?_)
    · refine lv_iconst (v := 0) hx hb dX4_isEvent_13 (by decide) ?_
      exact pr_retz hx hb hr rfl hlocks dX4_isEvent_14 (by simp [sp_in, show nI 5 = 5 from rfl, c_1, c_6])
    · refine lv_iconst (v := 1) hx hb dX4_isEvent_9 (by decide) ?_
      refine lv_goto (tgt := 14) hx hb dX4_isEvent_10 (by decide) ?_
      exact pr_retz hx hb hr rfl hlocks dX4_isEvent_14 (by simp [sp_in, show nI 5 = 5 from rfl, c_1, c_6])

set_option maxHeartbeats 4000000 in
set_option maxRecDepth 100000 in
theorem k_R_sil (l : Launch) (G : va_G) (cs : Nat → ClassId) (L : List Nat) (f : Nat → va_E) (ad : Nat → Nat) (t lm : Int32) (nN nM : Nat) (rs lk : Int32) (A : RA) (Bq : RB) (q : Nat) (d : Int32) (h0 : RS cs L f ad t lm nN nM rs lk A Bq) (hq : q < 36) : Met l yX4_isSilent (Cond.code yX4_isSilent cX4_isSilent 3 (some FieldType.boolean) :: wg) ({ frames := 0, cells := 0, slots := 0, locals := 0 }) (pr_P [.ref (ad 0), .int (nI q), .int d] G vwCl (tyl cs) L f (fun _ => True)) (vp_Si (fun r => r = sR_sil A q d)) 0 0 (fun _ => False) := by
  refine Met.ofW (cc := cX4_isSilent) (maxL := 3) (ret := (some FieldType.boolean)) (by decide) rfl ?_
  intro p e s m args below meth c s₁ B hml hv
  obtain ⟨rfl, hP, hK, hX⟩ := hv
  have hx := B.exec
  have hb := B.bytes
  have hr := B.returns
  have hts0 := atoms_spec (ws := (Cond.code yX4_isSilent cX4_isSilent 3 (some FieldType.boolean) :: wg)) B.pre
  have hts := fun (w : Cond) (h : w ∈ wg) => hts0 w (List.mem_cons_of_mem _ h)
  have hown : s.vm.findClass RX4 = some m.cls := findClass_of_methodNamed B.named
  have hlocks := B.notSynchronized
  have hl := lv_entry ([.ref (ad 0), .int (nI q), .int d]) (n := 3) (Nat.le_of_ble_eq_true rfl)
  rw [lg_entry_eq]
  generalize (lg_sl ([.ref (ad 0), .int (nI q), .int d]) ++ List.replicate (3 - (lg_sl ([.ref (ad 0), .int (nI q), .int d])).length) Slot.unset).toArray = ls at hl ⊢
  have hl : lv_has ls 3 [(0, .ref (ad 0)), (1, .int (nI q)), (2, .int d)] := hl
  have hN6 := h0.nN6
  have hM12 := h0.nM12
  have m0 := h0.mem 0 (by decide)
  have e0 := h0.e0
  have m5 := h0.mem 5 (by decide)
  have e5 : f (ad 5) = .inl (cs 2, 36, .inl (A 5)) := h0.ea 5 (by decide) (by decide)
  have m6 := h0.mem 6 (by decide)
  have e6 : f (ad 6) = .inl (cs 0, 36, .inl (A 6)) := h0.ea 6 (by decide) (by decide)
  have m7 := h0.mem 7 (by decide)
  have e7 : f (ad 7) = .inl (cs 0, 36, .inl (A 7)) := h0.ea 7 (by decide) (by decide)
  have m8 := h0.mem 8 (by decide)
  have e8 : f (ad 8) = .inl (cs 0, 36, .inl (A 8)) := h0.ea 8 (by decide) (by decide)
  refine lv_aload_n hx hb dX4_isSilent_0 rfl (lv_at hl 0 rfl) ?_
  refine pw_get (ci := 4) (C := RX4) (T := TX4) (N := 23) hx hb hts inX4 hown hK hP m0 e0 rfl 6 (by decide) (hts _ mw_333) (fun _ h9 => h9) rfl dX4_isSilent_1 ?_
  refine lv_iload_n hx hb dX4_isSilent_4 rfl (lv_at hl 1 rfl) ?_
  refine pw_zaldN (k := q) hx hb hK hP m5 2 e5 rfl hq (by decide) dX4_isSilent_5 ?_
  refine lv_if_eq (tgt := 39) hx hb dX4_isSilent_6 (by decide) (fun c_6 => ?_) (fun c_6 => ?_)
  · refine lv_iconst (v := 0) hx hb dX4_isSilent_39 (by decide) ?_
    exact pr_retz hx hb hr rfl hlocks dX4_isSilent_40 (by simp [sR_sil, c_6])
  · refine lv_aload_n hx hb dX4_isSilent_9 rfl (lv_at hl 0 rfl) ?_
    refine pw_get (ci := 4) (C := RX4) (T := TX4) (N := 23) hx hb hts inX4 hown hK hP m0 e0 rfl 9 (by decide) (hts _ mw_336) (fun _ h9 => h9) rfl dX4_isSilent_10 ?_
    refine lv_iload_n hx hb dX4_isSilent_13 rfl (lv_at hl 1 rfl) ?_
    refine pw_ialdN (k := q) hx hb hK hP m8 0 e8 rfl hq (by decide) dX4_isSilent_14 ?_
    refine lv_if_ne (tgt := 39) hx hb dX4_isSilent_15 (by decide) (fun c_15 => ?_) (fun c_15 => ?_)
    · refine lv_iconst (v := 0) hx hb dX4_isSilent_39 (by decide) ?_
      exact pr_retz hx hb hr rfl hlocks dX4_isSilent_40 (by simp [sR_sil, c_6, c_15])
    · refine lv_iload_n hx hb dX4_isSilent_18 rfl (lv_at hl 2 rfl) ?_
      refine lv_aload_n hx hb dX4_isSilent_19 rfl (lv_at hl 0 rfl) ?_
      refine pw_get (ci := 4) (C := RX4) (T := TX4) (N := 23) hx hb hts inX4 hown hK hP m0 e0 rfl 8 (by decide) (hts _ mw_335) (fun _ h9 => h9) rfl dX4_isSilent_20 ?_
      refine lv_iload_n hx hb dX4_isSilent_23 rfl (lv_at hl 1 rfl) ?_
      refine pw_ialdN (k := q) hx hb hK hP m7 0 e7 rfl hq (by decide) dX4_isSilent_24 ?_
      refine lv_isub hx hb dX4_isSilent_25 ?_
      refine lv_aload_n hx hb dX4_isSilent_26 rfl (lv_at hl 0 rfl) ?_
      refine pw_get (ci := 4) (C := RX4) (T := TX4) (N := 23) hx hb hts inX4 hown hK hP m0 e0 rfl 7 (by decide) (hts _ mw_334) (fun _ h9 => h9) rfl dX4_isSilent_27 ?_
      refine lv_iload_n hx hb dX4_isSilent_30 rfl (lv_at hl 1 rfl) ?_
      refine pw_ialdN (k := q) hx hb hK hP m6 0 e6 rfl hq (by decide) dX4_isSilent_31 ?_
      refine lv_icmp_le (tgt := 39) hx hb dX4_isSilent_32 (by decide) (fun c_32 => ?_) (fun c_32 => ?_)
      · refine lv_iconst (v := 0) hx hb dX4_isSilent_39 (by decide) ?_
        exact pr_retz hx hb hr rfl hlocks dX4_isSilent_40 (by simp [sR_sil, c_6, c_15, c_32])
      · refine lv_iconst (v := 1) hx hb dX4_isSilent_35 (by decide) ?_
        refine lv_goto (tgt := 40) hx hb dX4_isSilent_36 (by decide) ?_
        exact pr_retz hx hb hr rfl hlocks dX4_isSilent_40 (by simp [sR_sil, c_6, c_15, c_32])

set_option maxHeartbeats 4000000 in
set_option maxRecDepth 100000 in
theorem k_R_state (l : Launch) (G : va_G) (cs : Nat → ClassId) (L : List Nat) (f : Nat → va_E) (ad : Nat → Nat) (t lm : Int32) (nN nM : Nat) (rs lk : Int32) (A : RA) (Bq : RB) (n : Int32) (h0 : RS cs L f ad t lm nN nM rs lk A Bq) : Met l yX4_state (Cond.code yX4_state cX4_state 7 (some FieldType.int) :: wg) ({ frames := 1, cells := 0, slots := 0, locals := 22 }) (pr_P [.ref (ad 0), .int n] G vwCl (tyl cs) L f (fun _ => True)) (vp_Si (fun r => r = sR_state t nN A n)) 0 0 (fun _ => False) := by
  refine Met.ofW (cc := cX4_state) (maxL := 7) (ret := (some FieldType.int)) (by decide) rfl ?_
  intro p e s m args below meth c s₁ B hml hv
  obtain ⟨rfl, hP, hK, hX⟩ := hv
  have hx := B.exec
  have hb := B.bytes
  have hr := B.returns
  have hts0 := atoms_spec (ws := (Cond.code yX4_state cX4_state 7 (some FieldType.int) :: wg)) B.pre
  have hts := fun (w : Cond) (h : w ∈ wg) => hts0 w (List.mem_cons_of_mem _ h)
  have hown : s.vm.findClass RX4 = some m.cls := findClass_of_methodNamed B.named
  have hlocks := B.notSynchronized
  have hl := lv_entry ([.ref (ad 0), .int n]) (n := 7) (Nat.le_of_ble_eq_true rfl)
  rw [lg_entry_eq]
  generalize (lg_sl ([.ref (ad 0), .int n]) ++ List.replicate (7 - (lg_sl ([.ref (ad 0), .int n])).length) Slot.unset).toArray = ls at hl ⊢
  have hl : lv_has ls 7 [(0, .ref (ad 0)), (1, .int n)] := hl
  have hN6 := h0.nN6
  have hM12 := h0.nM12
  have m0 := h0.mem 0 (by decide)
  have e0 := h0.e0
  have m3 := h0.mem 3 (by decide)
  have e3 : f (ad 3) = .inl (cs 0, 6, .inl (A 3)) := h0.ea 3 (by decide) (by decide)
  have m5 := h0.mem 5 (by decide)
  have e5 : f (ad 5) = .inl (cs 2, 36, .inl (A 5)) := h0.ea 5 (by decide) (by decide)
  have m8 := h0.mem 8 (by decide)
  have e8 : f (ad 8) = .inl (cs 0, 36, .inl (A 8)) := h0.ea 8 (by decide) (by decide)
  refine lv_aload_n hx hb dX4_state_0 rfl (lv_at hl 0 rfl) ?_
  refine lv_iload_n hx hb dX4_state_1 rfl (lv_at hl 1 rfl) ?_
  refine pr_callVi (As := [.int n]) (rest := []) ⟨hx, hb, hml, hown, hts⟩ (k_R_isN l G cs L f ad t lm nN nM rs lk A Bq n h0) (cwV 1 hts (wg_V mw_419 mw_421 ms_11 mw_3 mw_422) rfl rfl rfl (by decide +kernel) ⟨Nat.le_of_ble_eq_true rfl, Nat.le_of_ble_eq_true rfl⟩) hK hP m0 e0 rfl px_T (fun _ _ _ => trivial) rfl hl.1 rfl (lv_room (Nat.le_of_ble_eq_true rfl)) dX4_state_2 ⟨Nat.le_of_ble_eq_true rfl, Nat.le_of_ble_eq_true rfl⟩ (fun r_1 hr_1 => ?_)
  rcases sp_in_cases (m := nN) (by omega) n with ⟨hxi, hsi⟩ | ⟨i, hi, eni, hxi, hsi⟩
  · obtain rfl : r_1 = 0 := by rw [hr_1, hsi]
    refine lv_if_ne (tgt := 10) hx hb dX4_state_5 (by decide) (fun c_5 => ?_) (fun c_5 => ?_)
    · exact absurd c_5 (by decide)
    · refine lv_iconst (v := (-1)) hx hb dX4_state_8 (by decide) ?_
      exact pr_reti hx hb hr hlocks dX4_state_9 (by simp [sR_state, sR_stt, hxi])
  · obtain rfl : r_1 = 1 := by rw [hr_1, hsi]
    subst eni
    refine lv_if_ne (tgt := 10) hx hb dX4_state_5 (by decide) (fun c_5 => ?_) (fun c_5 => ?_)
    · refine lv_iconst (v := 0) hx hb dX4_state_10 (by decide) ?_
      refine lv_istore_n (lv' := [(2, .int 0), (0, .ref (ad 0)), (1, .int (nI i))]) hx hb dX4_state_11 rfl hl (by decide) rfl (fun ls hl => ?_)
      refine lv_iconst (v := 0) hx hb dX4_state_12 (by decide) ?_
      refine lv_istore_n (lv' := [(3, .int 0), (2, .int 0), (0, .ref (ad 0)), (1, .int (nI i))]) hx hb dX4_state_13 rfl hl (by decide) rfl (fun ls hl => ?_)
      refine lv_iconst (v := 1) hx hb dX4_state_14 (by decide) ?_
      refine lv_istore (lv' := [(4, .int 1), (3, .int 0), (2, .int 0), (0, .ref (ad 0)), (1, .int (nI i))]) hx hb dX4_state_15 hl (by decide) rfl (fun ls hl => ?_)
      refine lv_iconst (v := 0) hx hb dX4_state_17 (by decide) ?_
      refine lv_istore (lv' := [(5, .int 0), (4, .int 1), (3, .int 0), (2, .int 0), (0, .ref (ad 0)), (1, .int (nI i))]) hx hb dX4_state_18 hl (by decide) rfl (fun ls hl => ?_)
      refine pr_loop (σ := Nat) (nL := 7) (fun c => 6 - c) (fun c => c ≤ 6) (fun c => [(5, .int (nI c)), (2, .int (sR_st A t i c).1), (3, .int (sR_st A t i c).2.1), (4, .int (sR_st A t i c).2.2), (0, .ref (ad 0)), (1, .int (nI i))]) ?_ 0 (Nat.zero_le _) ls (lv_sub hl [0, 3, 2, 1, 4, 5] rfl)
      intro c_ hc_ ih ls hl
      refine lv_iload hx hb dX4_state_20 (lv_at hl 0 rfl) ?_
      refine lv_bipush (v := 6) hx hb dX4_state_22 (by decide) ?_
      refine lv_icmp_ge (tgt := 139) hx hb dX4_state_24 (by decide) (fun c_24 => ?_) (fun c_24 => ?_)
      · have hk2 : c_ = 6 := Nat.le_antisymm hc_ (nI_of_le (b := 6) c_24 (by omega))
        subst hk2
        refine lv_iload_n hx hb dX4_state_139 rfl (lv_at hl 1 rfl) ?_
        refine lv_if_eq (tgt := 145) hx hb dX4_state_140 (by decide) (fun c_140 => ?_) (fun c_140 => ?_)
        · refine lv_aload_n hx hb dX4_state_145 rfl (lv_at hl 4 rfl) ?_
          refine pw_get (ci := 4) (C := RX4) (T := TX4) (N := 23) hx hb hts inX4 hown hK hP m0 e0 rfl 0 (by decide) (hts _ mw_327) (fun _ h9 => h9) rfl dX4_state_146 ?_
          refine lv_aload_n hx hb dX4_state_149 rfl (lv_at hl 4 rfl) ?_
          refine pw_get (ci := 4) (C := RX4) (T := TX4) (N := 23) hx hb hts inX4 hown hK hP m0 e0 rfl 4 (by decide) (hts _ mw_331) (fun _ h9 => h9) rfl dX4_state_150 ?_
          refine lv_iload_n hx hb dX4_state_153 rfl (lv_at hl 5 rfl) ?_
          refine pw_ialdN (k := i) hx hb hK hP m3 0 e3 rfl (by omega) (by decide) dX4_state_154 ?_
          refine lv_icmp_le (tgt := 160) hx hb dX4_state_155 (by decide) (fun c_155 => ?_) (fun c_155 => ?_)
          · refine lv_iload_n hx hb dX4_state_160 rfl (lv_at hl 2 rfl) ?_
            refine lv_if_eq (tgt := 173) hx hb dX4_state_161 (by decide) (fun c_161 => ?_) (fun c_161 => ?_)
            · refine lv_iconst (v := 0) hx hb dX4_state_173 (by decide) ?_
              exact pr_reti hx hb hr hlocks dX4_state_174 (by simp [sR_state, sR_stt, hxi, c_140, c_155, c_161])
            · refine lv_iload hx hb dX4_state_164 (lv_at hl 3 rfl) ?_
              refine lv_if_eq (tgt := 173) hx hb dX4_state_166 (by decide) (fun c_166 => ?_) (fun c_166 => ?_)
              · refine lv_iconst (v := 0) hx hb dX4_state_173 (by decide) ?_
                exact pr_reti hx hb hr hlocks dX4_state_174 (by simp [sR_state, sR_stt, hxi, c_140, c_155, c_161, c_166])
              · refine lv_iconst (v := 1) hx hb dX4_state_169 (by decide) ?_
                refine lv_goto (tgt := 174) hx hb dX4_state_170 (by decide) ?_
                exact pr_reti hx hb hr hlocks dX4_state_174 (by simp [sR_state, sR_stt, hxi, c_140, c_155, c_161, c_166])
          · refine lv_iconst (v := 3) hx hb dX4_state_158 (by decide) ?_
            exact pr_reti hx hb hr hlocks dX4_state_159 (by simp [sR_state, sR_stt, hxi, c_140, c_155])
        · refine lv_iconst (v := 2) hx hb dX4_state_143 (by decide) ?_
          exact pr_reti hx hb hr hlocks dX4_state_144 (by simp [sR_state, sR_stt, hxi, c_140])
      · have hk2 : c_ < 6 := nI_of_ge (b := 6) c_24 (by omega)
        refine lv_bipush (v := 6) hx hb dX4_state_27 (by decide) ?_
        refine lv_iload_n hx hb dX4_state_29 rfl (lv_at hl 5 rfl) ?_
        refine lv_imul hx hb dX4_state_30 ?_
        refine lv_iload hx hb dX4_state_31 (lv_at hl 0 rfl) ?_
        refine lv_iadd hx hb dX4_state_33 ?_
        have eix34 : (6 * (nI i)) + (nI c_) = nI (6 * i + c_) := ld6 i c_
        rw [eix34]
        refine lv_istore (lv' := [(6, .int (nI (6 * i + c_))), (5, .int (nI c_)), (2, .int ((sR_st A t i c_).1)), (3, .int ((sR_st A t i c_).2.1)), (4, .int ((sR_st A t i c_).2.2)), (0, .ref (ad 0)), (1, .int (nI i))]) hx hb dX4_state_34 hl (by decide) rfl (fun ls hl => ?_)
        refine pj_join (fun z => z = sR_s1 A (6 * i + c_) (sR_st A t i c_).1) 66 ls [] (fun J => ?_) (fun z hz => ?_)
        · refine lv_iload_n hx hb dX4_state_36 rfl (lv_at hl 2 rfl) ?_
          refine lv_if_ne (tgt := 61) hx hb dX4_state_37 (by decide) (fun c_37 => ?_) (fun c_37 => ?_)
          · refine lv_iconst (v := 1) hx hb dX4_state_61 (by decide) ?_
            refine lv_goto (tgt := 66) hx hb dX4_state_62 (by decide) ?_
            exact J _ (by simp [sR_s1, c_37])
          · refine lv_aload_n hx hb dX4_state_40 rfl (lv_at hl 5 rfl) ?_
            refine pw_get (ci := 4) (C := RX4) (T := TX4) (N := 23) hx hb hts inX4 hown hK hP m0 e0 rfl 6 (by decide) (hts _ mw_333) (fun _ h9 => h9) rfl dX4_state_41 ?_
            refine lv_iload hx hb dX4_state_44 (lv_at hl 0 rfl) ?_
            refine pw_zaldN (k := 6 * i + c_) hx hb hK hP m5 2 e5 rfl (by omega) (by decide) dX4_state_46 ?_
            refine lv_if_eq (tgt := 65) hx hb dX4_state_47 (by decide) (fun c_47 => ?_) (fun c_47 => ?_)
            · refine lv_iconst (v := 0) hx hb dX4_state_65 (by decide) ?_
              exact J _ (by simp [sR_s1, c_37, c_47])
            · refine lv_aload_n hx hb dX4_state_50 rfl (lv_at hl 5 rfl) ?_
              refine pw_get (ci := 4) (C := RX4) (T := TX4) (N := 23) hx hb hts inX4 hown hK hP m0 e0 rfl 9 (by decide) (hts _ mw_336) (fun _ h9 => h9) rfl dX4_state_51 ?_
              refine lv_iload hx hb dX4_state_54 (lv_at hl 0 rfl) ?_
              refine pw_ialdN (k := 6 * i + c_) hx hb hK hP m8 0 e8 rfl (by omega) (by decide) dX4_state_56 ?_
              refine lv_iconst (v := 2) hx hb dX4_state_57 (by decide) ?_
              refine lv_icmp_ne (tgt := 65) hx hb dX4_state_58 (by decide) (fun c_58 => ?_) (fun c_58 => ?_)
              · refine lv_iconst (v := 0) hx hb dX4_state_65 (by decide) ?_
                exact J _ (by simp [sR_s1, c_37, c_47, c_58])
              · refine lv_iconst (v := 1) hx hb dX4_state_61 (by decide) ?_
                refine lv_goto (tgt := 66) hx hb dX4_state_62 (by decide) ?_
                exact J _ (by simp [sR_s1, c_37, c_47, c_58])
        · subst hz
          refine lv_istore_n (lv' := [(2, .int (sR_s1 A (6 * i + c_) (sR_st A t i c_).1)), (6, .int (nI (6 * i + c_))), (5, .int (nI c_)), (3, .int ((sR_st A t i c_).2.1)), (4, .int ((sR_st A t i c_).2.2)), (0, .ref (ad 0)), (1, .int (nI i))]) hx hb dX4_state_66 rfl hl (by decide) rfl (fun ls hl => ?_)
          refine pj_join (fun z => z = sR_s2 A (6 * i + c_) (sR_st A t i c_).2.1) 86 ls [] (fun J => ?_) (fun z hz => ?_)
          · refine lv_iload_n hx hb dX4_state_67 rfl (lv_at hl 3 rfl) ?_
            refine lv_if_ne (tgt := 81) hx hb dX4_state_68 (by decide) (fun c_68 => ?_) (fun c_68 => ?_)
            · refine lv_iconst (v := 1) hx hb dX4_state_81 (by decide) ?_
              refine lv_goto (tgt := 86) hx hb dX4_state_82 (by decide) ?_
              exact J _ (by simp [sR_s2, c_68])
            · refine lv_aload_n hx hb dX4_state_71 rfl (lv_at hl 5 rfl) ?_
              refine pw_get (ci := 4) (C := RX4) (T := TX4) (N := 23) hx hb hts inX4 hown hK hP m0 e0 rfl 6 (by decide) (hts _ mw_333) (fun _ h9 => h9) rfl dX4_state_72 ?_
              refine lv_iload hx hb dX4_state_75 (lv_at hl 1 rfl) ?_
              refine pw_zaldN (k := 6 * i + c_) hx hb hK hP m5 2 e5 rfl (by omega) (by decide) dX4_state_77 ?_
              refine lv_if_eq (tgt := 85) hx hb dX4_state_78 (by decide) (fun c_78 => ?_) (fun c_78 => ?_)
              · refine lv_iconst (v := 0) hx hb dX4_state_85 (by decide) ?_
                exact J _ (by simp [sR_s2, c_68, c_78])
              · refine lv_iconst (v := 1) hx hb dX4_state_81 (by decide) ?_
                refine lv_goto (tgt := 86) hx hb dX4_state_82 (by decide) ?_
                exact J _ (by simp [sR_s2, c_68, c_78])
          · subst hz
            refine lv_istore_n (lv' := [(3, .int (sR_s2 A (6 * i + c_) (sR_st A t i c_).2.1)), (2, .int (sR_s1 A (6 * i + c_) (sR_st A t i c_).1)), (6, .int (nI (6 * i + c_))), (5, .int (nI c_)), (4, .int ((sR_st A t i c_).2.2)), (0, .ref (ad 0)), (1, .int (nI i))]) hx hb dX4_state_86 rfl hl (by decide) rfl (fun ls hl => ?_)
            refine pj_join (fun z => z = sR_s3 A t (6 * i + c_) (sR_st A t i c_).2.2) 131 ls [] (fun J => ?_) (fun z hz => ?_)
            · refine lv_iload hx hb dX4_state_87 (lv_at hl 4 rfl) ?_
              refine lv_if_eq (tgt := 130) hx hb dX4_state_89 (by decide) (fun c_89 => ?_) (fun c_89 => ?_)
              · refine lv_iconst (v := 0) hx hb dX4_state_130 (by decide) ?_
                exact J _ (by simp [sR_s3, c_89])
              · refine lv_aload_n hx hb dX4_state_92 rfl (lv_at hl 5 rfl) ?_
                refine pw_get (ci := 4) (C := RX4) (T := TX4) (N := 23) hx hb hts inX4 hown hK hP m0 e0 rfl 6 (by decide) (hts _ mw_333) (fun _ h9 => h9) rfl dX4_state_93 ?_
                refine lv_iload hx hb dX4_state_96 (lv_at hl 2 rfl) ?_
                refine pw_zaldN (k := 6 * i + c_) hx hb hK hP m5 2 e5 rfl (by omega) (by decide) dX4_state_98 ?_
                refine lv_if_eq (tgt := 126) hx hb dX4_state_99 (by decide) (fun c_99 => ?_) (fun c_99 => ?_)
                · refine lv_iconst (v := 1) hx hb dX4_state_126 (by decide) ?_
                  refine lv_goto (tgt := 131) hx hb dX4_state_127 (by decide) ?_
                  exact J _ (by simp [sR_s3, c_89, c_99])
                · refine lv_aload_n hx hb dX4_state_102 rfl (lv_at hl 5 rfl) ?_
                  refine pw_get (ci := 4) (C := RX4) (T := TX4) (N := 23) hx hb hts inX4 hown hK hP m0 e0 rfl 9 (by decide) (hts _ mw_336) (fun _ h9 => h9) rfl dX4_state_103 ?_
                  refine lv_iload hx hb dX4_state_106 (lv_at hl 2 rfl) ?_
                  refine pw_ialdN (k := 6 * i + c_) hx hb hK hP m8 0 e8 rfl (by omega) (by decide) dX4_state_108 ?_
                  refine lv_iconst (v := 1) hx hb dX4_state_109 (by decide) ?_
                  refine lv_icmp_eq (tgt := 126) hx hb dX4_state_110 (by decide) (fun c_110 => ?_) (fun c_110 => ?_)
                  · refine lv_iconst (v := 1) hx hb dX4_state_126 (by decide) ?_
                    refine lv_goto (tgt := 131) hx hb dX4_state_127 (by decide) ?_
                    exact J _ (by simp [sR_s3, c_89, c_99, c_110])
                  · refine lv_aload_n hx hb dX4_state_113 rfl (lv_at hl 5 rfl) ?_
                    refine lv_iload hx hb dX4_state_114 (lv_at hl 2 rfl) ?_
                    refine lv_aload_n hx hb dX4_state_116 rfl (lv_at hl 5 rfl) ?_
                    refine pw_get (ci := 4) (C := RX4) (T := TX4) (N := 23) hx hb hts inX4 hown hK hP m0 e0 rfl 0 (by decide) (hts _ mw_327) (fun _ h9 => h9) rfl dX4_state_117 ?_
                    refine pr_callVi (As := [.int (nI (6 * i + c_)), .int t]) (rest := []) ⟨hx, hb, hml, hown, hts⟩ (k_R_sil l G cs L f ad t lm nN nM rs lk A Bq (6 * i + c_) t h0 (by omega)) (cwV 2 hts (wg_V mw_406 mw_408 ms_10 mw_3 mw_409) rfl rfl rfl (by decide +kernel) ⟨Nat.le_of_ble_eq_true rfl, Nat.le_of_ble_eq_true rfl⟩) hK hP m0 e0 rfl px_T (fun _ _ _ => trivial) rfl hl.1 rfl (lv_room (Nat.le_of_ble_eq_true rfl)) dX4_state_120 ⟨Nat.le_of_ble_eq_true rfl, Nat.le_of_ble_eq_true rfl⟩ (fun r_2 hr_2 => ?_)
                    subst hr_2
                    refine lv_if_eq (tgt := 130) hx hb dX4_state_123 (by decide) (fun c_123 => ?_) (fun c_123 => ?_)
                    · refine lv_iconst (v := 0) hx hb dX4_state_130 (by decide) ?_
                      exact J _ (by simp [sR_s3, c_89, c_99, c_110, c_123])
                    · refine lv_iconst (v := 1) hx hb dX4_state_126 (by decide) ?_
                      refine lv_goto (tgt := 131) hx hb dX4_state_127 (by decide) ?_
                      exact J _ (by simp [sR_s3, c_89, c_99, c_110, c_123])
            · subst hz
              refine lv_istore (lv' := [(4, .int (sR_s3 A t (6 * i + c_) (sR_st A t i c_).2.2)), (3, .int (sR_s2 A (6 * i + c_) (sR_st A t i c_).2.1)), (2, .int (sR_s1 A (6 * i + c_) (sR_st A t i c_).1)), (6, .int (nI (6 * i + c_))), (5, .int (nI c_)), (0, .ref (ad 0)), (1, .int (nI i))]) hx hb dX4_state_131 hl (by decide) rfl (fun ls hl => ?_)
              obtain ⟨z_3, ez_3⟩ : ∃ z : Int32, z = (nI c_) + 1 := ⟨_, rfl⟩
              refine lv_iinc (v := z_3) (lv' := [(5, .int z_3), (4, .int (sR_s3 A t (6 * i + c_) (sR_st A t i c_).2.2)), (3, .int (sR_s2 A (6 * i + c_) (sR_st A t i c_).2.1)), (2, .int (sR_s1 A (6 * i + c_) (sR_st A t i c_).1)), (6, .int (nI (6 * i + c_))), (0, .ref (ad 0)), (1, .int (nI i))]) hx hb dX4_state_133 hl (k := 4) rfl (by rw [ez_3]; rfl) (by decide) rfl (fun ls hl => ?_)
              refine lv_goto (tgt := 20) hx hb dX4_state_136 (by decide) ?_
              obtain rfl : z_3 = nI (c_ + 1) := by rw [ez_3]; exact nI_1 c_
              exact ih (c_ + 1) (by show c_ + 1 ≤ 6; omega) (by show 6 - (c_ + 1) < 6 - c_; omega) ls (lv_sub hl [0, 3, 2, 1, 5, 6] rfl)
    · exact absurd c_5 (by decide)

set_option maxHeartbeats 4000000 in
set_option maxRecDepth 100000 in
theorem k_R_mst (l : Launch) (G : va_G) (cs : Nat → ClassId) (L : List Nat) (f : Nat → va_E) (ad : Nat → Nat) (t lm : Int32) (nN nM : Nat) (rs lk : Int32) (A : RA) (Bq : RB) (n : Int32) (h0 : RS cs L f ad t lm nN nM rs lk A Bq) : Met l yX4_moveState (Cond.code yX4_moveState cX4_moveState 2 (some FieldType.int) :: wg) ({ frames := 1, cells := 0, slots := 0, locals := 21 }) (pr_P [.ref (ad 0), .int n] G vwCl (tyl cs) L f (fun _ => True)) (vp_Si (fun r => r = sR_mst nM A n)) 0 0 (fun _ => False) := by
  refine Met.ofW (cc := cX4_moveState) (maxL := 2) (ret := (some FieldType.int)) (by decide) rfl ?_
  intro p e s m args below meth c s₁ B hml hv
  obtain ⟨rfl, hP, hK, hX⟩ := hv
  have hx := B.exec
  have hb := B.bytes
  have hr := B.returns
  have hts0 := atoms_spec (ws := (Cond.code yX4_moveState cX4_moveState 2 (some FieldType.int) :: wg)) B.pre
  have hts := fun (w : Cond) (h : w ∈ wg) => hts0 w (List.mem_cons_of_mem _ h)
  have hown : s.vm.findClass RX4 = some m.cls := findClass_of_methodNamed B.named
  have hlocks := B.notSynchronized
  have hl := lv_entry ([.ref (ad 0), .int n]) (n := 2) (Nat.le_of_ble_eq_true rfl)
  rw [lg_entry_eq]
  generalize (lg_sl ([.ref (ad 0), .int n]) ++ List.replicate (2 - (lg_sl ([.ref (ad 0), .int n])).length) Slot.unset).toArray = ls at hl ⊢
  have hl : lv_has ls 2 [(0, .ref (ad 0)), (1, .int n)] := hl
  have hN6 := h0.nN6
  have hM12 := h0.nM12
  have m0 := h0.mem 0 (by decide)
  have e0 := h0.e0
  have m12 := h0.mem 12 (by decide)
  have e12 : f (ad 12) = .inl (cs 0, 12, .inl (A 12)) := h0.ea 12 (by decide) (by decide)
  refine lv_aload_n hx hb dX4_moveState_0 rfl (lv_at hl 0 rfl) ?_
  refine lv_iload_n hx hb dX4_moveState_1 rfl (lv_at hl 1 rfl) ?_
  refine pr_callVi (As := [.int n]) (rest := []) ⟨hx, hb, hml, hown, hts⟩ (k_R_isM l G cs L f ad t lm nN nM rs lk A Bq n h0) (cwV 1 hts (wg_V mw_449 mw_451 ms_12 mw_3 mw_452) rfl rfl rfl (by decide +kernel) ⟨Nat.le_of_ble_eq_true rfl, Nat.le_of_ble_eq_true rfl⟩) hK hP m0 e0 rfl px_T (fun _ _ _ => trivial) rfl hl.1 rfl (lv_room (Nat.le_of_ble_eq_true rfl)) dX4_moveState_2 ⟨Nat.le_of_ble_eq_true rfl, Nat.le_of_ble_eq_true rfl⟩ (fun r_1 hr_1 => ?_)
  rcases sp_in_cases (m := nM) (by omega) n with ⟨hxj, hsj⟩ | ⟨j, hj, enj, hxj, hsj⟩
  · obtain rfl : r_1 = 0 := by rw [hr_1, hsj]
    refine lv_if_eq (tgt := 17) hx hb dX4_moveState_5 (by decide) (fun c_5 => ?_) (fun c_5 => ?_)
    · refine lv_iconst (v := (-1)) hx hb dX4_moveState_17 (by decide) ?_
      exact pr_reti hx hb hr hlocks dX4_moveState_18 (by simp [sR_mst, hxj])
    · exact absurd c_5 (by decide)
  · obtain rfl : r_1 = 1 := by rw [hr_1, hsj]
    subst enj
    refine lv_if_eq (tgt := 17) hx hb dX4_moveState_5 (by decide) (fun c_5 => ?_) (fun c_5 => ?_)
    · exact absurd c_5 (by decide)
    · refine lv_aload_n hx hb dX4_moveState_8 rfl (lv_at hl 0 rfl) ?_
      refine pw_get (ci := 4) (C := RX4) (T := TX4) (N := 23) hx hb hts inX4 hown hK hP m0 e0 rfl 14 (by decide) (hts _ mw_341) (fun _ h9 => h9) rfl dX4_moveState_9 ?_
      refine lv_iload_n hx hb dX4_moveState_12 rfl (lv_at hl 1 rfl) ?_
      refine pw_ialdN (k := j) hx hb hK hP m12 0 e12 rfl (by omega) (by decide) dX4_moveState_13 ?_
      refine lv_goto (tgt := 18) hx hb dX4_moveState_14 (by decide) ?_
      exact pr_reti hx hb hr hlocks dX4_moveState_18 (by simp [sR_mst, hxj])

set_option maxHeartbeats 4000000 in
set_option maxRecDepth 100000 in
theorem k_R_may (l : Launch) (G : va_G) (cs : Nat → ClassId) (L : List Nat) (f : Nat → va_E) (ad : Nat → Nat) (t lm : Int32) (nN nM : Nat) (rs lk : Int32) (A : RA) (Bq : RB) (p_ e_ : Int32) (h0 : RS cs L f ad t lm nN nM rs lk A Bq) : Met l yX4_may (Cond.code yX4_may cX4_may 3 (some FieldType.boolean) :: wg) ({ frames := 1, cells := 0, slots := 0, locals := 20 }) (pr_P [.ref (ad 0), .int p_, .int e_] G vwCl (tyl cs) L f (fun _ => True)) (vp_Si (fun r => r = sC_may (A 17) p_ e_)) 0 0 (fun _ => False) := by
  refine Met.ofW (cc := cX4_may) (maxL := 3) (ret := (some FieldType.boolean)) (by decide) rfl ?_
  intro p e s m args below meth c s₁ B hml hv
  obtain ⟨rfl, hP, hK, hX⟩ := hv
  have hx := B.exec
  have hb := B.bytes
  have hr := B.returns
  have hts0 := atoms_spec (ws := (Cond.code yX4_may cX4_may 3 (some FieldType.boolean) :: wg)) B.pre
  have hts := fun (w : Cond) (h : w ∈ wg) => hts0 w (List.mem_cons_of_mem _ h)
  have hown : s.vm.findClass RX4 = some m.cls := findClass_of_methodNamed B.named
  have hlocks := B.notSynchronized
  have hl := lv_entry ([.ref (ad 0), .int p_, .int e_]) (n := 3) (Nat.le_of_ble_eq_true rfl)
  rw [lg_entry_eq]
  generalize (lg_sl ([.ref (ad 0), .int p_, .int e_]) ++ List.replicate (3 - (lg_sl ([.ref (ad 0), .int p_, .int e_])).length) Slot.unset).toArray = ls at hl ⊢
  have hl : lv_has ls 3 [(0, .ref (ad 0)), (1, .int p_), (2, .int e_)] := hl
  have hN6 := h0.nN6
  have hM12 := h0.nM12
  have m0 := h0.mem 0 (by decide)
  have e0 := h0.e0
  have m17 := h0.mem 17 (by decide)
  have e17 : f (ad 17) = .inl (cs 2, 40, .inl (A 17)) := h0.ea 17 (by decide) (by decide)
  refine lv_iload_n hx hb dX4_may_0 rfl (lv_at hl 1 rfl) ?_
  refine pr_callSi (As := [.int p_]) (rest := []) ⟨hx, hb, hml, hown, hts⟩ (k_R_isP l G cs L f p_) (cwS 1 hts (wg_S mw_457 mw_458 mw_3 mw_459) rfl rfl rfl (by decide +kernel) ⟨Nat.le_of_ble_eq_true rfl, Nat.le_of_ble_eq_true rfl⟩) hK hP px_T (fun _ _ _ => trivial) rfl hl.1 rfl (lv_room (Nat.le_of_ble_eq_true rfl)) dX4_may_1 ⟨Nat.le_of_ble_eq_true rfl, Nat.le_of_ble_eq_true rfl⟩ (fun r_1 hr_1 => ?_)
  rcases sp_in_cases (m := 8) (by decide) p_ with ⟨hxa, hsa⟩ | ⟨a, ha, ena, hxa, hsa⟩
  · obtain rfl : r_1 = 0 := by rw [hr_1, hsa]
    refine lv_if_eq (tgt := 31) hx hb dX4_may_4 (by decide) (fun c_4 => ?_) (fun c_4 => ?_)
    · refine lv_iconst (v := 0) hx hb dX4_may_31 (by decide) ?_
      exact pr_retz hx hb hr rfl hlocks dX4_may_32 (by simp [sC_may, hxa])
    · exact absurd c_4 (by decide)
  · obtain rfl : r_1 = 1 := by rw [hr_1, hsa]
    subst ena
    refine lv_if_eq (tgt := 31) hx hb dX4_may_4 (by decide) (fun c_4 => ?_) (fun c_4 => ?_)
    · exact absurd c_4 (by decide)
    · refine lv_iload_n hx hb dX4_may_7 rfl (lv_at hl 2 rfl) ?_
      refine pr_callSi (As := [.int e_]) (rest := []) ⟨hx, hb, hml, hown, hts⟩ (k_R_isE l G cs L f e_) (cwS 1 hts (wg_S mw_460 mw_461 mw_3 mw_462) rfl rfl rfl (by decide +kernel) ⟨Nat.le_of_ble_eq_true rfl, Nat.le_of_ble_eq_true rfl⟩) hK hP px_T (fun _ _ _ => trivial) rfl hl.1 rfl (lv_room (Nat.le_of_ble_eq_true rfl)) dX4_may_8 ⟨Nat.le_of_ble_eq_true rfl, Nat.le_of_ble_eq_true rfl⟩ (fun r_2 hr_2 => ?_)
      rcases sp_in_cases (m := 5) (by decide) e_ with ⟨hxv, hsv⟩ | ⟨v, hv, env, hxv, hsv⟩
      · obtain rfl : r_2 = 0 := by rw [hr_2, hsv]
        refine lv_if_eq (tgt := 31) hx hb dX4_may_11 (by decide) (fun c_11 => ?_) (fun c_11 => ?_)
        · refine lv_iconst (v := 0) hx hb dX4_may_31 (by decide) ?_
          exact pr_retz hx hb hr rfl hlocks dX4_may_32 (by simp [sC_may, hxa, hxv])
        · exact absurd c_11 (by decide)
      · obtain rfl : r_2 = 1 := by rw [hr_2, hsv]
        subst env
        refine lv_if_eq (tgt := 31) hx hb dX4_may_11 (by decide) (fun c_11 => ?_) (fun c_11 => ?_)
        · exact absurd c_11 (by decide)
        · refine lv_aload_n hx hb dX4_may_14 rfl (lv_at hl 0 rfl) ?_
          refine pw_get (ci := 4) (C := RX4) (T := TX4) (N := 23) hx hb hts inX4 hown hK hP m0 e0 rfl 19 (by decide) (hts _ mw_346) (fun _ h9 => h9) rfl dX4_may_15 ?_
          refine lv_iconst (v := 5) hx hb dX4_may_18 (by decide) ?_
          refine lv_iload_n hx hb dX4_may_19 rfl (lv_at hl 1 rfl) ?_
          refine lv_imul hx hb dX4_may_20 ?_
          refine lv_iload_n hx hb dX4_may_21 rfl (lv_at hl 2 rfl) ?_
          refine lv_iadd hx hb dX4_may_22 ?_
          have eix23 : (5 * (nI a)) + (nI v) = nI (a * 5 + v) := ld5 a v
          rw [eix23]
          refine pw_zaldN (k := a * 5 + v) hx hb hK hP m17 2 e17 rfl (by omega) (by decide) dX4_may_23 ?_
          refine lv_if_eq (tgt := 31) hx hb dX4_may_24 (by decide) (fun c_24 => ?_) (fun c_24 => ?_)
          · refine lv_iconst (v := 0) hx hb dX4_may_31 (by decide) ?_
            exact pr_retz hx hb hr rfl hlocks dX4_may_32 (by simp [sC_may, hxa, hxv, c_24])
          · refine lv_iconst (v := 1) hx hb dX4_may_27 (by decide) ?_
            refine lv_goto (tgt := 32) hx hb dX4_may_28 (by decide) ?_
            exact pr_retz hx hb hr rfl hlocks dX4_may_32 (by simp [sC_may, hxa, hxv, c_24])

set_option maxHeartbeats 4000000 in
set_option maxRecDepth 100000 in
theorem k_R_left (l : Launch) (G : va_G) (cs : Nat → ClassId) (L : List Nat) (f : Nat → va_E) (ad : Nat → Nat) (t lm : Int32) (nN nM : Nat) (rs lk : Int32) (A : RA) (Bq : RB) (n : Int32) (h0 : RS cs L f ad t lm nN nM rs lk A Bq) : Met l yX4_left (Cond.code yX4_left cX4_left 6 (some FieldType.long) :: wg) ({ frames := 1, cells := 0, slots := 0, locals := 21 }) (pr_P [.ref (ad 0), .int n] G vwCl (tyl cs) L f (fun _ => True)) (vp_Sl (fun r => r = sR_left nN nM A Bq n)) 0 0 (fun _ => False) := by
  refine Met.ofW (cc := cX4_left) (maxL := 6) (ret := (some FieldType.long)) (by decide) rfl ?_
  intro p e s m args below meth c s₁ B hml hv
  obtain ⟨rfl, hP, hK, hX⟩ := hv
  have hx := B.exec
  have hb := B.bytes
  have hr := B.returns
  have hts0 := atoms_spec (ws := (Cond.code yX4_left cX4_left 6 (some FieldType.long) :: wg)) B.pre
  have hts := fun (w : Cond) (h : w ∈ wg) => hts0 w (List.mem_cons_of_mem _ h)
  have hown : s.vm.findClass RX4 = some m.cls := findClass_of_methodNamed B.named
  have hlocks := B.notSynchronized
  have hl := lv_entry ([.ref (ad 0), .int n]) (n := 6) (Nat.le_of_ble_eq_true rfl)
  rw [lg_entry_eq]
  generalize (lg_sl ([.ref (ad 0), .int n]) ++ List.replicate (6 - (lg_sl ([.ref (ad 0), .int n])).length) Slot.unset).toArray = ls at hl ⊢
  have hl : lv_has ls 6 [(0, .ref (ad 0)), (1, .int n)] := hl
  have hN6 := h0.nN6
  have hM12 := h0.nM12
  have m0 := h0.mem 0 (by decide)
  have e0 := h0.e0
  have m1 := h0.mem 1 (by decide)
  have e1 : f (ad 1) = .inl (cs 3, 6, .inr (.inl (Bq 1))) := h0.ea 1 (by decide) (by decide)
  have m9 := h0.mem 9 (by decide)
  have e9 : f (ad 9) = .inl (cs 0, 12, .inl (A 9)) := h0.ea 9 (by decide) (by decide)
  have m10 := h0.mem 10 (by decide)
  have e10 : f (ad 10) = .inl (cs 3, 12, .inr (.inl (Bq 10))) := h0.ea 10 (by decide) (by decide)
  have m12 := h0.mem 12 (by decide)
  have e12 : f (ad 12) = .inl (cs 0, 12, .inl (A 12)) := h0.ea 12 (by decide) (by decide)
  refine lv_aload_n hx hb dX4_left_0 rfl (lv_at hl 0 rfl) ?_
  refine lv_iload_n hx hb dX4_left_1 rfl (lv_at hl 1 rfl) ?_
  refine pr_callVi (As := [.int n]) (rest := []) ⟨hx, hb, hml, hown, hts⟩ (k_R_isN l G cs L f ad t lm nN nM rs lk A Bq n h0) (cwV 1 hts (wg_V mw_419 mw_421 ms_11 mw_3 mw_422) rfl rfl rfl (by decide +kernel) ⟨Nat.le_of_ble_eq_true rfl, Nat.le_of_ble_eq_true rfl⟩) hK hP m0 e0 rfl px_T (fun _ _ _ => trivial) rfl hl.1 rfl (lv_room (Nat.le_of_ble_eq_true rfl)) dX4_left_2 ⟨Nat.le_of_ble_eq_true rfl, Nat.le_of_ble_eq_true rfl⟩ (fun r_1 hr_1 => ?_)
  rcases sp_in_cases (m := nN) (by omega) n with ⟨hxi, hsi⟩ | ⟨i, hi, eni, hxi, hsi⟩
  · obtain rfl : r_1 = 0 := by rw [hr_1, hsi]
    refine lv_if_ne (tgt := 12) hx hb dX4_left_5 (by decide) (fun c_5 => ?_) (fun c_5 => ?_)
    · exact absurd c_5 (by decide)
    · refine lv_ldc2 hx hb hown (hts _ mw_444) dX4_left_8 ?_
      exact pr_retl hx hb hr hlocks dX4_left_11 (by simp [sR_left, hxi])
  · obtain rfl : r_1 = 1 := by rw [hr_1, hsi]
    subst eni
    refine lv_if_ne (tgt := 12) hx hb dX4_left_5 (by decide) (fun c_5 => ?_) (fun c_5 => ?_)
    · refine lv_aload_n hx hb dX4_left_12 rfl (lv_at hl 0 rfl) ?_
      refine pw_get (ci := 4) (C := RX4) (T := TX4) (N := 23) hx hb hts inX4 hown hK hP m0 e0 rfl 2 (by decide) (hts _ mw_329) (fun _ h9 => h9) rfl dX4_left_13 ?_
      refine lv_iload_n hx hb dX4_left_16 rfl (lv_at hl 1 rfl) ?_
      refine pw_laldN (k := i) hx hb hK hP m1 3 e1 rfl (by omega) (by decide) dX4_left_17 ?_
      refine lv_lstore_n (lv' := [(2, .long ((Bq 1) i)), (0, .ref (ad 0)), (1, .int (nI i))]) hx hb dX4_left_18 rfl hl (by decide) rfl (fun ls hl => ?_)
      refine lv_iconst (v := 0) hx hb dX4_left_19 (by decide) ?_
      refine lv_istore (lv' := [(4, .int 0), (2, .long ((Bq 1) i)), (0, .ref (ad 0)), (1, .int (nI i))]) hx hb dX4_left_20 hl (by decide) rfl (fun ls hl => ?_)
      refine pr_loop (σ := Nat) (nL := 6) (fun k => nM - k) (fun k => k ≤ nM) (fun k => [(4, .int (nI k)), (2, .long (sR_lf A Bq (Bq 1 i) (nI i) k)), (0, .ref (ad 0)), (1, .int (nI i))]) ?_ 0 (Nat.zero_le _) ls (lv_sub hl [0, 1, 2, 3] rfl)
      intro k hk ih ls hl
      refine lv_iload hx hb dX4_left_22 (lv_at hl 0 rfl) ?_
      refine lv_aload_n hx hb dX4_left_24 rfl (lv_at hl 2 rfl) ?_
      refine pw_get (ci := 4) (C := RX4) (T := TX4) (N := 23) hx hb hts inX4 hown hK hP m0 e0 rfl 10 (by decide) (hts _ mw_337) (fun _ h9 => h9) rfl dX4_left_25 ?_
      refine lv_icmp_ge (tgt := 96) hx hb dX4_left_28 (by decide) (fun c_28 => ?_) (fun c_28 => ?_)
      · have hk2 : k = nM := Nat.le_antisymm hk (nI_of_le c_28 (by omega))
        subst hk2
        refine lv_lload_n hx hb dX4_left_96 rfl (lv_at hl 1 rfl) ?_
        exact pr_retl hx hb hr hlocks dX4_left_97 (by simp [sR_left, hxi])
      · have hk2 : k < nM := nI_of_ge c_28 (by omega)
        refine lv_aload_n hx hb dX4_left_31 rfl (lv_at hl 2 rfl) ?_
        refine pw_get (ci := 4) (C := RX4) (T := TX4) (N := 23) hx hb hts inX4 hown hK hP m0 e0 rfl 11 (by decide) (hts _ mw_338) (fun _ h9 => h9) rfl dX4_left_32 ?_
        refine lv_iload hx hb dX4_left_35 (lv_at hl 0 rfl) ?_
        refine pw_ialdN (k := k) hx hb hK hP m9 0 e9 rfl (by omega) (by decide) dX4_left_37 ?_
        refine lv_iload_n hx hb dX4_left_38 rfl (lv_at hl 3 rfl) ?_
        refine lv_icmp_ne (tgt := 68) hx hb dX4_left_39 (by decide) (fun c_39 => ?_) (fun c_39 => ?_)
        · refine lv_iconst (v := 0) hx hb dX4_left_68 (by decide) ?_
          refine lv_istore (lv' := [(5, .int 0), (4, .int (nI k)), (2, .long (sR_lf A Bq (Bq 1 i) (nI i) k)), (0, .ref (ad 0)), (1, .int (nI i))]) hx hb dX4_left_69 hl (by decide) rfl (fun ls hl => ?_)
          refine lv_lload_n hx hb dX4_left_71 rfl (lv_at hl 2 rfl) ?_
          refine lv_iload hx hb dX4_left_72 (lv_at hl 0 rfl) ?_
          refine lv_if_eq (tgt := 87) hx hb dX4_left_74 (by decide) (fun c_74 => ?_) (fun c_74 => ?_)
          · refine lv_lconst (v := 0) hx hb dX4_left_87 (by decide) ?_
            refine lv_lsub hx hb dX4_left_88 ?_
            refine lv_lstore_n (lv' := [(2, .long ((sR_lf A Bq (Bq 1 i) (nI i) k) - 0)), (5, .int 0), (4, .int (nI k)), (0, .ref (ad 0)), (1, .int (nI i))]) hx hb dX4_left_89 rfl hl (by decide) rfl (fun ls hl => ?_)
            obtain ⟨z_2, ez_2⟩ : ∃ z : Int32, z = (nI k) + 1 := ⟨_, rfl⟩
            refine lv_iinc (v := z_2) (lv' := [(4, .int z_2), (2, .long ((sR_lf A Bq (Bq 1 i) (nI i) k) - 0)), (5, .int 0), (0, .ref (ad 0)), (1, .int (nI i))]) hx hb dX4_left_90 hl (k := 2) rfl (by rw [ez_2]; rfl) (by decide) rfl (fun ls hl => ?_)
            refine lv_goto (tgt := 22) hx hb dX4_left_93 (by decide) ?_
            obtain rfl : z_2 = nI (k + 1) := by rw [ez_2]; exact nI_1 k
            have hsum : sR_lf A Bq (Bq 1 i) (nI i) (k + 1) = (sR_lf A Bq (Bq 1 i) (nI i) k) - 0 := by simp [sR_lf, hxi, c_39]
            rw [← hsum] at hl
            exact ih (k + 1) (by show k + 1 ≤ nM; omega) (by show nM - (k + 1) < nM - k; omega) ls (lv_sub hl [0, 1, 3, 4] rfl)
          · exact absurd c_74 (by decide)
        · refine lv_aload_n hx hb dX4_left_42 rfl (lv_at hl 2 rfl) ?_
          refine pw_get (ci := 4) (C := RX4) (T := TX4) (N := 23) hx hb hts inX4 hown hK hP m0 e0 rfl 14 (by decide) (hts _ mw_341) (fun _ h9 => h9) rfl dX4_left_43 ?_
          refine lv_iload hx hb dX4_left_46 (lv_at hl 0 rfl) ?_
          refine pw_ialdN (k := k) hx hb hK hP m12 0 e12 rfl (by omega) (by decide) dX4_left_48 ?_
          refine lv_iconst (v := 4) hx hb dX4_left_49 (by decide) ?_
          refine lv_icmp_eq (tgt := 68) hx hb dX4_left_50 (by decide) (fun c_50 => ?_) (fun c_50 => ?_)
          · refine lv_iconst (v := 0) hx hb dX4_left_68 (by decide) ?_
            refine lv_istore (lv' := [(5, .int 0), (4, .int (nI k)), (2, .long (sR_lf A Bq (Bq 1 i) (nI i) k)), (0, .ref (ad 0)), (1, .int (nI i))]) hx hb dX4_left_69 hl (by decide) rfl (fun ls hl => ?_)
            refine lv_lload_n hx hb dX4_left_71 rfl (lv_at hl 2 rfl) ?_
            refine lv_iload hx hb dX4_left_72 (lv_at hl 0 rfl) ?_
            refine lv_if_eq (tgt := 87) hx hb dX4_left_74 (by decide) (fun c_74 => ?_) (fun c_74 => ?_)
            · refine lv_lconst (v := 0) hx hb dX4_left_87 (by decide) ?_
              refine lv_lsub hx hb dX4_left_88 ?_
              refine lv_lstore_n (lv' := [(2, .long ((sR_lf A Bq (Bq 1 i) (nI i) k) - 0)), (5, .int 0), (4, .int (nI k)), (0, .ref (ad 0)), (1, .int (nI i))]) hx hb dX4_left_89 rfl hl (by decide) rfl (fun ls hl => ?_)
              obtain ⟨z_3, ez_3⟩ : ∃ z : Int32, z = (nI k) + 1 := ⟨_, rfl⟩
              refine lv_iinc (v := z_3) (lv' := [(4, .int z_3), (2, .long ((sR_lf A Bq (Bq 1 i) (nI i) k) - 0)), (5, .int 0), (0, .ref (ad 0)), (1, .int (nI i))]) hx hb dX4_left_90 hl (k := 2) rfl (by rw [ez_3]; rfl) (by decide) rfl (fun ls hl => ?_)
              refine lv_goto (tgt := 22) hx hb dX4_left_93 (by decide) ?_
              obtain rfl : z_3 = nI (k + 1) := by rw [ez_3]; exact nI_1 k
              have hsum : sR_lf A Bq (Bq 1 i) (nI i) (k + 1) = (sR_lf A Bq (Bq 1 i) (nI i) k) - 0 := by simp [sR_lf, hxi, c_39, c_50]
              rw [← hsum] at hl
              exact ih (k + 1) (by show k + 1 ≤ nM; omega) (by show nM - (k + 1) < nM - k; omega) ls (lv_sub hl [0, 1, 3, 4] rfl)
            · exact absurd c_74 (by decide)
          · refine lv_aload_n hx hb dX4_left_53 rfl (lv_at hl 2 rfl) ?_
            refine pw_get (ci := 4) (C := RX4) (T := TX4) (N := 23) hx hb hts inX4 hown hK hP m0 e0 rfl 14 (by decide) (hts _ mw_341) (fun _ h9 => h9) rfl dX4_left_54 ?_
            refine lv_iload hx hb dX4_left_57 (lv_at hl 0 rfl) ?_
            refine pw_ialdN (k := k) hx hb hK hP m12 0 e12 rfl (by omega) (by decide) dX4_left_59 ?_
            refine lv_iconst (v := 5) hx hb dX4_left_60 (by decide) ?_
            refine lv_icmp_eq (tgt := 68) hx hb dX4_left_61 (by decide) (fun c_61 => ?_) (fun c_61 => ?_)
            · refine lv_iconst (v := 0) hx hb dX4_left_68 (by decide) ?_
              refine lv_istore (lv' := [(5, .int 0), (4, .int (nI k)), (2, .long (sR_lf A Bq (Bq 1 i) (nI i) k)), (0, .ref (ad 0)), (1, .int (nI i))]) hx hb dX4_left_69 hl (by decide) rfl (fun ls hl => ?_)
              refine lv_lload_n hx hb dX4_left_71 rfl (lv_at hl 2 rfl) ?_
              refine lv_iload hx hb dX4_left_72 (lv_at hl 0 rfl) ?_
              refine lv_if_eq (tgt := 87) hx hb dX4_left_74 (by decide) (fun c_74 => ?_) (fun c_74 => ?_)
              · refine lv_lconst (v := 0) hx hb dX4_left_87 (by decide) ?_
                refine lv_lsub hx hb dX4_left_88 ?_
                refine lv_lstore_n (lv' := [(2, .long ((sR_lf A Bq (Bq 1 i) (nI i) k) - 0)), (5, .int 0), (4, .int (nI k)), (0, .ref (ad 0)), (1, .int (nI i))]) hx hb dX4_left_89 rfl hl (by decide) rfl (fun ls hl => ?_)
                obtain ⟨z_4, ez_4⟩ : ∃ z : Int32, z = (nI k) + 1 := ⟨_, rfl⟩
                refine lv_iinc (v := z_4) (lv' := [(4, .int z_4), (2, .long ((sR_lf A Bq (Bq 1 i) (nI i) k) - 0)), (5, .int 0), (0, .ref (ad 0)), (1, .int (nI i))]) hx hb dX4_left_90 hl (k := 2) rfl (by rw [ez_4]; rfl) (by decide) rfl (fun ls hl => ?_)
                refine lv_goto (tgt := 22) hx hb dX4_left_93 (by decide) ?_
                obtain rfl : z_4 = nI (k + 1) := by rw [ez_4]; exact nI_1 k
                have hsum : sR_lf A Bq (Bq 1 i) (nI i) (k + 1) = (sR_lf A Bq (Bq 1 i) (nI i) k) - 0 := by simp [sR_lf, hxi, c_39, c_50, c_61]
                rw [← hsum] at hl
                exact ih (k + 1) (by show k + 1 ≤ nM; omega) (by show nM - (k + 1) < nM - k; omega) ls (lv_sub hl [0, 1, 3, 4] rfl)
              · exact absurd c_74 (by decide)
            · refine lv_iconst (v := 1) hx hb dX4_left_64 (by decide) ?_
              refine lv_goto (tgt := 69) hx hb dX4_left_65 (by decide) ?_
              refine lv_istore (lv' := [(5, .int 1), (4, .int (nI k)), (2, .long (sR_lf A Bq (Bq 1 i) (nI i) k)), (0, .ref (ad 0)), (1, .int (nI i))]) hx hb dX4_left_69 hl (by decide) rfl (fun ls hl => ?_)
              refine lv_lload_n hx hb dX4_left_71 rfl (lv_at hl 2 rfl) ?_
              refine lv_iload hx hb dX4_left_72 (lv_at hl 0 rfl) ?_
              refine lv_if_eq (tgt := 87) hx hb dX4_left_74 (by decide) (fun c_74 => ?_) (fun c_74 => ?_)
              · exact absurd c_74 (by decide)
              · refine lv_aload_n hx hb dX4_left_77 rfl (lv_at hl 3 rfl) ?_
                refine pw_get (ci := 4) (C := RX4) (T := TX4) (N := 23) hx hb hts inX4 hown hK hP m0 e0 rfl 12 (by decide) (hts _ mw_339) (fun _ h9 => h9) rfl dX4_left_78 ?_
                refine lv_iload hx hb dX4_left_81 (lv_at hl 1 rfl) ?_
                refine pw_laldN (k := k) hx hb hK hP m10 3 e10 rfl (by omega) (by decide) dX4_left_83 ?_
                refine lv_goto (tgt := 88) hx hb dX4_left_84 (by decide) ?_
                refine lv_lsub hx hb dX4_left_88 ?_
                refine lv_lstore_n (lv' := [(2, .long ((sR_lf A Bq (Bq 1 i) (nI i) k) - ((Bq 10) k))), (5, .int 1), (4, .int (nI k)), (0, .ref (ad 0)), (1, .int (nI i))]) hx hb dX4_left_89 rfl hl (by decide) rfl (fun ls hl => ?_)
                obtain ⟨z_5, ez_5⟩ : ∃ z : Int32, z = (nI k) + 1 := ⟨_, rfl⟩
                refine lv_iinc (v := z_5) (lv' := [(4, .int z_5), (2, .long ((sR_lf A Bq (Bq 1 i) (nI i) k) - ((Bq 10) k))), (5, .int 1), (0, .ref (ad 0)), (1, .int (nI i))]) hx hb dX4_left_90 hl (k := 2) rfl (by rw [ez_5]; rfl) (by decide) rfl (fun ls hl => ?_)
                refine lv_goto (tgt := 22) hx hb dX4_left_93 (by decide) ?_
                obtain rfl : z_5 = nI (k + 1) := by rw [ez_5]; exact nI_1 k
                have hsum : sR_lf A Bq (Bq 1 i) (nI i) (k + 1) = (sR_lf A Bq (Bq 1 i) (nI i) k) - ((Bq 10) k) := by simp [sR_lf, hxi, c_39, c_50, c_61]
                rw [← hsum] at hl
                exact ih (k + 1) (by show k + 1 ≤ nM; omega) (by show nM - (k + 1) < nM - k; omega) ls (lv_sub hl [0, 1, 3, 4] rfl)
    · exact absurd c_5 (by decide)

set_option maxHeartbeats 4000000 in
set_option maxRecDepth 100000 in
theorem k_R_held (l : Launch) (G : va_G) (cs : Nat → ClassId) (L : List Nat) (f : Nat → va_E) (ad : Nat → Nat) (t lm : Int32) (nN nM : Nat) (rs lk : Int32) (A : RA) (Bq : RB) (n : Int32) (h0 : RS cs L f ad t lm nN nM rs lk A Bq) (hw : ∀ i, i < nN → ¬ Bq 1 i = 0) : Met l yX4_held (Cond.code yX4_held cX4_held 8 (some FieldType.long) :: wg) ({ frames := 1, cells := 0, slots := 0, locals := 21 }) (pr_P [.ref (ad 0), .int n] G vwCl (tyl cs) L f (fun _ => True)) (vp_Sl (fun r => r = sR_held nN nM A Bq n)) 0 0 (fun _ => False) := by
  refine Met.ofW (cc := cX4_held) (maxL := 8) (ret := (some FieldType.long)) (by decide) rfl ?_
  intro p e s m args below meth c s₁ B hml hv
  obtain ⟨rfl, hP, hK, hX⟩ := hv
  have hx := B.exec
  have hb := B.bytes
  have hr := B.returns
  have hts0 := atoms_spec (ws := (Cond.code yX4_held cX4_held 8 (some FieldType.long) :: wg)) B.pre
  have hts := fun (w : Cond) (h : w ∈ wg) => hts0 w (List.mem_cons_of_mem _ h)
  have hown : s.vm.findClass RX4 = some m.cls := findClass_of_methodNamed B.named
  have hlocks := B.notSynchronized
  have hl := lv_entry ([.ref (ad 0), .int n]) (n := 8) (Nat.le_of_ble_eq_true rfl)
  rw [lg_entry_eq]
  generalize (lg_sl ([.ref (ad 0), .int n]) ++ List.replicate (8 - (lg_sl ([.ref (ad 0), .int n])).length) Slot.unset).toArray = ls at hl ⊢
  have hl : lv_has ls 8 [(0, .ref (ad 0)), (1, .int n)] := hl
  have hN6 := h0.nN6
  have hM12 := h0.nM12
  have m0 := h0.mem 0 (by decide)
  have e0 := h0.e0
  have m1 := h0.mem 1 (by decide)
  have e1 : f (ad 1) = .inl (cs 3, 6, .inr (.inl (Bq 1))) := h0.ea 1 (by decide) (by decide)
  have m4 := h0.mem 4 (by decide)
  have e4 : f (ad 4) = .inl (cs 3, 6, .inr (.inl (Bq 4))) := h0.ea 4 (by decide) (by decide)
  have m9 := h0.mem 9 (by decide)
  have e9 : f (ad 9) = .inl (cs 0, 12, .inl (A 9)) := h0.ea 9 (by decide) (by decide)
  have m10 := h0.mem 10 (by decide)
  have e10 : f (ad 10) = .inl (cs 3, 12, .inr (.inl (Bq 10))) := h0.ea 10 (by decide) (by decide)
  have m12 := h0.mem 12 (by decide)
  have e12 : f (ad 12) = .inl (cs 0, 12, .inl (A 12)) := h0.ea 12 (by decide) (by decide)
  refine lv_aload_n hx hb dX4_held_0 rfl (lv_at hl 0 rfl) ?_
  refine lv_iload_n hx hb dX4_held_1 rfl (lv_at hl 1 rfl) ?_
  refine pr_callVi (As := [.int n]) (rest := []) ⟨hx, hb, hml, hown, hts⟩ (k_R_isN l G cs L f ad t lm nN nM rs lk A Bq n h0) (cwV 1 hts (wg_V mw_419 mw_421 ms_11 mw_3 mw_422) rfl rfl rfl (by decide +kernel) ⟨Nat.le_of_ble_eq_true rfl, Nat.le_of_ble_eq_true rfl⟩) hK hP m0 e0 rfl px_T (fun _ _ _ => trivial) rfl hl.1 rfl (lv_room (Nat.le_of_ble_eq_true rfl)) dX4_held_2 ⟨Nat.le_of_ble_eq_true rfl, Nat.le_of_ble_eq_true rfl⟩ (fun r_1 hr_1 => ?_)
  rcases sp_in_cases (m := nN) (by omega) n with ⟨hxi, hsi⟩ | ⟨i, hi, eni, hxi, hsi⟩
  · obtain rfl : r_1 = 0 := by rw [hr_1, hsi]
    refine lv_if_ne (tgt := 12) hx hb dX4_held_5 (by decide) (fun c_5 => ?_) (fun c_5 => ?_)
    · exact absurd c_5 (by decide)
    · refine lv_ldc2 hx hb hown (hts _ mw_444) dX4_held_8 ?_
      exact pr_retl hx hb hr hlocks dX4_held_11 (by simp [sR_held, hxi])
  · obtain rfl : r_1 = 1 := by rw [hr_1, hsi]
    subst eni
    refine lv_if_ne (tgt := 12) hx hb dX4_held_5 (by decide) (fun c_5 => ?_) (fun c_5 => ?_)
    · refine lv_lconst (v := 0) hx hb dX4_held_12 (by decide) ?_
      refine lv_lstore_n (lv' := [(2, .long 0), (0, .ref (ad 0)), (1, .int (nI i))]) hx hb dX4_held_13 rfl hl (by decide) rfl (fun ls hl => ?_)
      refine lv_iconst (v := 0) hx hb dX4_held_14 (by decide) ?_
      refine lv_istore (lv' := [(4, .int 0), (2, .long 0), (0, .ref (ad 0)), (1, .int (nI i))]) hx hb dX4_held_15 hl (by decide) rfl (fun ls hl => ?_)
      refine pr_loop (σ := Nat) (nL := 8) (fun k => nM - k) (fun k => k ≤ nM) (fun k => [(4, .int (nI k)), (2, .long (sR_rc A Bq (nI i) k)), (0, .ref (ad 0)), (1, .int (nI i))]) ?_ 0 (Nat.zero_le _) ls (lv_sub hl [0, 1, 2, 3] rfl)
      intro k hk ih ls hl
      refine lv_iload hx hb dX4_held_17 (lv_at hl 0 rfl) ?_
      refine lv_aload_n hx hb dX4_held_19 rfl (lv_at hl 2 rfl) ?_
      refine pw_get (ci := 4) (C := RX4) (T := TX4) (N := 23) hx hb hts inX4 hown hK hP m0 e0 rfl 10 (by decide) (hts _ mw_337) (fun _ h9 => h9) rfl dX4_held_20 ?_
      refine lv_icmp_ge (tgt := 68) hx hb dX4_held_23 (by decide) (fun c_23 => ?_) (fun c_23 => ?_)
      · have hk2 : k = nM := Nat.le_antisymm hk (nI_of_le c_23 (by omega))
        subst hk2
        refine lv_aload_n hx hb dX4_held_68 rfl (lv_at hl 2 rfl) ?_
        refine pw_get (ci := 4) (C := RX4) (T := TX4) (N := 23) hx hb hts inX4 hown hK hP m0 e0 rfl 5 (by decide) (hts _ mw_332) (fun _ h9 => h9) rfl dX4_held_69 ?_
        refine lv_iload_n hx hb dX4_held_72 rfl (lv_at hl 3 rfl) ?_
        refine pw_laldN (k := i) hx hb hK hP m4 3 e4 rfl (by omega) (by decide) dX4_held_73 ?_
        refine lv_aload_n hx hb dX4_held_74 rfl (lv_at hl 2 rfl) ?_
        refine pw_get (ci := 4) (C := RX4) (T := TX4) (N := 23) hx hb hts inX4 hown hK hP m0 e0 rfl 2 (by decide) (hts _ mw_329) (fun _ h9 => h9) rfl dX4_held_75 ?_
        refine lv_iload_n hx hb dX4_held_78 rfl (lv_at hl 3 rfl) ?_
        refine pw_laldN (k := i) hx hb hK hP m1 3 e1 rfl (by omega) (by decide) dX4_held_79 ?_
        refine lv_ldiv hx hb dX4_held_80 (hw i hi) ?_
        refine lv_lstore (lv' := [(4, .long (((Bq 4) i) / ((Bq 1) i))), (2, .long (sR_rc A Bq (nI i) k)), (0, .ref (ad 0)), (1, .int (nI i))]) hx hb dX4_held_81 hl (by decide) rfl (fun ls hl => ?_)
        refine lv_aload_n hx hb dX4_held_83 rfl (lv_at hl 2 rfl) ?_
        refine pw_get (ci := 4) (C := RX4) (T := TX4) (N := 23) hx hb hts inX4 hown hK hP m0 e0 rfl 5 (by decide) (hts _ mw_332) (fun _ h9 => h9) rfl dX4_held_84 ?_
        refine lv_iload_n hx hb dX4_held_87 rfl (lv_at hl 3 rfl) ?_
        refine pw_laldN (k := i) hx hb hK hP m4 3 e4 rfl (by omega) (by decide) dX4_held_88 ?_
        refine lv_aload_n hx hb dX4_held_89 rfl (lv_at hl 2 rfl) ?_
        refine pw_get (ci := 4) (C := RX4) (T := TX4) (N := 23) hx hb hts inX4 hown hK hP m0 e0 rfl 2 (by decide) (hts _ mw_329) (fun _ h9 => h9) rfl dX4_held_90 ?_
        refine lv_iload_n hx hb dX4_held_93 rfl (lv_at hl 3 rfl) ?_
        refine pw_laldN (k := i) hx hb hK hP m1 3 e1 rfl (by omega) (by decide) dX4_held_94 ?_
        refine lv_lrem hx hb dX4_held_95 (hw i hi) ?_
        refine lv_lstore (lv' := [(6, .long (((Bq 4) i) - ((Bq 4) i) / ((Bq 1) i) * ((Bq 1) i))), (4, .long (((Bq 4) i) / ((Bq 1) i))), (2, .long (sR_rc A Bq (nI i) k)), (0, .ref (ad 0)), (1, .int (nI i))]) hx hb dX4_held_96 hl (by decide) rfl (fun ls hl => ?_)
        refine lv_aload_n hx hb dX4_held_98 rfl (lv_at hl 3 rfl) ?_
        refine pw_get (ci := 4) (C := RX4) (T := TX4) (N := 23) hx hb hts inX4 hown hK hP m0 e0 rfl 5 (by decide) (hts _ mw_332) (fun _ h9 => h9) rfl dX4_held_99 ?_
        refine lv_iload_n hx hb dX4_held_102 rfl (lv_at hl 4 rfl) ?_
        refine pw_laldN (k := i) hx hb hK hP m4 3 e4 rfl (by omega) (by decide) dX4_held_103 ?_
        refine lv_lload hx hb dX4_held_104 (lv_at hl 1 rfl) ?_
        refine lv_lload_n hx hb dX4_held_106 rfl (lv_at hl 2 rfl) ?_
        refine lv_lmul hx hb dX4_held_107 ?_
        refine lv_lload hx hb dX4_held_108 (lv_at hl 0 rfl) ?_
        refine lv_lload_n hx hb dX4_held_110 rfl (lv_at hl 2 rfl) ?_
        refine lv_lmul hx hb dX4_held_111 ?_
        refine lv_aload_n hx hb dX4_held_112 rfl (lv_at hl 3 rfl) ?_
        refine pw_get (ci := 4) (C := RX4) (T := TX4) (N := 23) hx hb hts inX4 hown hK hP m0 e0 rfl 2 (by decide) (hts _ mw_329) (fun _ h9 => h9) rfl dX4_held_113 ?_
        refine lv_iload_n hx hb dX4_held_116 rfl (lv_at hl 4 rfl) ?_
        refine pw_laldN (k := i) hx hb hK hP m1 3 e1 rfl (by omega) (by decide) dX4_held_117 ?_
        refine lv_ldiv hx hb dX4_held_118 (hw i hi) ?_
        refine lv_ladd hx hb dX4_held_119 ?_
        refine lv_lsub hx hb dX4_held_120 ?_
        exact pr_retl hx hb hr hlocks dX4_held_121 (by simp [sR_held, hxi])
      · have hk2 : k < nM := nI_of_ge c_23 (by omega)
        refine lv_lload_n hx hb dX4_held_26 rfl (lv_at hl 1 rfl) ?_
        refine lv_aload_n hx hb dX4_held_27 rfl (lv_at hl 2 rfl) ?_
        refine pw_get (ci := 4) (C := RX4) (T := TX4) (N := 23) hx hb hts inX4 hown hK hP m0 e0 rfl 11 (by decide) (hts _ mw_338) (fun _ h9 => h9) rfl dX4_held_28 ?_
        refine lv_iload hx hb dX4_held_31 (lv_at hl 0 rfl) ?_
        refine pw_ialdN (k := k) hx hb hK hP m9 0 e9 rfl (by omega) (by decide) dX4_held_33 ?_
        refine lv_iload_n hx hb dX4_held_34 rfl (lv_at hl 3 rfl) ?_
        refine lv_icmp_ne (tgt := 59) hx hb dX4_held_35 (by decide) (fun c_35 => ?_) (fun c_35 => ?_)
        · refine lv_lconst (v := 0) hx hb dX4_held_59 (by decide) ?_
          refine lv_ladd hx hb dX4_held_60 ?_
          refine lv_lstore_n (lv' := [(2, .long ((sR_rc A Bq (nI i) k) + 0)), (4, .int (nI k)), (0, .ref (ad 0)), (1, .int (nI i))]) hx hb dX4_held_61 rfl hl (by decide) rfl (fun ls hl => ?_)
          obtain ⟨z_2, ez_2⟩ : ∃ z : Int32, z = (nI k) + 1 := ⟨_, rfl⟩
          refine lv_iinc (v := z_2) (lv' := [(4, .int z_2), (2, .long ((sR_rc A Bq (nI i) k) + 0)), (0, .ref (ad 0)), (1, .int (nI i))]) hx hb dX4_held_62 hl (k := 1) rfl (by rw [ez_2]; rfl) (by decide) rfl (fun ls hl => ?_)
          refine lv_goto (tgt := 17) hx hb dX4_held_65 (by decide) ?_
          obtain rfl : z_2 = nI (k + 1) := by rw [ez_2]; exact nI_1 k
          have hsum : sR_rc A Bq (nI i) (k + 1) = (sR_rc A Bq (nI i) k) + 0 := by simp [sR_rc, hxi, c_35]
          rw [← hsum] at hl
          exact ih (k + 1) (by show k + 1 ≤ nM; omega) (by show nM - (k + 1) < nM - k; omega) ls (lv_sub hl [0, 1, 2, 3] rfl)
        · refine lv_aload_n hx hb dX4_held_38 rfl (lv_at hl 2 rfl) ?_
          refine pw_get (ci := 4) (C := RX4) (T := TX4) (N := 23) hx hb hts inX4 hown hK hP m0 e0 rfl 14 (by decide) (hts _ mw_341) (fun _ h9 => h9) rfl dX4_held_39 ?_
          refine lv_iload hx hb dX4_held_42 (lv_at hl 0 rfl) ?_
          refine pw_ialdN (k := k) hx hb hK hP m12 0 e12 rfl (by omega) (by decide) dX4_held_44 ?_
          refine lv_iconst (v := 3) hx hb dX4_held_45 (by decide) ?_
          refine lv_icmp_ne (tgt := 59) hx hb dX4_held_46 (by decide) (fun c_46 => ?_) (fun c_46 => ?_)
          · refine lv_lconst (v := 0) hx hb dX4_held_59 (by decide) ?_
            refine lv_ladd hx hb dX4_held_60 ?_
            refine lv_lstore_n (lv' := [(2, .long ((sR_rc A Bq (nI i) k) + 0)), (4, .int (nI k)), (0, .ref (ad 0)), (1, .int (nI i))]) hx hb dX4_held_61 rfl hl (by decide) rfl (fun ls hl => ?_)
            obtain ⟨z_3, ez_3⟩ : ∃ z : Int32, z = (nI k) + 1 := ⟨_, rfl⟩
            refine lv_iinc (v := z_3) (lv' := [(4, .int z_3), (2, .long ((sR_rc A Bq (nI i) k) + 0)), (0, .ref (ad 0)), (1, .int (nI i))]) hx hb dX4_held_62 hl (k := 1) rfl (by rw [ez_3]; rfl) (by decide) rfl (fun ls hl => ?_)
            refine lv_goto (tgt := 17) hx hb dX4_held_65 (by decide) ?_
            obtain rfl : z_3 = nI (k + 1) := by rw [ez_3]; exact nI_1 k
            have hsum : sR_rc A Bq (nI i) (k + 1) = (sR_rc A Bq (nI i) k) + 0 := by simp [sR_rc, hxi, c_35, c_46]
            rw [← hsum] at hl
            exact ih (k + 1) (by show k + 1 ≤ nM; omega) (by show nM - (k + 1) < nM - k; omega) ls (lv_sub hl [0, 1, 2, 3] rfl)
          · refine lv_aload_n hx hb dX4_held_49 rfl (lv_at hl 2 rfl) ?_
            refine pw_get (ci := 4) (C := RX4) (T := TX4) (N := 23) hx hb hts inX4 hown hK hP m0 e0 rfl 12 (by decide) (hts _ mw_339) (fun _ h9 => h9) rfl dX4_held_50 ?_
            refine lv_iload hx hb dX4_held_53 (lv_at hl 0 rfl) ?_
            refine pw_laldN (k := k) hx hb hK hP m10 3 e10 rfl (by omega) (by decide) dX4_held_55 ?_
            refine lv_goto (tgt := 60) hx hb dX4_held_56 (by decide) ?_
            refine lv_ladd hx hb dX4_held_60 ?_
            refine lv_lstore_n (lv' := [(2, .long ((sR_rc A Bq (nI i) k) + ((Bq 10) k))), (4, .int (nI k)), (0, .ref (ad 0)), (1, .int (nI i))]) hx hb dX4_held_61 rfl hl (by decide) rfl (fun ls hl => ?_)
            obtain ⟨z_4, ez_4⟩ : ∃ z : Int32, z = (nI k) + 1 := ⟨_, rfl⟩
            refine lv_iinc (v := z_4) (lv' := [(4, .int z_4), (2, .long ((sR_rc A Bq (nI i) k) + ((Bq 10) k))), (0, .ref (ad 0)), (1, .int (nI i))]) hx hb dX4_held_62 hl (k := 1) rfl (by rw [ez_4]; rfl) (by decide) rfl (fun ls hl => ?_)
            refine lv_goto (tgt := 17) hx hb dX4_held_65 (by decide) ?_
            obtain rfl : z_4 = nI (k + 1) := by rw [ez_4]; exact nI_1 k
            have hsum : sR_rc A Bq (nI i) (k + 1) = (sR_rc A Bq (nI i) k) + ((Bq 10) k) := by simp [sR_rc, hxi, c_35, c_46]
            rw [← hsum] at hl
            exact ih (k + 1) (by show k + 1 ≤ nM; omega) (by show nM - (k + 1) < nM - k; omega) ls (lv_sub hl [0, 1, 2, 3] rfl)
    · exact absurd c_5 (by decide)

set_option maxHeartbeats 4000000 in
set_option maxRecDepth 100000 in
theorem k_R_late (l : Launch) (G : va_G) (cs : Nat → ClassId) (L : List Nat) (f : Nat → va_E) (ad : Nat → Nat) (t lm : Int32) (nN nM : Nat) (rs lk : Int32) (A : RA) (Bq : RB) (k_ : Int32) (h0 : RS cs L f ad t lm nN nM rs lk A Bq) : Met l yX4_late (Cond.code yX4_late cX4_late 4 (some FieldType.int) :: wg) ({ frames := 0, cells := 0, slots := 0, locals := 0 }) (pr_P [.ref (ad 0), .int k_] G vwCl (tyl cs) L f (fun _ => True)) (vp_Si (fun r => r = sR_lt t lm A k_ nM 0 0)) 0 0 (fun _ => False) := by
  refine Met.ofW (cc := cX4_late) (maxL := 4) (ret := (some FieldType.int)) (by decide) rfl ?_
  intro p e s m args below meth c s₁ B hml hv
  obtain ⟨rfl, hP, hK, hX⟩ := hv
  have hx := B.exec
  have hb := B.bytes
  have hr := B.returns
  have hts0 := atoms_spec (ws := (Cond.code yX4_late cX4_late 4 (some FieldType.int) :: wg)) B.pre
  have hts := fun (w : Cond) (h : w ∈ wg) => hts0 w (List.mem_cons_of_mem _ h)
  have hown : s.vm.findClass RX4 = some m.cls := findClass_of_methodNamed B.named
  have hlocks := B.notSynchronized
  have hl := lv_entry ([.ref (ad 0), .int k_]) (n := 4) (Nat.le_of_ble_eq_true rfl)
  rw [lg_entry_eq]
  generalize (lg_sl ([.ref (ad 0), .int k_]) ++ List.replicate (4 - (lg_sl ([.ref (ad 0), .int k_])).length) Slot.unset).toArray = ls at hl ⊢
  have hl : lv_has ls 4 [(0, .ref (ad 0)), (1, .int k_)] := hl
  have hN6 := h0.nN6
  have hM12 := h0.nM12
  have m0 := h0.mem 0 (by decide)
  have e0 := h0.e0
  have m12 := h0.mem 12 (by decide)
  have e12 : f (ad 12) = .inl (cs 0, 12, .inl (A 12)) := h0.ea 12 (by decide) (by decide)
  have m13 := h0.mem 13 (by decide)
  have e13 : f (ad 13) = .inl (cs 0, 12, .inl (A 13)) := h0.ea 13 (by decide) (by decide)
  refine lv_iconst (v := 0) hx hb dX4_late_0 (by decide) ?_
  refine lv_istore_n (lv' := [(2, .int 0), (0, .ref (ad 0)), (1, .int k_)]) hx hb dX4_late_1 rfl hl (by decide) rfl (fun ls hl => ?_)
  refine lv_iconst (v := 0) hx hb dX4_late_2 (by decide) ?_
  refine lv_istore_n (lv' := [(3, .int 0), (2, .int 0), (0, .ref (ad 0)), (1, .int k_)]) hx hb dX4_late_3 rfl hl (by decide) rfl (fun ls hl => ?_)
  refine pr_loop (σ := Nat × Int32) (nL := 4) (fun x => nM - x.1) (fun x => x.1 ≤ nM ∧ sR_lt t lm A k_ (nM - x.1) x.1 x.2 = sR_lt t lm A k_ nM 0 0) (fun x => [(3, .int (nI x.1)), (2, .int x.2), (0, .ref (ad 0)), (1, .int k_)]) ?_ (0, 0) ⟨Nat.zero_le _, rfl⟩ ls (lv_sub hl [0, 1, 2, 3] rfl)
  rintro ⟨k, b_⟩ ⟨hk, hI2⟩ ih ls hl
  have hk : k ≤ nM := hk
  have hI2 : sR_lt t lm A k_ (nM - k) k b_ = sR_lt t lm A k_ nM 0 0 := hI2
  have hl : lv_has ls 4 [(3, .int (nI k)), (2, .int b_), (0, .ref (ad 0)), (1, .int k_)] := hl
  refine lv_iload_n hx hb dX4_late_4 rfl (lv_at hl 0 rfl) ?_
  refine lv_aload_n hx hb dX4_late_5 rfl (lv_at hl 2 rfl) ?_
  refine pw_get (ci := 4) (C := RX4) (T := TX4) (N := 23) hx hb hts inX4 hown hK hP m0 e0 rfl 10 (by decide) (hts _ mw_337) (fun _ h9 => h9) rfl dX4_late_6 ?_
  refine lv_icmp_ge (tgt := 56) hx hb dX4_late_9 (by decide) (fun c_9 => ?_) (fun c_9 => ?_)
  · have hk2 : k = nM := Nat.le_antisymm hk (nI_of_le c_9 (by omega))
    subst hk2
    refine lv_iconst (v := (-1)) hx hb dX4_late_56 (by decide) ?_
    exact pr_reti hx hb hr hlocks dX4_late_57 (by rw [← hI2, Nat.sub_self]; rfl)
  · have hk2 : k < nM := nI_of_ge c_9 (by omega)
    refine lv_aload_n hx hb dX4_late_12 rfl (lv_at hl 2 rfl) ?_
    refine pw_get (ci := 4) (C := RX4) (T := TX4) (N := 23) hx hb hts inX4 hown hK hP m0 e0 rfl 14 (by decide) (hts _ mw_341) (fun _ h9 => h9) rfl dX4_late_13 ?_
    refine lv_iload_n hx hb dX4_late_16 rfl (lv_at hl 0 rfl) ?_
    refine pw_ialdN (k := k) hx hb hK hP m12 0 e12 rfl (by omega) (by decide) dX4_late_17 ?_
    refine lv_iconst (v := 2) hx hb dX4_late_18 (by decide) ?_
    refine lv_icmp_ne (tgt := 50) hx hb dX4_late_19 (by decide) (fun c_19 => ?_) (fun c_19 => ?_)
    · obtain ⟨z_1, ez_1⟩ : ∃ z : Int32, z = (nI k) + 1 := ⟨_, rfl⟩
      refine lv_iinc (v := z_1) (lv' := [(3, .int z_1), (2, .int b_), (0, .ref (ad 0)), (1, .int k_)]) hx hb dX4_late_50 hl (k := 0) rfl (by rw [ez_1]; rfl) (by decide) rfl (fun ls hl => ?_)
      refine lv_goto (tgt := 4) hx hb dX4_late_53 (by decide) ?_
      obtain rfl : z_1 = nI (k + 1) := by rw [ez_1]; exact nI_1 k
      refine ih (k + 1, b_) ⟨(by show k + 1 ≤ nM; omega), ?_⟩ (by show nM - (k + 1) < nM - k; omega) ls (lv_sub hl [0, 1, 2, 3] rfl)
      rw [← hI2, show nM - k = (nM - (k + 1)) + 1 by omega]
      simp [sR_lt, c_19]
    · refine lv_aload_n hx hb dX4_late_22 rfl (lv_at hl 2 rfl) ?_
      refine pw_get (ci := 4) (C := RX4) (T := TX4) (N := 23) hx hb hts inX4 hown hK hP m0 e0 rfl 0 (by decide) (hts _ mw_327) (fun _ h9 => h9) rfl dX4_late_23 ?_
      refine lv_aload_n hx hb dX4_late_26 rfl (lv_at hl 2 rfl) ?_
      refine pw_get (ci := 4) (C := RX4) (T := TX4) (N := 23) hx hb hts inX4 hown hK hP m0 e0 rfl 15 (by decide) (hts _ mw_342) (fun _ h9 => h9) rfl dX4_late_27 ?_
      refine lv_iload_n hx hb dX4_late_30 rfl (lv_at hl 0 rfl) ?_
      refine pw_ialdN (k := k) hx hb hK hP m13 0 e13 rfl (by omega) (by decide) dX4_late_31 ?_
      refine lv_isub hx hb dX4_late_32 ?_
      refine lv_aload_n hx hb dX4_late_33 rfl (lv_at hl 2 rfl) ?_
      refine pw_get (ci := 4) (C := RX4) (T := TX4) (N := 23) hx hb hts inX4 hown hK hP m0 e0 rfl 20 (by decide) (hts _ mw_347) (fun _ h9 => h9) rfl dX4_late_34 ?_
      refine lv_icmp_le (tgt := 50) hx hb dX4_late_37 (by decide) (fun c_37 => ?_) (fun c_37 => ?_)
      · obtain ⟨z_2, ez_2⟩ : ∃ z : Int32, z = (nI k) + 1 := ⟨_, rfl⟩
        refine lv_iinc (v := z_2) (lv' := [(3, .int z_2), (2, .int b_), (0, .ref (ad 0)), (1, .int k_)]) hx hb dX4_late_50 hl (k := 0) rfl (by rw [ez_2]; rfl) (by decide) rfl (fun ls hl => ?_)
        refine lv_goto (tgt := 4) hx hb dX4_late_53 (by decide) ?_
        obtain rfl : z_2 = nI (k + 1) := by rw [ez_2]; exact nI_1 k
        refine ih (k + 1, b_) ⟨(by show k + 1 ≤ nM; omega), ?_⟩ (by show nM - (k + 1) < nM - k; omega) ls (lv_sub hl [0, 1, 2, 3] rfl)
        rw [← hI2, show nM - k = (nM - (k + 1)) + 1 by omega]
        simp [sR_lt, c_19, c_37]
      · refine lv_iload_n hx hb dX4_late_40 rfl (lv_at hl 1 rfl) ?_
        refine lv_iload_n hx hb dX4_late_41 rfl (lv_at hl 3 rfl) ?_
        refine lv_icmp_ne (tgt := 47) hx hb dX4_late_42 (by decide) (fun c_42 => ?_) (fun c_42 => ?_)
        · obtain ⟨z_3, ez_3⟩ : ∃ z : Int32, z = b_ + 1 := ⟨_, rfl⟩
          refine lv_iinc (v := z_3) (lv' := [(2, .int z_3), (3, .int (nI k)), (0, .ref (ad 0)), (1, .int k_)]) hx hb dX4_late_47 hl (k := 1) rfl (by rw [ez_3]; rfl) (by decide) rfl (fun ls hl => ?_)
          obtain ⟨z_4, ez_4⟩ : ∃ z : Int32, z = (nI k) + 1 := ⟨_, rfl⟩
          refine lv_iinc (v := z_4) (lv' := [(3, .int z_4), (2, .int z_3), (0, .ref (ad 0)), (1, .int k_)]) hx hb dX4_late_50 hl (k := 1) rfl (by rw [ez_4]; rfl) (by decide) rfl (fun ls hl => ?_)
          refine lv_goto (tgt := 4) hx hb dX4_late_53 (by decide) ?_
          obtain rfl : z_4 = nI (k + 1) := by rw [ez_4]; exact nI_1 k
          subst ez_3
          refine ih (k + 1, b_ + 1) ⟨(by show k + 1 ≤ nM; omega), ?_⟩ (by show nM - (k + 1) < nM - k; omega) ls (lv_sub hl [0, 1, 2, 3] rfl)
          rw [← hI2, show nM - k = (nM - (k + 1)) + 1 by omega]
          simp [sR_lt, c_19, c_37, c_42]
        · refine lv_iload_n hx hb dX4_late_45 rfl (lv_at hl 0 rfl) ?_
          exact pr_reti hx hb hr hlocks dX4_late_46 (by rw [← hI2, show nM - k = (nM - (k + 1)) + 1 by omega]; simp [sR_lt, c_19, c_37, c_42])

set_option maxHeartbeats 4000000 in
set_option maxRecDepth 100000 in
theorem k_R_back (l : Launch) (G : va_G) (cs : Nat → ClassId) (L : List Nat) (f : Nat → va_E) (ad : Nat → Nat) (t lm : Int32) (nN nM : Nat) (rs lk : Int32) (A : RA) (Bq : RB) (m_ k_ : Int32) (h0 : RS cs L f ad t lm nN nM rs lk A Bq) (hcc : ∀ j, j < nM → A 15 j = nI (sR_cc A j) ∧ sR_cc A j ≤ 6) : Met l yX4_back (Cond.code yX4_back cX4_back 3 (some FieldType.int) :: wg) ({ frames := 1, cells := 0, slots := 0, locals := 21 }) (pr_P [.ref (ad 0), .int m_, .int k_] G vwCl (tyl cs) L f (fun _ => True)) (vp_Si (fun r => r = sR_back nM A m_ k_)) 0 0 (fun _ => False) := by
  refine Met.ofW (cc := cX4_back) (maxL := 3) (ret := (some FieldType.int)) (by decide) rfl ?_
  intro p e s m args below meth c s₁ B hml hv
  obtain ⟨rfl, hP, hK, hX⟩ := hv
  have hx := B.exec
  have hb := B.bytes
  have hr := B.returns
  have hts0 := atoms_spec (ws := (Cond.code yX4_back cX4_back 3 (some FieldType.int) :: wg)) B.pre
  have hts := fun (w : Cond) (h : w ∈ wg) => hts0 w (List.mem_cons_of_mem _ h)
  have hown : s.vm.findClass RX4 = some m.cls := findClass_of_methodNamed B.named
  have hlocks := B.notSynchronized
  have hl := lv_entry ([.ref (ad 0), .int m_, .int k_]) (n := 3) (Nat.le_of_ble_eq_true rfl)
  rw [lg_entry_eq]
  generalize (lg_sl ([.ref (ad 0), .int m_, .int k_]) ++ List.replicate (3 - (lg_sl ([.ref (ad 0), .int m_, .int k_])).length) Slot.unset).toArray = ls at hl ⊢
  have hl : lv_has ls 3 [(0, .ref (ad 0)), (1, .int m_), (2, .int k_)] := hl
  have hN6 := h0.nN6
  have hM12 := h0.nM12
  have m0 := h0.mem 0 (by decide)
  have e0 := h0.e0
  have m15 := h0.mem 15 (by decide)
  have e15 : f (ad 15) = .inl (cs 0, 12, .inl (A 15)) := h0.ea 15 (by decide) (by decide)
  have m16 := h0.mem 16 (by decide)
  have e16 : f (ad 16) = .inl (cs 0, 72, .inl (A 16)) := h0.ea 16 (by decide) (by decide)
  refine lv_aload_n hx hb dX4_back_0 rfl (lv_at hl 0 rfl) ?_
  refine lv_iload_n hx hb dX4_back_1 rfl (lv_at hl 1 rfl) ?_
  refine pr_callVi (As := [.int m_]) (rest := []) ⟨hx, hb, hml, hown, hts⟩ (k_R_isM l G cs L f ad t lm nN nM rs lk A Bq m_ h0) (cwV 1 hts (wg_V mw_449 mw_451 ms_12 mw_3 mw_452) rfl rfl rfl (by decide +kernel) ⟨Nat.le_of_ble_eq_true rfl, Nat.le_of_ble_eq_true rfl⟩) hK hP m0 e0 rfl px_T (fun _ _ _ => trivial) rfl hl.1 rfl (lv_room (Nat.le_of_ble_eq_true rfl)) dX4_back_2 ⟨Nat.le_of_ble_eq_true rfl, Nat.le_of_ble_eq_true rfl⟩ (fun r_1 hr_1 => ?_)
  rcases sp_in_cases (m := nM) (by omega) m_ with ⟨hxj, hsj⟩ | ⟨j, hj, enj, hxj, hsj⟩
  · obtain rfl : r_1 = 0 := by rw [hr_1, hsj]
    refine lv_if_eq (tgt := 22) hx hb dX4_back_5 (by decide) (fun c_5 => ?_) (fun c_5 => ?_)
    · refine lv_iconst (v := (-1)) hx hb dX4_back_22 (by decide) ?_
      exact pr_reti hx hb hr hlocks dX4_back_23 (by simp [sR_back, hxj])
    · exact absurd c_5 (by decide)
  · obtain rfl : r_1 = 1 := by rw [hr_1, hsj]
    subst enj
    refine lv_if_eq (tgt := 22) hx hb dX4_back_5 (by decide) (fun c_5 => ?_) (fun c_5 => ?_)
    · exact absurd c_5 (by decide)
    · refine lv_iload_n hx hb dX4_back_8 rfl (lv_at hl 2 rfl) ?_
      refine lv_if_lt (tgt := 22) hx hb dX4_back_9 (by decide) (fun c_9 => ?_) (fun c_9 => ?_)
      · refine lv_iconst (v := (-1)) hx hb dX4_back_22 (by decide) ?_
        exact pr_reti hx hb hr hlocks dX4_back_23 (by simp [sR_back, hxj, c_9])
      · refine lv_iload_n hx hb dX4_back_12 rfl (lv_at hl 2 rfl) ?_
        refine lv_aload_n hx hb dX4_back_13 rfl (lv_at hl 0 rfl) ?_
        refine pw_get (ci := 4) (C := RX4) (T := TX4) (N := 23) hx hb hts inX4 hown hK hP m0 e0 rfl 17 (by decide) (hts _ mw_344) (fun _ h9 => h9) rfl dX4_back_14 ?_
        refine lv_iload_n hx hb dX4_back_17 rfl (lv_at hl 1 rfl) ?_
        refine pw_ialdN (k := j) hx hb hK hP m15 0 e15 rfl (by omega) (by decide) dX4_back_18 ?_
        rw [(hcc j hj).1]
        refine lv_icmp_lt (tgt := 24) hx hb dX4_back_19 (by decide) (fun c_19 => ?_) (fun c_19 => ?_)
        · obtain ⟨q, hq, rfl⟩ := nI_of c_9
          have hcc1 := (hcc j hj).2
          have hq1 : q < sR_cc A j := (nI_ltI hq (by omega)).mp c_19
          have hq2 : (nI q).toNatClampNeg = q := nI_clamp hq
          refine lv_aload_n hx hb dX4_back_24 rfl (lv_at hl 0 rfl) ?_
          refine pw_get (ci := 4) (C := RX4) (T := TX4) (N := 23) hx hb hts inX4 hown hK hP m0 e0 rfl 18 (by decide) (hts _ mw_345) (fun _ h9 => h9) rfl dX4_back_25 ?_
          refine lv_bipush (v := 6) hx hb dX4_back_28 (by decide) ?_
          refine lv_iload_n hx hb dX4_back_30 rfl (lv_at hl 1 rfl) ?_
          refine lv_imul hx hb dX4_back_31 ?_
          refine lv_aload_n hx hb dX4_back_32 rfl (lv_at hl 0 rfl) ?_
          refine pw_get (ci := 4) (C := RX4) (T := TX4) (N := 23) hx hb hts inX4 hown hK hP m0 e0 rfl 17 (by decide) (hts _ mw_344) (fun _ h9 => h9) rfl dX4_back_33 ?_
          refine lv_iload_n hx hb dX4_back_36 rfl (lv_at hl 1 rfl) ?_
          refine pw_ialdN (k := j) hx hb hK hP m15 0 e15 rfl (by omega) (by decide) dX4_back_37 ?_
          rw [(hcc j hj).1]
          refine lv_iadd hx hb dX4_back_38 ?_
          refine lv_iconst (v := 1) hx hb dX4_back_39 (by decide) ?_
          refine lv_isub hx hb dX4_back_40 ?_
          refine lv_iload_n hx hb dX4_back_41 rfl (lv_at hl 2 rfl) ?_
          refine lv_isub hx hb dX4_back_42 ?_
          have eix : (((6 * (nI j)) + (nI (sR_cc A j))) - 1) - (nI q) = nI (6 * j + sR_cc A j - 1 - q) := by rw [ld6, show (1 : Int32) = nI 1 from rfl, nI_sb (by omega), nI_sb (by omega)]
          rw [eix]
          refine pw_ialdN (k := 6 * j + sR_cc A j - 1 - q) hx hb hK hP m16 0 e16 rfl (by omega) (by decide) dX4_back_43 ?_
          exact pr_reti hx hb hr hlocks dX4_back_44 (by simp [sR_back, hxj, c_9, c_19, hq2, (hcc j hj).1])
        · refine lv_iconst (v := (-1)) hx hb dX4_back_22 (by decide) ?_
          exact pr_reti hx hb hr hlocks dX4_back_23 (by simp [sR_back, hxj, c_9, c_19, (hcc j hj).1])
