/-! The reference: its constructor. Laid by wip/gen/inits.py. -/
/-- the object's slots when its first k arrays stand -/
def rsf (ad : Nat → Nat) (k : Nat) : List Value := [.int 0, .int 0, (if 1 ≤ k then .ref (ad 1) else .null), (if 2 ≤ k then .ref (ad 2) else .null), (if 3 ≤ k then .ref (ad 3) else .null), (if 4 ≤ k then .ref (ad 4) else .null), (if 5 ≤ k then .ref (ad 5) else .null), (if 6 ≤ k then .ref (ad 6) else .null), (if 7 ≤ k then .ref (ad 7) else .null), (if 8 ≤ k then .ref (ad 8) else .null), .int 0, (if 9 ≤ k then .ref (ad 9) else .null), (if 10 ≤ k then .ref (ad 10) else .null), (if 11 ≤ k then .ref (ad 11) else .null), (if 12 ≤ k then .ref (ad 12) else .null), (if 13 ≤ k then .ref (ad 13) else .null), (if 14 ≤ k then .ref (ad 14) else .null), (if 15 ≤ k then .ref (ad 15) else .null), (if 16 ≤ k then .ref (ad 16) else .null), (if 17 ≤ k then .ref (ad 17) else .null), .int 0, .int 0, .int 0]
def IS (cs : Nat → ClassId) (L : List Nat) (f : Nat → va_E) (q : Nat) (ad : Nat → Nat) (k : Nat) : Prop := ad 0 = q ∧ (∀ r, r ≤ k → ad r ∈ L) ∧ (∀ r r', r ≤ k → r' ≤ k → ad r = ad r' → r = r') ∧ f q = .inr (4, rsf ad k) ∧ ∀ r, 1 ≤ r → r ≤ k → f (ad r) = rs_a cs (fun _ _ => 0) (fun _ _ => 0) r
theorem IS.mq {cs : Nat → ClassId} {L : List Nat} {f : Nat → va_E} {q : Nat} {ad : Nat → Nat} {k : Nat} (h : IS cs L f q ad k) : q ∈ L := by
  rw [← h.1]
  exact h.2.1 0 (Nat.zero_le _)
theorem IS.step {cs : Nat → ClassId} {L : List Nat} {f : Nat → va_E} {q : Nat} {ad : Nat → Nat} {k x : Nat} {c : va_E} {fs : List Value} (h : IS cs L f q ad k) (hx : x ∉ L) (hc : c = rs_a cs (fun _ _ => 0) (fun _ _ => 0) (k + 1)) (hfs : fs = rsf (va_up ad (k + 1) x) (k + 1)) : IS cs (L ++ [x]) (va_up (va_up f x c) q (.inr (4, fs))) q (va_up ad (k + 1) x) (k + 1) := by
  have hq := h.mq
  obtain ⟨h0, h1, h2, h3, h4⟩ := h
  have old : ∀ r, r ≤ k → va_up ad (k + 1) x r = ad r := fun r hr => va_up_ne _ _ (by omega)
  have new : va_up ad (k + 1) x (k + 1) = x := va_up_self _ _ _
  have out : ∀ r, r ≤ k → ad r ≠ x := fun r hr z => hx (z ▸ h1 r hr)
  refine ⟨(old 0 (Nat.zero_le _)).trans h0, fun r hr => ?_, fun r r' hr hr' e => ?_, by rw [va_up_self, hfs], fun r hr1 hr2 => ?_⟩
  · by_cases e : r ≤ k
    · rw [old r e]; exact List.mem_append_left _ (h1 r e)
    · rw [show r = k + 1 by omega, new]; exact List.mem_append_right _ (List.mem_singleton.mpr rfl)
  · by_cases e1 : r ≤ k <;> by_cases e2 : r' ≤ k
    · rw [old r e1, old r' e2] at e; exact h2 r r' e1 e2 e
    · rw [old r e1, show r' = k + 1 by omega, new] at e; exact absurd e (out r e1)
    · rw [old r' e2, show r = k + 1 by omega, new] at e; exact absurd e.symm (out r' e2)
    · omega
  · by_cases e : r ≤ k
    · rw [old r e, va_up_ne _ _ (fun z => by rw [← h0] at z; have := h2 r 0 e (Nat.zero_le _) z; omega), va_up_ne _ _ (out r e)]
      exact h4 r hr1 e
    · rw [show r = k + 1 by omega, new, va_up_ne _ _ (show x ≠ q from fun z => hx (by rw [z]; exact hq)), va_up_self, hc]

set_option maxHeartbeats 4000000 in
set_option maxRecDepth 100000 in
theorem k_R_init (l : Launch) (G : va_G) (cs : Nat → ClassId) (L : List Nat) (f : Nat → va_E) (sz : Nat) (q : Nat) (hq0 : q ∈ L) (he0 : f q = .inr (4, [.int 0, .int 0, .null, .null, .null, .null, .null, .null, .null, .null, .int 0, .null, .null, .null, .null, .null, .null, .null, .null, .null, .int 0, .int 0, .int 0])) : Met l yX4_init (Cond.code yX4_init cX4_init 1 none :: wg) ({ frames := 1, cells := 17, slots := 364, locals := 12 }) (pc_P [.ref q] G vwCl (tyl cs) L f sz (fun _ => True)) (va_Qv (fun u => ∃ (ad : Nat → Nat) (rs lk : Int32), ad 0 = q ∧ RS cs u.1 u.2 ad 0 365 0 0 rs lk (fun _ _ => 0) (fun _ _ => 0)) (pc_B G vwCl L sz) (pw_A L sz)) 17 364 (pw_A L sz) := by
  refine Met.ofW (cc := cX4_init) (maxL := 1) (ret := none) (by decide) rfl ?_
  intro p e s m args below meth c s₁ B hml hv
  obtain ⟨rfl, hsz, hP, hK, hD0, hX⟩ := hv
  have hx := B.exec
  have hb := B.bytes
  have hr := B.returns
  have hts0 := atoms_spec (ws := (Cond.code yX4_init cX4_init 1 none :: wg)) B.pre
  have hts := fun (w : Cond) (h : w ∈ wg) => hts0 w (List.mem_cons_of_mem _ h)
  have hown : s.vm.findClass RX4 = some m.cls := findClass_of_methodNamed B.named
  have hlocks := B.notSynchronized
  have hin : meth.name = "<init>" := (name_of_methodNamed B.named B.method).1
  subst hsz
  have hD := pw_selfD (sz := s.heap.size) hD0
  have hA : ∀ q : Nat, s.heap.size ≤ q → pw_A L s.heap.size q := fun q h => Or.inr h
  have hS : va_S (pw_A L s.heap.size) s.heap s.heap [] := va_S.rf
  have hl := lv_entry ([.ref q]) (n := 1) (Nat.le_of_ble_eq_true rfl)
  rw [lg_entry_eq]
  generalize (lg_sl ([.ref q]) ++ List.replicate (1 - (lg_sl ([.ref q])).length) Slot.unset).toArray = ls at hl ⊢
  have hl : lv_has ls 1 [(0, .ref q)] := hl
  have hI : IS cs L f q (fun _ => q) 0 := ⟨rfl, fun _ _ => hq0, fun r r' h1 h2 _ => by omega, he0, fun r h1 h2 => by omega⟩
  refine lv_aload_n hx hb dX4_init_0 rfl (lv_at hl 0 rfl) ?_
  refine W.objInit hx hb hown (hts _ mw_326) (hts _ mw_12) (hts _ mw_obj) rfl (by rw [hml]; exact hl.1) rfl dX4_init_1 (Nat.le_of_ble_eq_true rfl) (Nat.le_of_ble_eq_true rfl) ?_
  refine W.eq (g2 := F0 m 4 ls []) rfl ?_
  generalize hg0 : (fun _ : Nat => q) = g0 at hI
  refine lv_aload_n hx hb dX4_init_4 rfl (lv_at hl 0 rfl) ?_
  refine lv_bipush (v := 6) hx hb dX4_init_5 (by decide) ?_
  refine pw_newa (atype := .long) (ty := .long) (a0 := (6, .inr (.inl (fun _ => 0)))) hx hb (hts _ mw_397) rfl hK hP hD hS hA 3 rfl (fun _ h => h) (fun _ => rfl) (by decide) (by decide) (by decide) (Nat.le_of_ble_eq_true rfl) (Nat.le_of_ble_eq_true rfl) dX4_init_7 (fun x1 H hx1 hP hD hS => ?_)
  refine W.widen (k := 1) (n := 6) (Nat.le_refl _) (Nat.le_of_ble_eq_true rfl) ?_
  obtain ⟨ga, ega⟩ : ∃ z : Nat → va_E, z = va_up f x1 (.inl (cs 3, 6, .inr (.inl (fun _ => 0)))) := ⟨_, rfl⟩
  obtain ⟨L1, eL⟩ : ∃ z : List Nat, z = L ++ [x1] := ⟨_, rfl⟩
  have hP : va_P G vwCl (va_pl L1 ga) H := by rw [ega, eL]; exact hP
  have hD : va_D (pw_A L s.heap.size) (va_pl L1 ga) := by rw [ega, eL]; exact hD
  have hmq : q ∈ L1 := by rw [eL]; exact List.mem_append_left _ hI.mq
  have heq : ga q = .inr (4, rsf g0 0) := by rw [ega, va_up_ne _ _ (show q ≠ x1 from fun z => hx1 (by rw [← z]; exact hI.mq))]; exact hI.2.2.2.1
  refine pw_putF (ty := .array .long) (ci := 4) (v := .ref x1) (C := RX4) (T := TX4) (N := 23) hx hb hts inX4 tyX4 tyX4_ok nmX4 hown hK hP hD hS hmq heq rfl 2 (by decide) (hts _ mw_329) (fun _ h9 => h9) rfl hin rfl (by decide +kernel) rfl rfl (Nat.le_of_ble_eq_true rfl) dX4_init_9 (fun H locs hP hD hS => ?_)
  obtain ⟨f1, ef⟩ : ∃ z : Nat → va_E, z = va_up ga q (.inr (4, (rsf g0 0).set 2 (.ref x1))) := ⟨_, rfl⟩
  have hP : va_P G vwCl (va_pl L1 f1) H := by rw [ef]; exact hP
  have hD : va_D (pw_A L s.heap.size) (va_pl L1 f1) := by rw [ef]; exact hD
  obtain ⟨g1, eg⟩ : ∃ z : Nat → Nat, z = va_up g0 1 x1 := ⟨_, rfl⟩
  have hI : IS cs L1 f1 q g1 1 := by rw [ef, ega, eL, eg]; exact hI.step (k := 0) hx1 rfl rfl
  clear eg ef eL ega hmq heq
  refine lv_aload_n hx hb dX4_init_12 rfl (lv_at hl 0 rfl) ?_
  refine lv_bipush (v := 6) hx hb dX4_init_13 (by decide) ?_
  refine pw_newa (atype := .int) (ty := .int) (a0 := (6, .inl (fun _ => 0))) hx hb (hts _ mw_106) rfl hK hP hD hS hA 0 rfl (fun _ h => h) (fun _ => rfl) (by decide) (by decide) (by decide) (Nat.le_of_ble_eq_true rfl) (Nat.le_of_ble_eq_true rfl) dX4_init_15 (fun x2 H hx2 hP hD hS => ?_)
  refine W.widen (k := 2) (n := 12) (Nat.le_refl _) (Nat.le_of_ble_eq_true rfl) ?_
  obtain ⟨ga, ega⟩ : ∃ z : Nat → va_E, z = va_up f1 x2 (.inl (cs 0, 6, .inl (fun _ => 0))) := ⟨_, rfl⟩
  obtain ⟨L2, eL⟩ : ∃ z : List Nat, z = L1 ++ [x2] := ⟨_, rfl⟩
  have hP : va_P G vwCl (va_pl L2 ga) H := by rw [ega, eL]; exact hP
  have hD : va_D (pw_A L s.heap.size) (va_pl L2 ga) := by rw [ega, eL]; exact hD
  have hmq : q ∈ L2 := by rw [eL]; exact List.mem_append_left _ hI.mq
  have heq : ga q = .inr (4, rsf g1 1) := by rw [ega, va_up_ne _ _ (show q ≠ x2 from fun z => hx2 (by rw [← z]; exact hI.mq))]; exact hI.2.2.2.1
  refine pw_putF (ty := .array .int) (ci := 4) (v := .ref x2) (C := RX4) (T := TX4) (N := 23) hx hb hts inX4 tyX4 tyX4_ok nmX4 hown hK hP hD hS hmq heq rfl 3 (by decide) (hts _ mw_330) (fun _ h9 => h9) rfl hin rfl (by decide +kernel) rfl rfl (Nat.le_of_ble_eq_true rfl) dX4_init_17 (fun H locs hP hD hS => ?_)
  obtain ⟨f2, ef⟩ : ∃ z : Nat → va_E, z = va_up ga q (.inr (4, (rsf g1 1).set 3 (.ref x2))) := ⟨_, rfl⟩
  have hP : va_P G vwCl (va_pl L2 f2) H := by rw [ef]; exact hP
  have hD : va_D (pw_A L s.heap.size) (va_pl L2 f2) := by rw [ef]; exact hD
  obtain ⟨g2, eg⟩ : ∃ z : Nat → Nat, z = va_up g1 2 x2 := ⟨_, rfl⟩
  have hI : IS cs L2 f2 q g2 2 := by rw [ef, ega, eL, eg]; exact hI.step (k := 1) hx2 rfl rfl
  clear eg ef eL ega hmq heq
  refine lv_aload_n hx hb dX4_init_20 rfl (lv_at hl 0 rfl) ?_
  refine lv_bipush (v := 6) hx hb dX4_init_21 (by decide) ?_
  refine pw_newa (atype := .int) (ty := .int) (a0 := (6, .inl (fun _ => 0))) hx hb (hts _ mw_106) rfl hK hP hD hS hA 0 rfl (fun _ h => h) (fun _ => rfl) (by decide) (by decide) (by decide) (Nat.le_of_ble_eq_true rfl) (Nat.le_of_ble_eq_true rfl) dX4_init_23 (fun x3 H hx3 hP hD hS => ?_)
  refine W.widen (k := 3) (n := 18) (Nat.le_refl _) (Nat.le_of_ble_eq_true rfl) ?_
  obtain ⟨ga, ega⟩ : ∃ z : Nat → va_E, z = va_up f2 x3 (.inl (cs 0, 6, .inl (fun _ => 0))) := ⟨_, rfl⟩
  obtain ⟨L3, eL⟩ : ∃ z : List Nat, z = L2 ++ [x3] := ⟨_, rfl⟩
  have hP : va_P G vwCl (va_pl L3 ga) H := by rw [ega, eL]; exact hP
  have hD : va_D (pw_A L s.heap.size) (va_pl L3 ga) := by rw [ega, eL]; exact hD
  have hmq : q ∈ L3 := by rw [eL]; exact List.mem_append_left _ hI.mq
  have heq : ga q = .inr (4, rsf g2 2) := by rw [ega, va_up_ne _ _ (show q ≠ x3 from fun z => hx3 (by rw [← z]; exact hI.mq))]; exact hI.2.2.2.1
  refine pw_putF (ty := .array .int) (ci := 4) (v := .ref x3) (C := RX4) (T := TX4) (N := 23) hx hb hts inX4 tyX4 tyX4_ok nmX4 hown hK hP hD hS hmq heq rfl 4 (by decide) (hts _ mw_331) (fun _ h9 => h9) rfl hin rfl (by decide +kernel) rfl rfl (Nat.le_of_ble_eq_true rfl) dX4_init_25 (fun H locs hP hD hS => ?_)
  obtain ⟨f3, ef⟩ : ∃ z : Nat → va_E, z = va_up ga q (.inr (4, (rsf g2 2).set 4 (.ref x3))) := ⟨_, rfl⟩
  have hP : va_P G vwCl (va_pl L3 f3) H := by rw [ef]; exact hP
  have hD : va_D (pw_A L s.heap.size) (va_pl L3 f3) := by rw [ef]; exact hD
  obtain ⟨g3, eg⟩ : ∃ z : Nat → Nat, z = va_up g2 3 x3 := ⟨_, rfl⟩
  have hI : IS cs L3 f3 q g3 3 := by rw [ef, ega, eL, eg]; exact hI.step (k := 2) hx3 rfl rfl
  clear eg ef eL ega hmq heq
  refine lv_aload_n hx hb dX4_init_28 rfl (lv_at hl 0 rfl) ?_
  refine lv_bipush (v := 6) hx hb dX4_init_29 (by decide) ?_
  refine pw_newa (atype := .long) (ty := .long) (a0 := (6, .inr (.inl (fun _ => 0)))) hx hb (hts _ mw_397) rfl hK hP hD hS hA 3 rfl (fun _ h => h) (fun _ => rfl) (by decide) (by decide) (by decide) (Nat.le_of_ble_eq_true rfl) (Nat.le_of_ble_eq_true rfl) dX4_init_31 (fun x4 H hx4 hP hD hS => ?_)
  refine W.widen (k := 4) (n := 24) (Nat.le_refl _) (Nat.le_of_ble_eq_true rfl) ?_
  obtain ⟨ga, ega⟩ : ∃ z : Nat → va_E, z = va_up f3 x4 (.inl (cs 3, 6, .inr (.inl (fun _ => 0)))) := ⟨_, rfl⟩
  obtain ⟨L4, eL⟩ : ∃ z : List Nat, z = L3 ++ [x4] := ⟨_, rfl⟩
  have hP : va_P G vwCl (va_pl L4 ga) H := by rw [ega, eL]; exact hP
  have hD : va_D (pw_A L s.heap.size) (va_pl L4 ga) := by rw [ega, eL]; exact hD
  have hmq : q ∈ L4 := by rw [eL]; exact List.mem_append_left _ hI.mq
  have heq : ga q = .inr (4, rsf g3 3) := by rw [ega, va_up_ne _ _ (show q ≠ x4 from fun z => hx4 (by rw [← z]; exact hI.mq))]; exact hI.2.2.2.1
  refine pw_putF (ty := .array .long) (ci := 4) (v := .ref x4) (C := RX4) (T := TX4) (N := 23) hx hb hts inX4 tyX4 tyX4_ok nmX4 hown hK hP hD hS hmq heq rfl 5 (by decide) (hts _ mw_332) (fun _ h9 => h9) rfl hin rfl (by decide +kernel) rfl rfl (Nat.le_of_ble_eq_true rfl) dX4_init_33 (fun H locs hP hD hS => ?_)
  obtain ⟨f4, ef⟩ : ∃ z : Nat → va_E, z = va_up ga q (.inr (4, (rsf g3 3).set 5 (.ref x4))) := ⟨_, rfl⟩
  have hP : va_P G vwCl (va_pl L4 f4) H := by rw [ef]; exact hP
  have hD : va_D (pw_A L s.heap.size) (va_pl L4 f4) := by rw [ef]; exact hD
  obtain ⟨g4, eg⟩ : ∃ z : Nat → Nat, z = va_up g3 4 x4 := ⟨_, rfl⟩
  have hI : IS cs L4 f4 q g4 4 := by rw [ef, ega, eL, eg]; exact hI.step (k := 3) hx4 rfl rfl
  clear eg ef eL ega hmq heq
  refine lv_aload_n hx hb dX4_init_36 rfl (lv_at hl 0 rfl) ?_
  refine lv_bipush (v := 36) hx hb dX4_init_37 (by decide) ?_
  refine pw_newa (atype := .boolean) (ty := .boolean) (a0 := (36, .inl (fun _ => 0))) hx hb (hts _ mw_31) rfl hK hP hD hS hA 2 rfl (fun _ h => h) (fun _ => rfl) (by decide) (by decide) (by decide) (Nat.le_of_ble_eq_true rfl) (Nat.le_of_ble_eq_true rfl) dX4_init_39 (fun x5 H hx5 hP hD hS => ?_)
  refine W.widen (k := 5) (n := 60) (Nat.le_refl _) (Nat.le_of_ble_eq_true rfl) ?_
  obtain ⟨ga, ega⟩ : ∃ z : Nat → va_E, z = va_up f4 x5 (.inl (cs 2, 36, .inl (fun _ => 0))) := ⟨_, rfl⟩
  obtain ⟨L5, eL⟩ : ∃ z : List Nat, z = L4 ++ [x5] := ⟨_, rfl⟩
  have hP : va_P G vwCl (va_pl L5 ga) H := by rw [ega, eL]; exact hP
  have hD : va_D (pw_A L s.heap.size) (va_pl L5 ga) := by rw [ega, eL]; exact hD
  have hmq : q ∈ L5 := by rw [eL]; exact List.mem_append_left _ hI.mq
  have heq : ga q = .inr (4, rsf g4 4) := by rw [ega, va_up_ne _ _ (show q ≠ x5 from fun z => hx5 (by rw [← z]; exact hI.mq))]; exact hI.2.2.2.1
  refine pw_putF (ty := .array .boolean) (ci := 4) (v := .ref x5) (C := RX4) (T := TX4) (N := 23) hx hb hts inX4 tyX4 tyX4_ok nmX4 hown hK hP hD hS hmq heq rfl 6 (by decide) (hts _ mw_333) (fun _ h9 => h9) rfl hin rfl (by decide +kernel) rfl rfl (Nat.le_of_ble_eq_true rfl) dX4_init_41 (fun H locs hP hD hS => ?_)
  obtain ⟨f5, ef⟩ : ∃ z : Nat → va_E, z = va_up ga q (.inr (4, (rsf g4 4).set 6 (.ref x5))) := ⟨_, rfl⟩
  have hP : va_P G vwCl (va_pl L5 f5) H := by rw [ef]; exact hP
  have hD : va_D (pw_A L s.heap.size) (va_pl L5 f5) := by rw [ef]; exact hD
  obtain ⟨g5, eg⟩ : ∃ z : Nat → Nat, z = va_up g4 5 x5 := ⟨_, rfl⟩
  have hI : IS cs L5 f5 q g5 5 := by rw [ef, ega, eL, eg]; exact hI.step (k := 4) hx5 rfl rfl
  clear eg ef eL ega hmq heq
  refine lv_aload_n hx hb dX4_init_44 rfl (lv_at hl 0 rfl) ?_
  refine lv_bipush (v := 36) hx hb dX4_init_45 (by decide) ?_
  refine pw_newa (atype := .int) (ty := .int) (a0 := (36, .inl (fun _ => 0))) hx hb (hts _ mw_106) rfl hK hP hD hS hA 0 rfl (fun _ h => h) (fun _ => rfl) (by decide) (by decide) (by decide) (Nat.le_of_ble_eq_true rfl) (Nat.le_of_ble_eq_true rfl) dX4_init_47 (fun x6 H hx6 hP hD hS => ?_)
  refine W.widen (k := 6) (n := 96) (Nat.le_refl _) (Nat.le_of_ble_eq_true rfl) ?_
  obtain ⟨ga, ega⟩ : ∃ z : Nat → va_E, z = va_up f5 x6 (.inl (cs 0, 36, .inl (fun _ => 0))) := ⟨_, rfl⟩
  obtain ⟨L6, eL⟩ : ∃ z : List Nat, z = L5 ++ [x6] := ⟨_, rfl⟩
  have hP : va_P G vwCl (va_pl L6 ga) H := by rw [ega, eL]; exact hP
  have hD : va_D (pw_A L s.heap.size) (va_pl L6 ga) := by rw [ega, eL]; exact hD
  have hmq : q ∈ L6 := by rw [eL]; exact List.mem_append_left _ hI.mq
  have heq : ga q = .inr (4, rsf g5 5) := by rw [ega, va_up_ne _ _ (show q ≠ x6 from fun z => hx6 (by rw [← z]; exact hI.mq))]; exact hI.2.2.2.1
  refine pw_putF (ty := .array .int) (ci := 4) (v := .ref x6) (C := RX4) (T := TX4) (N := 23) hx hb hts inX4 tyX4 tyX4_ok nmX4 hown hK hP hD hS hmq heq rfl 7 (by decide) (hts _ mw_334) (fun _ h9 => h9) rfl hin rfl (by decide +kernel) rfl rfl (Nat.le_of_ble_eq_true rfl) dX4_init_49 (fun H locs hP hD hS => ?_)
  obtain ⟨f6, ef⟩ : ∃ z : Nat → va_E, z = va_up ga q (.inr (4, (rsf g5 5).set 7 (.ref x6))) := ⟨_, rfl⟩
  have hP : va_P G vwCl (va_pl L6 f6) H := by rw [ef]; exact hP
  have hD : va_D (pw_A L s.heap.size) (va_pl L6 f6) := by rw [ef]; exact hD
  obtain ⟨g6, eg⟩ : ∃ z : Nat → Nat, z = va_up g5 6 x6 := ⟨_, rfl⟩
  have hI : IS cs L6 f6 q g6 6 := by rw [ef, ega, eL, eg]; exact hI.step (k := 5) hx6 rfl rfl
  clear eg ef eL ega hmq heq
  refine lv_aload_n hx hb dX4_init_52 rfl (lv_at hl 0 rfl) ?_
  refine lv_bipush (v := 36) hx hb dX4_init_53 (by decide) ?_
  refine pw_newa (atype := .int) (ty := .int) (a0 := (36, .inl (fun _ => 0))) hx hb (hts _ mw_106) rfl hK hP hD hS hA 0 rfl (fun _ h => h) (fun _ => rfl) (by decide) (by decide) (by decide) (Nat.le_of_ble_eq_true rfl) (Nat.le_of_ble_eq_true rfl) dX4_init_55 (fun x7 H hx7 hP hD hS => ?_)
  refine W.widen (k := 7) (n := 132) (Nat.le_refl _) (Nat.le_of_ble_eq_true rfl) ?_
  obtain ⟨ga, ega⟩ : ∃ z : Nat → va_E, z = va_up f6 x7 (.inl (cs 0, 36, .inl (fun _ => 0))) := ⟨_, rfl⟩
  obtain ⟨L7, eL⟩ : ∃ z : List Nat, z = L6 ++ [x7] := ⟨_, rfl⟩
  have hP : va_P G vwCl (va_pl L7 ga) H := by rw [ega, eL]; exact hP
  have hD : va_D (pw_A L s.heap.size) (va_pl L7 ga) := by rw [ega, eL]; exact hD
  have hmq : q ∈ L7 := by rw [eL]; exact List.mem_append_left _ hI.mq
  have heq : ga q = .inr (4, rsf g6 6) := by rw [ega, va_up_ne _ _ (show q ≠ x7 from fun z => hx7 (by rw [← z]; exact hI.mq))]; exact hI.2.2.2.1
  refine pw_putF (ty := .array .int) (ci := 4) (v := .ref x7) (C := RX4) (T := TX4) (N := 23) hx hb hts inX4 tyX4 tyX4_ok nmX4 hown hK hP hD hS hmq heq rfl 8 (by decide) (hts _ mw_335) (fun _ h9 => h9) rfl hin rfl (by decide +kernel) rfl rfl (Nat.le_of_ble_eq_true rfl) dX4_init_57 (fun H locs hP hD hS => ?_)
  obtain ⟨f7, ef⟩ : ∃ z : Nat → va_E, z = va_up ga q (.inr (4, (rsf g6 6).set 8 (.ref x7))) := ⟨_, rfl⟩
  have hP : va_P G vwCl (va_pl L7 f7) H := by rw [ef]; exact hP
  have hD : va_D (pw_A L s.heap.size) (va_pl L7 f7) := by rw [ef]; exact hD
  obtain ⟨g7, eg⟩ : ∃ z : Nat → Nat, z = va_up g6 7 x7 := ⟨_, rfl⟩
  have hI : IS cs L7 f7 q g7 7 := by rw [ef, ega, eL, eg]; exact hI.step (k := 6) hx7 rfl rfl
  clear eg ef eL ega hmq heq
  refine lv_aload_n hx hb dX4_init_60 rfl (lv_at hl 0 rfl) ?_
  refine lv_bipush (v := 36) hx hb dX4_init_61 (by decide) ?_
  refine pw_newa (atype := .int) (ty := .int) (a0 := (36, .inl (fun _ => 0))) hx hb (hts _ mw_106) rfl hK hP hD hS hA 0 rfl (fun _ h => h) (fun _ => rfl) (by decide) (by decide) (by decide) (Nat.le_of_ble_eq_true rfl) (Nat.le_of_ble_eq_true rfl) dX4_init_63 (fun x8 H hx8 hP hD hS => ?_)
  refine W.widen (k := 8) (n := 168) (Nat.le_refl _) (Nat.le_of_ble_eq_true rfl) ?_
  obtain ⟨ga, ega⟩ : ∃ z : Nat → va_E, z = va_up f7 x8 (.inl (cs 0, 36, .inl (fun _ => 0))) := ⟨_, rfl⟩
  obtain ⟨L8, eL⟩ : ∃ z : List Nat, z = L7 ++ [x8] := ⟨_, rfl⟩
  have hP : va_P G vwCl (va_pl L8 ga) H := by rw [ega, eL]; exact hP
  have hD : va_D (pw_A L s.heap.size) (va_pl L8 ga) := by rw [ega, eL]; exact hD
  have hmq : q ∈ L8 := by rw [eL]; exact List.mem_append_left _ hI.mq
  have heq : ga q = .inr (4, rsf g7 7) := by rw [ega, va_up_ne _ _ (show q ≠ x8 from fun z => hx8 (by rw [← z]; exact hI.mq))]; exact hI.2.2.2.1
  refine pw_putF (ty := .array .int) (ci := 4) (v := .ref x8) (C := RX4) (T := TX4) (N := 23) hx hb hts inX4 tyX4 tyX4_ok nmX4 hown hK hP hD hS hmq heq rfl 9 (by decide) (hts _ mw_336) (fun _ h9 => h9) rfl hin rfl (by decide +kernel) rfl rfl (Nat.le_of_ble_eq_true rfl) dX4_init_65 (fun H locs hP hD hS => ?_)
  obtain ⟨f8, ef⟩ : ∃ z : Nat → va_E, z = va_up ga q (.inr (4, (rsf g7 7).set 9 (.ref x8))) := ⟨_, rfl⟩
  have hP : va_P G vwCl (va_pl L8 f8) H := by rw [ef]; exact hP
  have hD : va_D (pw_A L s.heap.size) (va_pl L8 f8) := by rw [ef]; exact hD
  obtain ⟨g8, eg⟩ : ∃ z : Nat → Nat, z = va_up g7 8 x8 := ⟨_, rfl⟩
  have hI : IS cs L8 f8 q g8 8 := by rw [ef, ega, eL, eg]; exact hI.step (k := 7) hx8 rfl rfl
  clear eg ef eL ega hmq heq
  refine lv_aload_n hx hb dX4_init_68 rfl (lv_at hl 0 rfl) ?_
  refine lv_bipush (v := 12) hx hb dX4_init_69 (by decide) ?_
  refine pw_newa (atype := .int) (ty := .int) (a0 := (12, .inl (fun _ => 0))) hx hb (hts _ mw_106) rfl hK hP hD hS hA 0 rfl (fun _ h => h) (fun _ => rfl) (by decide) (by decide) (by decide) (Nat.le_of_ble_eq_true rfl) (Nat.le_of_ble_eq_true rfl) dX4_init_71 (fun x9 H hx9 hP hD hS => ?_)
  refine W.widen (k := 9) (n := 180) (Nat.le_refl _) (Nat.le_of_ble_eq_true rfl) ?_
  obtain ⟨ga, ega⟩ : ∃ z : Nat → va_E, z = va_up f8 x9 (.inl (cs 0, 12, .inl (fun _ => 0))) := ⟨_, rfl⟩
  obtain ⟨L9, eL⟩ : ∃ z : List Nat, z = L8 ++ [x9] := ⟨_, rfl⟩
  have hP : va_P G vwCl (va_pl L9 ga) H := by rw [ega, eL]; exact hP
  have hD : va_D (pw_A L s.heap.size) (va_pl L9 ga) := by rw [ega, eL]; exact hD
  have hmq : q ∈ L9 := by rw [eL]; exact List.mem_append_left _ hI.mq
  have heq : ga q = .inr (4, rsf g8 8) := by rw [ega, va_up_ne _ _ (show q ≠ x9 from fun z => hx9 (by rw [← z]; exact hI.mq))]; exact hI.2.2.2.1
  refine pw_putF (ty := .array .int) (ci := 4) (v := .ref x9) (C := RX4) (T := TX4) (N := 23) hx hb hts inX4 tyX4 tyX4_ok nmX4 hown hK hP hD hS hmq heq rfl 11 (by decide) (hts _ mw_338) (fun _ h9 => h9) rfl hin rfl (by decide +kernel) rfl rfl (Nat.le_of_ble_eq_true rfl) dX4_init_73 (fun H locs hP hD hS => ?_)
  obtain ⟨f9, ef⟩ : ∃ z : Nat → va_E, z = va_up ga q (.inr (4, (rsf g8 8).set 11 (.ref x9))) := ⟨_, rfl⟩
  have hP : va_P G vwCl (va_pl L9 f9) H := by rw [ef]; exact hP
  have hD : va_D (pw_A L s.heap.size) (va_pl L9 f9) := by rw [ef]; exact hD
  obtain ⟨g9, eg⟩ : ∃ z : Nat → Nat, z = va_up g8 9 x9 := ⟨_, rfl⟩
  have hI : IS cs L9 f9 q g9 9 := by rw [ef, ega, eL, eg]; exact hI.step (k := 8) hx9 rfl rfl
  clear eg ef eL ega hmq heq
  refine lv_aload_n hx hb dX4_init_76 rfl (lv_at hl 0 rfl) ?_
  refine lv_bipush (v := 12) hx hb dX4_init_77 (by decide) ?_
  refine pw_newa (atype := .long) (ty := .long) (a0 := (12, .inr (.inl (fun _ => 0)))) hx hb (hts _ mw_397) rfl hK hP hD hS hA 3 rfl (fun _ h => h) (fun _ => rfl) (by decide) (by decide) (by decide) (Nat.le_of_ble_eq_true rfl) (Nat.le_of_ble_eq_true rfl) dX4_init_79 (fun x10 H hx10 hP hD hS => ?_)
  refine W.widen (k := 10) (n := 192) (Nat.le_refl _) (Nat.le_of_ble_eq_true rfl) ?_
  obtain ⟨ga, ega⟩ : ∃ z : Nat → va_E, z = va_up f9 x10 (.inl (cs 3, 12, .inr (.inl (fun _ => 0)))) := ⟨_, rfl⟩
  obtain ⟨L10, eL⟩ : ∃ z : List Nat, z = L9 ++ [x10] := ⟨_, rfl⟩
  have hP : va_P G vwCl (va_pl L10 ga) H := by rw [ega, eL]; exact hP
  have hD : va_D (pw_A L s.heap.size) (va_pl L10 ga) := by rw [ega, eL]; exact hD
  have hmq : q ∈ L10 := by rw [eL]; exact List.mem_append_left _ hI.mq
  have heq : ga q = .inr (4, rsf g9 9) := by rw [ega, va_up_ne _ _ (show q ≠ x10 from fun z => hx10 (by rw [← z]; exact hI.mq))]; exact hI.2.2.2.1
  refine pw_putF (ty := .array .long) (ci := 4) (v := .ref x10) (C := RX4) (T := TX4) (N := 23) hx hb hts inX4 tyX4 tyX4_ok nmX4 hown hK hP hD hS hmq heq rfl 12 (by decide) (hts _ mw_339) (fun _ h9 => h9) rfl hin rfl (by decide +kernel) rfl rfl (Nat.le_of_ble_eq_true rfl) dX4_init_81 (fun H locs hP hD hS => ?_)
  obtain ⟨f10, ef⟩ : ∃ z : Nat → va_E, z = va_up ga q (.inr (4, (rsf g9 9).set 12 (.ref x10))) := ⟨_, rfl⟩
  have hP : va_P G vwCl (va_pl L10 f10) H := by rw [ef]; exact hP
  have hD : va_D (pw_A L s.heap.size) (va_pl L10 f10) := by rw [ef]; exact hD
  obtain ⟨g10, eg⟩ : ∃ z : Nat → Nat, z = va_up g9 10 x10 := ⟨_, rfl⟩
  have hI : IS cs L10 f10 q g10 10 := by rw [ef, ega, eL, eg]; exact hI.step (k := 9) hx10 rfl rfl
  clear eg ef eL ega hmq heq
  refine lv_aload_n hx hb dX4_init_84 rfl (lv_at hl 0 rfl) ?_
  refine lv_bipush (v := 12) hx hb dX4_init_85 (by decide) ?_
  refine pw_newa (atype := .int) (ty := .int) (a0 := (12, .inl (fun _ => 0))) hx hb (hts _ mw_106) rfl hK hP hD hS hA 0 rfl (fun _ h => h) (fun _ => rfl) (by decide) (by decide) (by decide) (Nat.le_of_ble_eq_true rfl) (Nat.le_of_ble_eq_true rfl) dX4_init_87 (fun x11 H hx11 hP hD hS => ?_)
  refine W.widen (k := 11) (n := 204) (Nat.le_refl _) (Nat.le_of_ble_eq_true rfl) ?_
  obtain ⟨ga, ega⟩ : ∃ z : Nat → va_E, z = va_up f10 x11 (.inl (cs 0, 12, .inl (fun _ => 0))) := ⟨_, rfl⟩
  obtain ⟨L11, eL⟩ : ∃ z : List Nat, z = L10 ++ [x11] := ⟨_, rfl⟩
  have hP : va_P G vwCl (va_pl L11 ga) H := by rw [ega, eL]; exact hP
  have hD : va_D (pw_A L s.heap.size) (va_pl L11 ga) := by rw [ega, eL]; exact hD
  have hmq : q ∈ L11 := by rw [eL]; exact List.mem_append_left _ hI.mq
  have heq : ga q = .inr (4, rsf g10 10) := by rw [ega, va_up_ne _ _ (show q ≠ x11 from fun z => hx11 (by rw [← z]; exact hI.mq))]; exact hI.2.2.2.1
  refine pw_putF (ty := .array .int) (ci := 4) (v := .ref x11) (C := RX4) (T := TX4) (N := 23) hx hb hts inX4 tyX4 tyX4_ok nmX4 hown hK hP hD hS hmq heq rfl 13 (by decide) (hts _ mw_340) (fun _ h9 => h9) rfl hin rfl (by decide +kernel) rfl rfl (Nat.le_of_ble_eq_true rfl) dX4_init_89 (fun H locs hP hD hS => ?_)
  obtain ⟨f11, ef⟩ : ∃ z : Nat → va_E, z = va_up ga q (.inr (4, (rsf g10 10).set 13 (.ref x11))) := ⟨_, rfl⟩
  have hP : va_P G vwCl (va_pl L11 f11) H := by rw [ef]; exact hP
  have hD : va_D (pw_A L s.heap.size) (va_pl L11 f11) := by rw [ef]; exact hD
  obtain ⟨g11, eg⟩ : ∃ z : Nat → Nat, z = va_up g10 11 x11 := ⟨_, rfl⟩
  have hI : IS cs L11 f11 q g11 11 := by rw [ef, ega, eL, eg]; exact hI.step (k := 10) hx11 rfl rfl
  clear eg ef eL ega hmq heq
  refine lv_aload_n hx hb dX4_init_92 rfl (lv_at hl 0 rfl) ?_
  refine lv_bipush (v := 12) hx hb dX4_init_93 (by decide) ?_
  refine pw_newa (atype := .int) (ty := .int) (a0 := (12, .inl (fun _ => 0))) hx hb (hts _ mw_106) rfl hK hP hD hS hA 0 rfl (fun _ h => h) (fun _ => rfl) (by decide) (by decide) (by decide) (Nat.le_of_ble_eq_true rfl) (Nat.le_of_ble_eq_true rfl) dX4_init_95 (fun x12 H hx12 hP hD hS => ?_)
  refine W.widen (k := 12) (n := 216) (Nat.le_refl _) (Nat.le_of_ble_eq_true rfl) ?_
  obtain ⟨ga, ega⟩ : ∃ z : Nat → va_E, z = va_up f11 x12 (.inl (cs 0, 12, .inl (fun _ => 0))) := ⟨_, rfl⟩
  obtain ⟨L12, eL⟩ : ∃ z : List Nat, z = L11 ++ [x12] := ⟨_, rfl⟩
  have hP : va_P G vwCl (va_pl L12 ga) H := by rw [ega, eL]; exact hP
  have hD : va_D (pw_A L s.heap.size) (va_pl L12 ga) := by rw [ega, eL]; exact hD
  have hmq : q ∈ L12 := by rw [eL]; exact List.mem_append_left _ hI.mq
  have heq : ga q = .inr (4, rsf g11 11) := by rw [ega, va_up_ne _ _ (show q ≠ x12 from fun z => hx12 (by rw [← z]; exact hI.mq))]; exact hI.2.2.2.1
  refine pw_putF (ty := .array .int) (ci := 4) (v := .ref x12) (C := RX4) (T := TX4) (N := 23) hx hb hts inX4 tyX4 tyX4_ok nmX4 hown hK hP hD hS hmq heq rfl 14 (by decide) (hts _ mw_341) (fun _ h9 => h9) rfl hin rfl (by decide +kernel) rfl rfl (Nat.le_of_ble_eq_true rfl) dX4_init_97 (fun H locs hP hD hS => ?_)
  obtain ⟨f12, ef⟩ : ∃ z : Nat → va_E, z = va_up ga q (.inr (4, (rsf g11 11).set 14 (.ref x12))) := ⟨_, rfl⟩
  have hP : va_P G vwCl (va_pl L12 f12) H := by rw [ef]; exact hP
  have hD : va_D (pw_A L s.heap.size) (va_pl L12 f12) := by rw [ef]; exact hD
  obtain ⟨g12, eg⟩ : ∃ z : Nat → Nat, z = va_up g11 12 x12 := ⟨_, rfl⟩
  have hI : IS cs L12 f12 q g12 12 := by rw [ef, ega, eL, eg]; exact hI.step (k := 11) hx12 rfl rfl
  clear eg ef eL ega hmq heq
  refine lv_aload_n hx hb dX4_init_100 rfl (lv_at hl 0 rfl) ?_
  refine lv_bipush (v := 12) hx hb dX4_init_101 (by decide) ?_
  refine pw_newa (atype := .int) (ty := .int) (a0 := (12, .inl (fun _ => 0))) hx hb (hts _ mw_106) rfl hK hP hD hS hA 0 rfl (fun _ h => h) (fun _ => rfl) (by decide) (by decide) (by decide) (Nat.le_of_ble_eq_true rfl) (Nat.le_of_ble_eq_true rfl) dX4_init_103 (fun x13 H hx13 hP hD hS => ?_)
  refine W.widen (k := 13) (n := 228) (Nat.le_refl _) (Nat.le_of_ble_eq_true rfl) ?_
  obtain ⟨ga, ega⟩ : ∃ z : Nat → va_E, z = va_up f12 x13 (.inl (cs 0, 12, .inl (fun _ => 0))) := ⟨_, rfl⟩
  obtain ⟨L13, eL⟩ : ∃ z : List Nat, z = L12 ++ [x13] := ⟨_, rfl⟩
  have hP : va_P G vwCl (va_pl L13 ga) H := by rw [ega, eL]; exact hP
  have hD : va_D (pw_A L s.heap.size) (va_pl L13 ga) := by rw [ega, eL]; exact hD
  have hmq : q ∈ L13 := by rw [eL]; exact List.mem_append_left _ hI.mq
  have heq : ga q = .inr (4, rsf g12 12) := by rw [ega, va_up_ne _ _ (show q ≠ x13 from fun z => hx13 (by rw [← z]; exact hI.mq))]; exact hI.2.2.2.1
  refine pw_putF (ty := .array .int) (ci := 4) (v := .ref x13) (C := RX4) (T := TX4) (N := 23) hx hb hts inX4 tyX4 tyX4_ok nmX4 hown hK hP hD hS hmq heq rfl 15 (by decide) (hts _ mw_342) (fun _ h9 => h9) rfl hin rfl (by decide +kernel) rfl rfl (Nat.le_of_ble_eq_true rfl) dX4_init_105 (fun H locs hP hD hS => ?_)
  obtain ⟨f13, ef⟩ : ∃ z : Nat → va_E, z = va_up ga q (.inr (4, (rsf g12 12).set 15 (.ref x13))) := ⟨_, rfl⟩
  have hP : va_P G vwCl (va_pl L13 f13) H := by rw [ef]; exact hP
  have hD : va_D (pw_A L s.heap.size) (va_pl L13 f13) := by rw [ef]; exact hD
  obtain ⟨g13, eg⟩ : ∃ z : Nat → Nat, z = va_up g12 13 x13 := ⟨_, rfl⟩
  have hI : IS cs L13 f13 q g13 13 := by rw [ef, ega, eL, eg]; exact hI.step (k := 12) hx13 rfl rfl
  clear eg ef eL ega hmq heq
  refine lv_aload_n hx hb dX4_init_108 rfl (lv_at hl 0 rfl) ?_
  refine lv_bipush (v := 12) hx hb dX4_init_109 (by decide) ?_
  refine pw_newa (atype := .boolean) (ty := .boolean) (a0 := (12, .inl (fun _ => 0))) hx hb (hts _ mw_31) rfl hK hP hD hS hA 2 rfl (fun _ h => h) (fun _ => rfl) (by decide) (by decide) (by decide) (Nat.le_of_ble_eq_true rfl) (Nat.le_of_ble_eq_true rfl) dX4_init_111 (fun x14 H hx14 hP hD hS => ?_)
  refine W.widen (k := 14) (n := 240) (Nat.le_refl _) (Nat.le_of_ble_eq_true rfl) ?_
  obtain ⟨ga, ega⟩ : ∃ z : Nat → va_E, z = va_up f13 x14 (.inl (cs 2, 12, .inl (fun _ => 0))) := ⟨_, rfl⟩
  obtain ⟨L14, eL⟩ : ∃ z : List Nat, z = L13 ++ [x14] := ⟨_, rfl⟩
  have hP : va_P G vwCl (va_pl L14 ga) H := by rw [ega, eL]; exact hP
  have hD : va_D (pw_A L s.heap.size) (va_pl L14 ga) := by rw [ega, eL]; exact hD
  have hmq : q ∈ L14 := by rw [eL]; exact List.mem_append_left _ hI.mq
  have heq : ga q = .inr (4, rsf g13 13) := by rw [ega, va_up_ne _ _ (show q ≠ x14 from fun z => hx14 (by rw [← z]; exact hI.mq))]; exact hI.2.2.2.1
  refine pw_putF (ty := .array .boolean) (ci := 4) (v := .ref x14) (C := RX4) (T := TX4) (N := 23) hx hb hts inX4 tyX4 tyX4_ok nmX4 hown hK hP hD hS hmq heq rfl 16 (by decide) (hts _ mw_343) (fun _ h9 => h9) rfl hin rfl (by decide +kernel) rfl rfl (Nat.le_of_ble_eq_true rfl) dX4_init_113 (fun H locs hP hD hS => ?_)
  obtain ⟨f14, ef⟩ : ∃ z : Nat → va_E, z = va_up ga q (.inr (4, (rsf g13 13).set 16 (.ref x14))) := ⟨_, rfl⟩
  have hP : va_P G vwCl (va_pl L14 f14) H := by rw [ef]; exact hP
  have hD : va_D (pw_A L s.heap.size) (va_pl L14 f14) := by rw [ef]; exact hD
  obtain ⟨g14, eg⟩ : ∃ z : Nat → Nat, z = va_up g13 14 x14 := ⟨_, rfl⟩
  have hI : IS cs L14 f14 q g14 14 := by rw [ef, ega, eL, eg]; exact hI.step (k := 13) hx14 rfl rfl
  clear eg ef eL ega hmq heq
  refine lv_aload_n hx hb dX4_init_116 rfl (lv_at hl 0 rfl) ?_
  refine lv_bipush (v := 12) hx hb dX4_init_117 (by decide) ?_
  refine pw_newa (atype := .int) (ty := .int) (a0 := (12, .inl (fun _ => 0))) hx hb (hts _ mw_106) rfl hK hP hD hS hA 0 rfl (fun _ h => h) (fun _ => rfl) (by decide) (by decide) (by decide) (Nat.le_of_ble_eq_true rfl) (Nat.le_of_ble_eq_true rfl) dX4_init_119 (fun x15 H hx15 hP hD hS => ?_)
  refine W.widen (k := 15) (n := 252) (Nat.le_refl _) (Nat.le_of_ble_eq_true rfl) ?_
  obtain ⟨ga, ega⟩ : ∃ z : Nat → va_E, z = va_up f14 x15 (.inl (cs 0, 12, .inl (fun _ => 0))) := ⟨_, rfl⟩
  obtain ⟨L15, eL⟩ : ∃ z : List Nat, z = L14 ++ [x15] := ⟨_, rfl⟩
  have hP : va_P G vwCl (va_pl L15 ga) H := by rw [ega, eL]; exact hP
  have hD : va_D (pw_A L s.heap.size) (va_pl L15 ga) := by rw [ega, eL]; exact hD
  have hmq : q ∈ L15 := by rw [eL]; exact List.mem_append_left _ hI.mq
  have heq : ga q = .inr (4, rsf g14 14) := by rw [ega, va_up_ne _ _ (show q ≠ x15 from fun z => hx15 (by rw [← z]; exact hI.mq))]; exact hI.2.2.2.1
  refine pw_putF (ty := .array .int) (ci := 4) (v := .ref x15) (C := RX4) (T := TX4) (N := 23) hx hb hts inX4 tyX4 tyX4_ok nmX4 hown hK hP hD hS hmq heq rfl 17 (by decide) (hts _ mw_344) (fun _ h9 => h9) rfl hin rfl (by decide +kernel) rfl rfl (Nat.le_of_ble_eq_true rfl) dX4_init_121 (fun H locs hP hD hS => ?_)
  obtain ⟨f15, ef⟩ : ∃ z : Nat → va_E, z = va_up ga q (.inr (4, (rsf g14 14).set 17 (.ref x15))) := ⟨_, rfl⟩
  have hP : va_P G vwCl (va_pl L15 f15) H := by rw [ef]; exact hP
  have hD : va_D (pw_A L s.heap.size) (va_pl L15 f15) := by rw [ef]; exact hD
  obtain ⟨g15, eg⟩ : ∃ z : Nat → Nat, z = va_up g14 15 x15 := ⟨_, rfl⟩
  have hI : IS cs L15 f15 q g15 15 := by rw [ef, ega, eL, eg]; exact hI.step (k := 14) hx15 rfl rfl
  clear eg ef eL ega hmq heq
  refine lv_aload_n hx hb dX4_init_124 rfl (lv_at hl 0 rfl) ?_
  refine lv_bipush (v := 72) hx hb dX4_init_125 (by decide) ?_
  refine pw_newa (atype := .int) (ty := .int) (a0 := (72, .inl (fun _ => 0))) hx hb (hts _ mw_106) rfl hK hP hD hS hA 0 rfl (fun _ h => h) (fun _ => rfl) (by decide) (by decide) (by decide) (Nat.le_of_ble_eq_true rfl) (Nat.le_of_ble_eq_true rfl) dX4_init_127 (fun x16 H hx16 hP hD hS => ?_)
  refine W.widen (k := 16) (n := 324) (Nat.le_refl _) (Nat.le_of_ble_eq_true rfl) ?_
  obtain ⟨ga, ega⟩ : ∃ z : Nat → va_E, z = va_up f15 x16 (.inl (cs 0, 72, .inl (fun _ => 0))) := ⟨_, rfl⟩
  obtain ⟨L16, eL⟩ : ∃ z : List Nat, z = L15 ++ [x16] := ⟨_, rfl⟩
  have hP : va_P G vwCl (va_pl L16 ga) H := by rw [ega, eL]; exact hP
  have hD : va_D (pw_A L s.heap.size) (va_pl L16 ga) := by rw [ega, eL]; exact hD
  have hmq : q ∈ L16 := by rw [eL]; exact List.mem_append_left _ hI.mq
  have heq : ga q = .inr (4, rsf g15 15) := by rw [ega, va_up_ne _ _ (show q ≠ x16 from fun z => hx16 (by rw [← z]; exact hI.mq))]; exact hI.2.2.2.1
  refine pw_putF (ty := .array .int) (ci := 4) (v := .ref x16) (C := RX4) (T := TX4) (N := 23) hx hb hts inX4 tyX4 tyX4_ok nmX4 hown hK hP hD hS hmq heq rfl 18 (by decide) (hts _ mw_345) (fun _ h9 => h9) rfl hin rfl (by decide +kernel) rfl rfl (Nat.le_of_ble_eq_true rfl) dX4_init_129 (fun H locs hP hD hS => ?_)
  obtain ⟨f16, ef⟩ : ∃ z : Nat → va_E, z = va_up ga q (.inr (4, (rsf g15 15).set 18 (.ref x16))) := ⟨_, rfl⟩
  have hP : va_P G vwCl (va_pl L16 f16) H := by rw [ef]; exact hP
  have hD : va_D (pw_A L s.heap.size) (va_pl L16 f16) := by rw [ef]; exact hD
  obtain ⟨g16, eg⟩ : ∃ z : Nat → Nat, z = va_up g15 16 x16 := ⟨_, rfl⟩
  have hI : IS cs L16 f16 q g16 16 := by rw [ef, ega, eL, eg]; exact hI.step (k := 15) hx16 rfl rfl
  clear eg ef eL ega hmq heq
  refine lv_aload_n hx hb dX4_init_132 rfl (lv_at hl 0 rfl) ?_
  refine lv_bipush (v := 40) hx hb dX4_init_133 (by decide) ?_
  refine pw_newa (atype := .boolean) (ty := .boolean) (a0 := (40, .inl (fun _ => 0))) hx hb (hts _ mw_31) rfl hK hP hD hS hA 2 rfl (fun _ h => h) (fun _ => rfl) (by decide) (by decide) (by decide) (Nat.le_of_ble_eq_true rfl) (Nat.le_of_ble_eq_true rfl) dX4_init_135 (fun x17 H hx17 hP hD hS => ?_)
  refine W.widen (k := 17) (n := 364) (Nat.le_refl _) (Nat.le_of_ble_eq_true rfl) ?_
  obtain ⟨ga, ega⟩ : ∃ z : Nat → va_E, z = va_up f16 x17 (.inl (cs 2, 40, .inl (fun _ => 0))) := ⟨_, rfl⟩
  obtain ⟨L17, eL⟩ : ∃ z : List Nat, z = L16 ++ [x17] := ⟨_, rfl⟩
  have hP : va_P G vwCl (va_pl L17 ga) H := by rw [ega, eL]; exact hP
  have hD : va_D (pw_A L s.heap.size) (va_pl L17 ga) := by rw [ega, eL]; exact hD
  have hmq : q ∈ L17 := by rw [eL]; exact List.mem_append_left _ hI.mq
  have heq : ga q = .inr (4, rsf g16 16) := by rw [ega, va_up_ne _ _ (show q ≠ x17 from fun z => hx17 (by rw [← z]; exact hI.mq))]; exact hI.2.2.2.1
  refine pw_putF (ty := .array .boolean) (ci := 4) (v := .ref x17) (C := RX4) (T := TX4) (N := 23) hx hb hts inX4 tyX4 tyX4_ok nmX4 hown hK hP hD hS hmq heq rfl 19 (by decide) (hts _ mw_346) (fun _ h9 => h9) rfl hin rfl (by decide +kernel) rfl rfl (Nat.le_of_ble_eq_true rfl) dX4_init_137 (fun H locs hP hD hS => ?_)
  obtain ⟨f17, ef⟩ : ∃ z : Nat → va_E, z = va_up ga q (.inr (4, (rsf g16 16).set 19 (.ref x17))) := ⟨_, rfl⟩
  have hP : va_P G vwCl (va_pl L17 f17) H := by rw [ef]; exact hP
  have hD : va_D (pw_A L s.heap.size) (va_pl L17 f17) := by rw [ef]; exact hD
  obtain ⟨g17, eg⟩ : ∃ z : Nat → Nat, z = va_up g16 17 x17 := ⟨_, rfl⟩
  have hI : IS cs L17 f17 q g17 17 := by rw [ef, ega, eL, eg]; exact hI.step (k := 16) hx17 rfl rfl
  clear eg ef eL ega hmq heq
  refine lv_aload_n hx hb dX4_init_140 rfl (lv_at hl 0 rfl) ?_
  refine lv_sipush (v := 365) hx hb dX4_init_141 (by decide) ?_
  refine pw_put (ty := .int) (ci := 4) (v := .int 365) (C := RX4) (T := TX4) (N := 23) hx hb hts inX4 tyX4 tyX4_ok nmX4 hown hK hP hD hS hI.mq hI.2.2.2.1 rfl 20 (by decide) (hts _ mw_347) (fun _ h9 => h9) rfl (by decide +kernel) rfl rfl (Nat.le_of_ble_eq_true rfl) dX4_init_144 (fun H locs hP hD hS => ?_)
  obtain ⟨i0, i1, i2, i3, i4⟩ := hI
  refine pc_retv hx hb hr hlocks hP hD hS dX4_init_147 ⟨g17, 0, 0, i0, ⟨⟨by decide, by decide⟩, fun r hr => i1 r (by omega), fun r r' h1 h2 e => i2 r r' (by omega) (by omega) e, ?_, fun r h1 h2 => ?_⟩⟩
  · rw [i0]; exact va_up_self _ _ _
  · refine (va_up_ne _ _ (fun z => ?_)).trans (i4 r h1 (by omega))
    rw [← i0] at z
    have := i2 r 0 (by omega) (by omega) z
    omega
