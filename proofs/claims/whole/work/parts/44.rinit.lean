/-! The reference: its constructor. Laid by wip/gen/inits.py. -/
theorem nd_push {l : List Nat} {q : Nat} (hn : l.Nodup) (h : q ∉ l) : (l ++ [q]).Nodup := by
  refine List.nodup_append.mpr ⟨hn, List.nodup_cons.mpr ⟨List.not_mem_nil, List.nodup_nil⟩, ?_⟩
  intro a ha b hb e
  rw [List.mem_singleton.mp hb] at e
  exact h (e ▸ ha)
theorem nd_sub {l L : List Nat} {q : Nat} (h : ∀ a ∈ l, a ∈ L) : ∀ a ∈ l ++ [q], a ∈ L ++ [q] := by
  intro a ha
  rcases List.mem_append.mp ha with h1 | h1
  · exact List.mem_append_left _ (h a h1)
  · exact List.mem_append_right _ h1
theorem nd_inj {l : List Nat} (h : l.Nodup) {r r' : Nat} (hr : r < l.length) (hr' : r' < l.length) (e : l.getD r 0 = l.getD r' 0) : r = r' := by
  have e1 : l.getD r 0 = l[r] := by simp [List.getD, hr]
  have e2 : l.getD r' 0 = l[r'] := by simp [List.getD, hr']
  rw [e1, e2] at e
  exact (List.getElem_inj h).mp e
theorem nd_mem {l : List Nat} {r : Nat} (hr : r < l.length) : l.getD r 0 ∈ l := by
  have e1 : l.getD r 0 = l[r] := by simp [List.getD, hr]
  rw [e1]
  exact List.getElem_mem hr

set_option maxHeartbeats 4000000 in
set_option maxRecDepth 100000 in
theorem k_R_init (l : Launch) (G : va_G) (cs : Nat → ClassId) (L : List Nat) (f : Nat → va_E) (sz : Nat) (q : Nat) (hq0 : q ∈ L) (he0 : f q = .inr (4, [.int 0, .int 0, .null, .null, .null, .null, .null, .null, .null, .null, .int 0, .null, .null, .null, .null, .null, .null, .null, .null, .null, .int 0, .int 0, .int 0])) : Met l yX4_init (Cond.code yX4_init cX4_init 1 none :: wg) ({ frames := 1, cells := 17, slots := 364, locals := 12 }) (pc_P [.ref q] G vwCl (tyl cs) L f sz (fun _ => True)) (va_Qv (fun u => ∃ (ad : Nat → Nat) (rs lk : Int32), ad 0 = q ∧ RS cs u.1 u.2 ad 0 365 0 0 rs lk (fun _ _ => 0) (fun _ _ => 0)) (pc_B G vwCl L sz) (pw_A L sz)) 17 364 (pw_A L sz) := by
  refine Met.ofW (cc := cX4_init) (maxL := 1) (ret := none) (by decide) rfl ?_
  intro p e s m args below meth c s₁ B hml hv
  obtain ⟨rfl, hsz, hP, hK, hD0, hX⟩ := hv
  have hx := B.exec
  have hb := B.bytes
  have hr := B.returns
  have hts0 := atoms_spec (ws := (Cond.code yX4_init cX4_init 1 none :: wg)) B.pre
  have hts := fun (w : Cond) (h : w ∈ wg) => hts0 w (List.mem_cons_of_mem _ h)
  have hown : s.vm.findClass RX4 = some m.cls := findClass_of_methodNamed B.named
  have hlocks := B.notSynchronized
  have hin : meth.name = "<init>" := (name_of_methodNamed B.named B.method).1
  subst hsz
  have hD := pw_selfD (sz := s.heap.size) hD0
  have hA : ∀ q : Nat, s.heap.size ≤ q → pw_A L s.heap.size q := fun q h => Or.inr h
  have hS : va_S (pw_A L s.heap.size) s.heap s.heap [] := va_S.rf
  have hl := lv_entry ([.ref q]) (n := 1) (Nat.le_of_ble_eq_true rfl)
  rw [lg_entry_eq]
  generalize (lg_sl ([.ref q]) ++ List.replicate (1 - (lg_sl ([.ref q])).length) Slot.unset).toArray = ls at hl ⊢
  have hl : lv_has ls 1 [(0, .ref q)] := hl
  have nd_0 : [q].Nodup := List.nodup_cons.mpr ⟨List.not_mem_nil, List.nodup_nil⟩
  have sb_0 : ∀ a ∈ [q], a ∈ L := fun a ha => (List.mem_singleton.mp ha) ▸ hq0
  refine lv_aload_n hx hb dX4_init_0 rfl (lv_at hl 0 rfl) ?_
  refine W.objInit hx hb hown (hts _ mw_326) (hts _ mw_12) (hts _ mw_obj) rfl (by rw [hml]; exact hl.1) rfl dX4_init_1 (Nat.le_of_ble_eq_true rfl) (Nat.le_of_ble_eq_true rfl) ?_
  refine W.eq (g2 := F0 m 4 ls []) rfl ?_
  refine lv_aload_n hx hb dX4_init_4 rfl (lv_at hl 0 rfl) ?_
  refine lv_bipush (v := 6) hx hb dX4_init_5 (by decide) ?_
  refine pw_newa (atype := .long) (ty := .long) (a0 := (6, .inr (.inl (fun _ => 0)))) hx hb (hts _ mw_397) rfl hK hP hD hS hA 3 rfl (fun _ h => h) (fun _ => rfl) (by decide) (by decide) (by decide) (Nat.le_of_ble_eq_true rfl) (Nat.le_of_ble_eq_true rfl) dX4_init_7 (fun q_2 H hq_2 hP hD hS => ?_)
  refine W.widen (k := 1) (n := 6) (Nat.le_refl _) (Nat.le_of_ble_eq_true rfl) ?_
  obtain ⟨f_1, ef_1⟩ : ∃ zz : Nat → va_E, zz = va_up f q_2 (.inl (cs 3, 6, .inr (.inl (fun _ => 0)))) := ⟨_, rfl⟩
  have hP : va_P G vwCl (va_pl (L ++ [q_2]) f_1) H := by rw [ef_1]; exact hP
  have hD : va_D (pw_A L s.heap.size) (va_pl (L ++ [q_2]) f_1) := by rw [ef_1]; exact hD
  have mf_1_q : q ∈ (L ++ [q_2]) := List.mem_append_left _ hq0
  have hf_1_q := (show f_1 q = f q by rw [ef_1]; exact va_up_ne _ _ (fun h => hq_2 (h ▸ hq0))).trans he0
  have mf_1_q_2 : q_2 ∈ (L ++ [q_2]) := List.mem_append_right _ (List.mem_singleton.mpr rfl)
  have hf_1_q_2 : f_1 q_2 = .inl (cs 3, 6, .inr (.inl (fun _ => 0))) := by rw [ef_1]; exact va_up_self _ _ _
  have n_q_2 : q_2 ∉ L := fun z => hq_2 (z)
  have nd_1 : ([q] ++ [q_2]).Nodup := nd_push nd_0 (fun z => hq_2 (sb_0 _ z))
  have sb_1 : ∀ a ∈ ([q] ++ [q_2]), a ∈ (L ++ [q_2]) := nd_sub sb_0
  refine pw_putF (ty := .array .long) (ci := 4) (v := .ref q_2) (C := RX4) (T := TX4) (N := 23) hx hb hts inX4 tyX4 tyX4_ok nmX4 hown hK hP hD hS mf_1_q hf_1_q rfl 2 (by decide) (hts _ mw_329) (fun _ h9 => h9) rfl hin rfl (by decide +kernel) rfl rfl (Nat.le_of_ble_eq_true rfl) dX4_init_9 (fun H locs hP hD hS => ?_)
  obtain ⟨f_3, ef_3⟩ : ∃ zz : Nat → va_E, zz = va_up f_1 q (.inr (4, [.int 0, .int 0, .ref q_2, .null, .null, .null, .null, .null, .null, .null, .int 0, .null, .null, .null, .null, .null, .null, .null, .null, .null, .int 0, .int 0, .int 0])) := ⟨_, rfl⟩
  have hP : va_P G vwCl (va_pl (L ++ [q_2]) f_3) H := by rw [ef_3]; exact hP
  have hD : va_D (pw_A L s.heap.size) (va_pl (L ++ [q_2]) f_3) := by rw [ef_3]; exact hD
  have hf_3_q : f_3 q = .inr (4, [.int 0, .int 0, .ref q_2, .null, .null, .null, .null, .null, .null, .null, .int 0, .null, .null, .null, .null, .null, .null, .null, .null, .null, .int 0, .int 0, .int 0]) := by rw [ef_3]; exact va_up_self _ _ _
  have hf_3_q_2 := (show f_3 q_2 = f_1 q_2 by rw [ef_3]; exact va_up_ne _ _ (fun z => n_q_2 (z ▸ hq0))).trans hf_1_q_2
  refine lv_aload_n hx hb dX4_init_12 rfl (lv_at hl 0 rfl) ?_
  refine lv_bipush (v := 6) hx hb dX4_init_13 (by decide) ?_
  refine pw_newa (atype := .int) (ty := .int) (a0 := (6, .inl (fun _ => 0))) hx hb (hts _ mw_106) rfl hK hP hD hS hA 0 rfl (fun _ h => h) (fun _ => rfl) (by decide) (by decide) (by decide) (Nat.le_of_ble_eq_true rfl) (Nat.le_of_ble_eq_true rfl) dX4_init_15 (fun q_5 H hq_5 hP hD hS => ?_)
  refine W.widen (k := 2) (n := 12) (Nat.le_refl _) (Nat.le_of_ble_eq_true rfl) ?_
  obtain ⟨f_4, ef_4⟩ : ∃ zz : Nat → va_E, zz = va_up f_3 q_5 (.inl (cs 0, 6, .inl (fun _ => 0))) := ⟨_, rfl⟩
  have hP : va_P G vwCl (va_pl ((L ++ [q_2]) ++ [q_5]) f_4) H := by rw [ef_4]; exact hP
  have hD : va_D (pw_A L s.heap.size) (va_pl ((L ++ [q_2]) ++ [q_5]) f_4) := by rw [ef_4]; exact hD
  have mf_4_q : q ∈ ((L ++ [q_2]) ++ [q_5]) := List.mem_append_left _ mf_1_q
  have hf_4_q := (show f_4 q = f_3 q by rw [ef_4]; exact va_up_ne _ _ (fun h => hq_5 (h ▸ mf_1_q))).trans hf_3_q
  have mf_4_q_2 : q_2 ∈ ((L ++ [q_2]) ++ [q_5]) := List.mem_append_left _ mf_1_q_2
  have hf_4_q_2 := (show f_4 q_2 = f_3 q_2 by rw [ef_4]; exact va_up_ne _ _ (fun h => hq_5 (h ▸ mf_1_q_2))).trans hf_3_q_2
  have mf_4_q_5 : q_5 ∈ ((L ++ [q_2]) ++ [q_5]) := List.mem_append_right _ (List.mem_singleton.mpr rfl)
  have hf_4_q_5 : f_4 q_5 = .inl (cs 0, 6, .inl (fun _ => 0)) := by rw [ef_4]; exact va_up_self _ _ _
  have n_q_5 : q_5 ∉ L := fun z => hq_5 (List.mem_append_left _ (z))
  have nd_2 : (([q] ++ [q_2]) ++ [q_5]).Nodup := nd_push nd_1 (fun z => hq_5 (sb_1 _ z))
  have sb_2 : ∀ a ∈ (([q] ++ [q_2]) ++ [q_5]), a ∈ ((L ++ [q_2]) ++ [q_5]) := nd_sub sb_1
  refine pw_putF (ty := .array .int) (ci := 4) (v := .ref q_5) (C := RX4) (T := TX4) (N := 23) hx hb hts inX4 tyX4 tyX4_ok nmX4 hown hK hP hD hS mf_4_q hf_4_q rfl 3 (by decide) (hts _ mw_330) (fun _ h9 => h9) rfl hin rfl (by decide +kernel) rfl rfl (Nat.le_of_ble_eq_true rfl) dX4_init_17 (fun H locs hP hD hS => ?_)
  obtain ⟨f_6, ef_6⟩ : ∃ zz : Nat → va_E, zz = va_up f_4 q (.inr (4, [.int 0, .int 0, .ref q_2, .ref q_5, .null, .null, .null, .null, .null, .null, .int 0, .null, .null, .null, .null, .null, .null, .null, .null, .null, .int 0, .int 0, .int 0])) := ⟨_, rfl⟩
  have hP : va_P G vwCl (va_pl ((L ++ [q_2]) ++ [q_5]) f_6) H := by rw [ef_6]; exact hP
  have hD : va_D (pw_A L s.heap.size) (va_pl ((L ++ [q_2]) ++ [q_5]) f_6) := by rw [ef_6]; exact hD
  have hf_6_q : f_6 q = .inr (4, [.int 0, .int 0, .ref q_2, .ref q_5, .null, .null, .null, .null, .null, .null, .int 0, .null, .null, .null, .null, .null, .null, .null, .null, .null, .int 0, .int 0, .int 0]) := by rw [ef_6]; exact va_up_self _ _ _
  have hf_6_q_2 := (show f_6 q_2 = f_4 q_2 by rw [ef_6]; exact va_up_ne _ _ (fun z => n_q_2 (z ▸ hq0))).trans hf_4_q_2
  have hf_6_q_5 := (show f_6 q_5 = f_4 q_5 by rw [ef_6]; exact va_up_ne _ _ (fun z => n_q_5 (z ▸ hq0))).trans hf_4_q_5
  refine lv_aload_n hx hb dX4_init_20 rfl (lv_at hl 0 rfl) ?_
  refine lv_bipush (v := 6) hx hb dX4_init_21 (by decide) ?_
  refine pw_newa (atype := .int) (ty := .int) (a0 := (6, .inl (fun _ => 0))) hx hb (hts _ mw_106) rfl hK hP hD hS hA 0 rfl (fun _ h => h) (fun _ => rfl) (by decide) (by decide) (by decide) (Nat.le_of_ble_eq_true rfl) (Nat.le_of_ble_eq_true rfl) dX4_init_23 (fun q_8 H hq_8 hP hD hS => ?_)
  refine W.widen (k := 3) (n := 18) (Nat.le_refl _) (Nat.le_of_ble_eq_true rfl) ?_
  obtain ⟨f_7, ef_7⟩ : ∃ zz : Nat → va_E, zz = va_up f_6 q_8 (.inl (cs 0, 6, .inl (fun _ => 0))) := ⟨_, rfl⟩
  have hP : va_P G vwCl (va_pl (((L ++ [q_2]) ++ [q_5]) ++ [q_8]) f_7) H := by rw [ef_7]; exact hP
  have hD : va_D (pw_A L s.heap.size) (va_pl (((L ++ [q_2]) ++ [q_5]) ++ [q_8]) f_7) := by rw [ef_7]; exact hD
  have mf_7_q : q ∈ (((L ++ [q_2]) ++ [q_5]) ++ [q_8]) := List.mem_append_left _ mf_4_q
  have hf_7_q := (show f_7 q = f_6 q by rw [ef_7]; exact va_up_ne _ _ (fun h => hq_8 (h ▸ mf_4_q))).trans hf_6_q
  have mf_7_q_2 : q_2 ∈ (((L ++ [q_2]) ++ [q_5]) ++ [q_8]) := List.mem_append_left _ mf_4_q_2
  have hf_7_q_2 := (show f_7 q_2 = f_6 q_2 by rw [ef_7]; exact va_up_ne _ _ (fun h => hq_8 (h ▸ mf_4_q_2))).trans hf_6_q_2
  have mf_7_q_5 : q_5 ∈ (((L ++ [q_2]) ++ [q_5]) ++ [q_8]) := List.mem_append_left _ mf_4_q_5
  have hf_7_q_5 := (show f_7 q_5 = f_6 q_5 by rw [ef_7]; exact va_up_ne _ _ (fun h => hq_8 (h ▸ mf_4_q_5))).trans hf_6_q_5
  have mf_7_q_8 : q_8 ∈ (((L ++ [q_2]) ++ [q_5]) ++ [q_8]) := List.mem_append_right _ (List.mem_singleton.mpr rfl)
  have hf_7_q_8 : f_7 q_8 = .inl (cs 0, 6, .inl (fun _ => 0)) := by rw [ef_7]; exact va_up_self _ _ _
  have n_q_8 : q_8 ∉ L := fun z => hq_8 (List.mem_append_left _ (List.mem_append_left _ (z)))
  have nd_3 : ((([q] ++ [q_2]) ++ [q_5]) ++ [q_8]).Nodup := nd_push nd_2 (fun z => hq_8 (sb_2 _ z))
  have sb_3 : ∀ a ∈ ((([q] ++ [q_2]) ++ [q_5]) ++ [q_8]), a ∈ (((L ++ [q_2]) ++ [q_5]) ++ [q_8]) := nd_sub sb_2
  refine pw_putF (ty := .array .int) (ci := 4) (v := .ref q_8) (C := RX4) (T := TX4) (N := 23) hx hb hts inX4 tyX4 tyX4_ok nmX4 hown hK hP hD hS mf_7_q hf_7_q rfl 4 (by decide) (hts _ mw_331) (fun _ h9 => h9) rfl hin rfl (by decide +kernel) rfl rfl (Nat.le_of_ble_eq_true rfl) dX4_init_25 (fun H locs hP hD hS => ?_)
  obtain ⟨f_9, ef_9⟩ : ∃ zz : Nat → va_E, zz = va_up f_7 q (.inr (4, [.int 0, .int 0, .ref q_2, .ref q_5, .ref q_8, .null, .null, .null, .null, .null, .int 0, .null, .null, .null, .null, .null, .null, .null, .null, .null, .int 0, .int 0, .int 0])) := ⟨_, rfl⟩
  have hP : va_P G vwCl (va_pl (((L ++ [q_2]) ++ [q_5]) ++ [q_8]) f_9) H := by rw [ef_9]; exact hP
  have hD : va_D (pw_A L s.heap.size) (va_pl (((L ++ [q_2]) ++ [q_5]) ++ [q_8]) f_9) := by rw [ef_9]; exact hD
  have hf_9_q : f_9 q = .inr (4, [.int 0, .int 0, .ref q_2, .ref q_5, .ref q_8, .null, .null, .null, .null, .null, .int 0, .null, .null, .null, .null, .null, .null, .null, .null, .null, .int 0, .int 0, .int 0]) := by rw [ef_9]; exact va_up_self _ _ _
  have hf_9_q_2 := (show f_9 q_2 = f_7 q_2 by rw [ef_9]; exact va_up_ne _ _ (fun z => n_q_2 (z ▸ hq0))).trans hf_7_q_2
  have hf_9_q_5 := (show f_9 q_5 = f_7 q_5 by rw [ef_9]; exact va_up_ne _ _ (fun z => n_q_5 (z ▸ hq0))).trans hf_7_q_5
  have hf_9_q_8 := (show f_9 q_8 = f_7 q_8 by rw [ef_9]; exact va_up_ne _ _ (fun z => n_q_8 (z ▸ hq0))).trans hf_7_q_8
  refine lv_aload_n hx hb dX4_init_28 rfl (lv_at hl 0 rfl) ?_
  refine lv_bipush (v := 6) hx hb dX4_init_29 (by decide) ?_
  refine pw_newa (atype := .long) (ty := .long) (a0 := (6, .inr (.inl (fun _ => 0)))) hx hb (hts _ mw_397) rfl hK hP hD hS hA 3 rfl (fun _ h => h) (fun _ => rfl) (by decide) (by decide) (by decide) (Nat.le_of_ble_eq_true rfl) (Nat.le_of_ble_eq_true rfl) dX4_init_31 (fun q_11 H hq_11 hP hD hS => ?_)
  refine W.widen (k := 4) (n := 24) (Nat.le_refl _) (Nat.le_of_ble_eq_true rfl) ?_
  obtain ⟨f_10, ef_10⟩ : ∃ zz : Nat → va_E, zz = va_up f_9 q_11 (.inl (cs 3, 6, .inr (.inl (fun _ => 0)))) := ⟨_, rfl⟩
  have hP : va_P G vwCl (va_pl ((((L ++ [q_2]) ++ [q_5]) ++ [q_8]) ++ [q_11]) f_10) H := by rw [ef_10]; exact hP
  have hD : va_D (pw_A L s.heap.size) (va_pl ((((L ++ [q_2]) ++ [q_5]) ++ [q_8]) ++ [q_11]) f_10) := by rw [ef_10]; exact hD
  have mf_10_q : q ∈ ((((L ++ [q_2]) ++ [q_5]) ++ [q_8]) ++ [q_11]) := List.mem_append_left _ mf_7_q
  have hf_10_q := (show f_10 q = f_9 q by rw [ef_10]; exact va_up_ne _ _ (fun h => hq_11 (h ▸ mf_7_q))).trans hf_9_q
  have mf_10_q_2 : q_2 ∈ ((((L ++ [q_2]) ++ [q_5]) ++ [q_8]) ++ [q_11]) := List.mem_append_left _ mf_7_q_2
  have hf_10_q_2 := (show f_10 q_2 = f_9 q_2 by rw [ef_10]; exact va_up_ne _ _ (fun h => hq_11 (h ▸ mf_7_q_2))).trans hf_9_q_2
  have mf_10_q_5 : q_5 ∈ ((((L ++ [q_2]) ++ [q_5]) ++ [q_8]) ++ [q_11]) := List.mem_append_left _ mf_7_q_5
  have hf_10_q_5 := (show f_10 q_5 = f_9 q_5 by rw [ef_10]; exact va_up_ne _ _ (fun h => hq_11 (h ▸ mf_7_q_5))).trans hf_9_q_5
  have mf_10_q_8 : q_8 ∈ ((((L ++ [q_2]) ++ [q_5]) ++ [q_8]) ++ [q_11]) := List.mem_append_left _ mf_7_q_8
  have hf_10_q_8 := (show f_10 q_8 = f_9 q_8 by rw [ef_10]; exact va_up_ne _ _ (fun h => hq_11 (h ▸ mf_7_q_8))).trans hf_9_q_8
  have mf_10_q_11 : q_11 ∈ ((((L ++ [q_2]) ++ [q_5]) ++ [q_8]) ++ [q_11]) := List.mem_append_right _ (List.mem_singleton.mpr rfl)
  have hf_10_q_11 : f_10 q_11 = .inl (cs 3, 6, .inr (.inl (fun _ => 0))) := by rw [ef_10]; exact va_up_self _ _ _
  have n_q_11 : q_11 ∉ L := fun z => hq_11 (List.mem_append_left _ (List.mem_append_left _ (List.mem_append_left _ (z))))
  have nd_4 : (((([q] ++ [q_2]) ++ [q_5]) ++ [q_8]) ++ [q_11]).Nodup := nd_push nd_3 (fun z => hq_11 (sb_3 _ z))
  have sb_4 : ∀ a ∈ (((([q] ++ [q_2]) ++ [q_5]) ++ [q_8]) ++ [q_11]), a ∈ ((((L ++ [q_2]) ++ [q_5]) ++ [q_8]) ++ [q_11]) := nd_sub sb_3
  refine pw_putF (ty := .array .long) (ci := 4) (v := .ref q_11) (C := RX4) (T := TX4) (N := 23) hx hb hts inX4 tyX4 tyX4_ok nmX4 hown hK hP hD hS mf_10_q hf_10_q rfl 5 (by decide) (hts _ mw_332) (fun _ h9 => h9) rfl hin rfl (by decide +kernel) rfl rfl (Nat.le_of_ble_eq_true rfl) dX4_init_33 (fun H locs hP hD hS => ?_)
  obtain ⟨f_12, ef_12⟩ : ∃ zz : Nat → va_E, zz = va_up f_10 q (.inr (4, [.int 0, .int 0, .ref q_2, .ref q_5, .ref q_8, .ref q_11, .null, .null, .null, .null, .int 0, .null, .null, .null, .null, .null, .null, .null, .null, .null, .int 0, .int 0, .int 0])) := ⟨_, rfl⟩
  have hP : va_P G vwCl (va_pl ((((L ++ [q_2]) ++ [q_5]) ++ [q_8]) ++ [q_11]) f_12) H := by rw [ef_12]; exact hP
  have hD : va_D (pw_A L s.heap.size) (va_pl ((((L ++ [q_2]) ++ [q_5]) ++ [q_8]) ++ [q_11]) f_12) := by rw [ef_12]; exact hD
  have hf_12_q : f_12 q = .inr (4, [.int 0, .int 0, .ref q_2, .ref q_5, .ref q_8, .ref q_11, .null, .null, .null, .null, .int 0, .null, .null, .null, .null, .null, .null, .null, .null, .null, .int 0, .int 0, .int 0]) := by rw [ef_12]; exact va_up_self _ _ _
  have hf_12_q_2 := (show f_12 q_2 = f_10 q_2 by rw [ef_12]; exact va_up_ne _ _ (fun z => n_q_2 (z ▸ hq0))).trans hf_10_q_2
  have hf_12_q_5 := (show f_12 q_5 = f_10 q_5 by rw [ef_12]; exact va_up_ne _ _ (fun z => n_q_5 (z ▸ hq0))).trans hf_10_q_5
  have hf_12_q_8 := (show f_12 q_8 = f_10 q_8 by rw [ef_12]; exact va_up_ne _ _ (fun z => n_q_8 (z ▸ hq0))).trans hf_10_q_8
  have hf_12_q_11 := (show f_12 q_11 = f_10 q_11 by rw [ef_12]; exact va_up_ne _ _ (fun z => n_q_11 (z ▸ hq0))).trans hf_10_q_11
  refine lv_aload_n hx hb dX4_init_36 rfl (lv_at hl 0 rfl) ?_
  refine lv_bipush (v := 36) hx hb dX4_init_37 (by decide) ?_
  refine pw_newa (atype := .boolean) (ty := .boolean) (a0 := (36, .inl (fun _ => 0))) hx hb (hts _ mw_31) rfl hK hP hD hS hA 2 rfl (fun _ h => h) (fun _ => rfl) (by decide) (by decide) (by decide) (Nat.le_of_ble_eq_true rfl) (Nat.le_of_ble_eq_true rfl) dX4_init_39 (fun q_14 H hq_14 hP hD hS => ?_)
  refine W.widen (k := 5) (n := 60) (Nat.le_refl _) (Nat.le_of_ble_eq_true rfl) ?_
  obtain ⟨f_13, ef_13⟩ : ∃ zz : Nat → va_E, zz = va_up f_12 q_14 (.inl (cs 2, 36, .inl (fun _ => 0))) := ⟨_, rfl⟩
  have hP : va_P G vwCl (va_pl (((((L ++ [q_2]) ++ [q_5]) ++ [q_8]) ++ [q_11]) ++ [q_14]) f_13) H := by rw [ef_13]; exact hP
  have hD : va_D (pw_A L s.heap.size) (va_pl (((((L ++ [q_2]) ++ [q_5]) ++ [q_8]) ++ [q_11]) ++ [q_14]) f_13) := by rw [ef_13]; exact hD
  have mf_13_q : q ∈ (((((L ++ [q_2]) ++ [q_5]) ++ [q_8]) ++ [q_11]) ++ [q_14]) := List.mem_append_left _ mf_10_q
  have hf_13_q := (show f_13 q = f_12 q by rw [ef_13]; exact va_up_ne _ _ (fun h => hq_14 (h ▸ mf_10_q))).trans hf_12_q
  have mf_13_q_2 : q_2 ∈ (((((L ++ [q_2]) ++ [q_5]) ++ [q_8]) ++ [q_11]) ++ [q_14]) := List.mem_append_left _ mf_10_q_2
  have hf_13_q_2 := (show f_13 q_2 = f_12 q_2 by rw [ef_13]; exact va_up_ne _ _ (fun h => hq_14 (h ▸ mf_10_q_2))).trans hf_12_q_2
  have mf_13_q_5 : q_5 ∈ (((((L ++ [q_2]) ++ [q_5]) ++ [q_8]) ++ [q_11]) ++ [q_14]) := List.mem_append_left _ mf_10_q_5
  have hf_13_q_5 := (show f_13 q_5 = f_12 q_5 by rw [ef_13]; exact va_up_ne _ _ (fun h => hq_14 (h ▸ mf_10_q_5))).trans hf_12_q_5
  have mf_13_q_8 : q_8 ∈ (((((L ++ [q_2]) ++ [q_5]) ++ [q_8]) ++ [q_11]) ++ [q_14]) := List.mem_append_left _ mf_10_q_8
  have hf_13_q_8 := (show f_13 q_8 = f_12 q_8 by rw [ef_13]; exact va_up_ne _ _ (fun h => hq_14 (h ▸ mf_10_q_8))).trans hf_12_q_8
  have mf_13_q_11 : q_11 ∈ (((((L ++ [q_2]) ++ [q_5]) ++ [q_8]) ++ [q_11]) ++ [q_14]) := List.mem_append_left _ mf_10_q_11
  have hf_13_q_11 := (show f_13 q_11 = f_12 q_11 by rw [ef_13]; exact va_up_ne _ _ (fun h => hq_14 (h ▸ mf_10_q_11))).trans hf_12_q_11
  have mf_13_q_14 : q_14 ∈ (((((L ++ [q_2]) ++ [q_5]) ++ [q_8]) ++ [q_11]) ++ [q_14]) := List.mem_append_right _ (List.mem_singleton.mpr rfl)
  have hf_13_q_14 : f_13 q_14 = .inl (cs 2, 36, .inl (fun _ => 0)) := by rw [ef_13]; exact va_up_self _ _ _
  have n_q_14 : q_14 ∉ L := fun z => hq_14 (List.mem_append_left _ (List.mem_append_left _ (List.mem_append_left _ (List.mem_append_left _ (z)))))
  have nd_5 : ((((([q] ++ [q_2]) ++ [q_5]) ++ [q_8]) ++ [q_11]) ++ [q_14]).Nodup := nd_push nd_4 (fun z => hq_14 (sb_4 _ z))
  have sb_5 : ∀ a ∈ ((((([q] ++ [q_2]) ++ [q_5]) ++ [q_8]) ++ [q_11]) ++ [q_14]), a ∈ (((((L ++ [q_2]) ++ [q_5]) ++ [q_8]) ++ [q_11]) ++ [q_14]) := nd_sub sb_4
  refine pw_putF (ty := .array .boolean) (ci := 4) (v := .ref q_14) (C := RX4) (T := TX4) (N := 23) hx hb hts inX4 tyX4 tyX4_ok nmX4 hown hK hP hD hS mf_13_q hf_13_q rfl 6 (by decide) (hts _ mw_333) (fun _ h9 => h9) rfl hin rfl (by decide +kernel) rfl rfl (Nat.le_of_ble_eq_true rfl) dX4_init_41 (fun H locs hP hD hS => ?_)
  obtain ⟨f_15, ef_15⟩ : ∃ zz : Nat → va_E, zz = va_up f_13 q (.inr (4, [.int 0, .int 0, .ref q_2, .ref q_5, .ref q_8, .ref q_11, .ref q_14, .null, .null, .null, .int 0, .null, .null, .null, .null, .null, .null, .null, .null, .null, .int 0, .int 0, .int 0])) := ⟨_, rfl⟩
  have hP : va_P G vwCl (va_pl (((((L ++ [q_2]) ++ [q_5]) ++ [q_8]) ++ [q_11]) ++ [q_14]) f_15) H := by rw [ef_15]; exact hP
  have hD : va_D (pw_A L s.heap.size) (va_pl (((((L ++ [q_2]) ++ [q_5]) ++ [q_8]) ++ [q_11]) ++ [q_14]) f_15) := by rw [ef_15]; exact hD
  have hf_15_q : f_15 q = .inr (4, [.int 0, .int 0, .ref q_2, .ref q_5, .ref q_8, .ref q_11, .ref q_14, .null, .null, .null, .int 0, .null, .null, .null, .null, .null, .null, .null, .null, .null, .int 0, .int 0, .int 0]) := by rw [ef_15]; exact va_up_self _ _ _
  have hf_15_q_2 := (show f_15 q_2 = f_13 q_2 by rw [ef_15]; exact va_up_ne _ _ (fun z => n_q_2 (z ▸ hq0))).trans hf_13_q_2
  have hf_15_q_5 := (show f_15 q_5 = f_13 q_5 by rw [ef_15]; exact va_up_ne _ _ (fun z => n_q_5 (z ▸ hq0))).trans hf_13_q_5
  have hf_15_q_8 := (show f_15 q_8 = f_13 q_8 by rw [ef_15]; exact va_up_ne _ _ (fun z => n_q_8 (z ▸ hq0))).trans hf_13_q_8
  have hf_15_q_11 := (show f_15 q_11 = f_13 q_11 by rw [ef_15]; exact va_up_ne _ _ (fun z => n_q_11 (z ▸ hq0))).trans hf_13_q_11
  have hf_15_q_14 := (show f_15 q_14 = f_13 q_14 by rw [ef_15]; exact va_up_ne _ _ (fun z => n_q_14 (z ▸ hq0))).trans hf_13_q_14
  refine lv_aload_n hx hb dX4_init_44 rfl (lv_at hl 0 rfl) ?_
  refine lv_bipush (v := 36) hx hb dX4_init_45 (by decide) ?_
  refine pw_newa (atype := .int) (ty := .int) (a0 := (36, .inl (fun _ => 0))) hx hb (hts _ mw_106) rfl hK hP hD hS hA 0 rfl (fun _ h => h) (fun _ => rfl) (by decide) (by decide) (by decide) (Nat.le_of_ble_eq_true rfl) (Nat.le_of_ble_eq_true rfl) dX4_init_47 (fun q_17 H hq_17 hP hD hS => ?_)
  refine W.widen (k := 6) (n := 96) (Nat.le_refl _) (Nat.le_of_ble_eq_true rfl) ?_
  obtain ⟨f_16, ef_16⟩ : ∃ zz : Nat → va_E, zz = va_up f_15 q_17 (.inl (cs 0, 36, .inl (fun _ => 0))) := ⟨_, rfl⟩
  have hP : va_P G vwCl (va_pl ((((((L ++ [q_2]) ++ [q_5]) ++ [q_8]) ++ [q_11]) ++ [q_14]) ++ [q_17]) f_16) H := by rw [ef_16]; exact hP
  have hD : va_D (pw_A L s.heap.size) (va_pl ((((((L ++ [q_2]) ++ [q_5]) ++ [q_8]) ++ [q_11]) ++ [q_14]) ++ [q_17]) f_16) := by rw [ef_16]; exact hD
  have mf_16_q : q ∈ ((((((L ++ [q_2]) ++ [q_5]) ++ [q_8]) ++ [q_11]) ++ [q_14]) ++ [q_17]) := List.mem_append_left _ mf_13_q
  have hf_16_q := (show f_16 q = f_15 q by rw [ef_16]; exact va_up_ne _ _ (fun h => hq_17 (h ▸ mf_13_q))).trans hf_15_q
  have mf_16_q_2 : q_2 ∈ ((((((L ++ [q_2]) ++ [q_5]) ++ [q_8]) ++ [q_11]) ++ [q_14]) ++ [q_17]) := List.mem_append_left _ mf_13_q_2
  have hf_16_q_2 := (show f_16 q_2 = f_15 q_2 by rw [ef_16]; exact va_up_ne _ _ (fun h => hq_17 (h ▸ mf_13_q_2))).trans hf_15_q_2
  have mf_16_q_5 : q_5 ∈ ((((((L ++ [q_2]) ++ [q_5]) ++ [q_8]) ++ [q_11]) ++ [q_14]) ++ [q_17]) := List.mem_append_left _ mf_13_q_5
  have hf_16_q_5 := (show f_16 q_5 = f_15 q_5 by rw [ef_16]; exact va_up_ne _ _ (fun h => hq_17 (h ▸ mf_13_q_5))).trans hf_15_q_5
  have mf_16_q_8 : q_8 ∈ ((((((L ++ [q_2]) ++ [q_5]) ++ [q_8]) ++ [q_11]) ++ [q_14]) ++ [q_17]) := List.mem_append_left _ mf_13_q_8
  have hf_16_q_8 := (show f_16 q_8 = f_15 q_8 by rw [ef_16]; exact va_up_ne _ _ (fun h => hq_17 (h ▸ mf_13_q_8))).trans hf_15_q_8
  have mf_16_q_11 : q_11 ∈ ((((((L ++ [q_2]) ++ [q_5]) ++ [q_8]) ++ [q_11]) ++ [q_14]) ++ [q_17]) := List.mem_append_left _ mf_13_q_11
  have hf_16_q_11 := (show f_16 q_11 = f_15 q_11 by rw [ef_16]; exact va_up_ne _ _ (fun h => hq_17 (h ▸ mf_13_q_11))).trans hf_15_q_11
  have mf_16_q_14 : q_14 ∈ ((((((L ++ [q_2]) ++ [q_5]) ++ [q_8]) ++ [q_11]) ++ [q_14]) ++ [q_17]) := List.mem_append_left _ mf_13_q_14
  have hf_16_q_14 := (show f_16 q_14 = f_15 q_14 by rw [ef_16]; exact va_up_ne _ _ (fun h => hq_17 (h ▸ mf_13_q_14))).trans hf_15_q_14
  have mf_16_q_17 : q_17 ∈ ((((((L ++ [q_2]) ++ [q_5]) ++ [q_8]) ++ [q_11]) ++ [q_14]) ++ [q_17]) := List.mem_append_right _ (List.mem_singleton.mpr rfl)
  have hf_16_q_17 : f_16 q_17 = .inl (cs 0, 36, .inl (fun _ => 0)) := by rw [ef_16]; exact va_up_self _ _ _
  have n_q_17 : q_17 ∉ L := fun z => hq_17 (List.mem_append_left _ (List.mem_append_left _ (List.mem_append_left _ (List.mem_append_left _ (List.mem_append_left _ (z))))))
  have nd_6 : (((((([q] ++ [q_2]) ++ [q_5]) ++ [q_8]) ++ [q_11]) ++ [q_14]) ++ [q_17]).Nodup := nd_push nd_5 (fun z => hq_17 (sb_5 _ z))
  have sb_6 : ∀ a ∈ (((((([q] ++ [q_2]) ++ [q_5]) ++ [q_8]) ++ [q_11]) ++ [q_14]) ++ [q_17]), a ∈ ((((((L ++ [q_2]) ++ [q_5]) ++ [q_8]) ++ [q_11]) ++ [q_14]) ++ [q_17]) := nd_sub sb_5
  refine pw_putF (ty := .array .int) (ci := 4) (v := .ref q_17) (C := RX4) (T := TX4) (N := 23) hx hb hts inX4 tyX4 tyX4_ok nmX4 hown hK hP hD hS mf_16_q hf_16_q rfl 7 (by decide) (hts _ mw_334) (fun _ h9 => h9) rfl hin rfl (by decide +kernel) rfl rfl (Nat.le_of_ble_eq_true rfl) dX4_init_49 (fun H locs hP hD hS => ?_)
  obtain ⟨f_18, ef_18⟩ : ∃ zz : Nat → va_E, zz = va_up f_16 q (.inr (4, [.int 0, .int 0, .ref q_2, .ref q_5, .ref q_8, .ref q_11, .ref q_14, .ref q_17, .null, .null, .int 0, .null, .null, .null, .null, .null, .null, .null, .null, .null, .int 0, .int 0, .int 0])) := ⟨_, rfl⟩
  have hP : va_P G vwCl (va_pl ((((((L ++ [q_2]) ++ [q_5]) ++ [q_8]) ++ [q_11]) ++ [q_14]) ++ [q_17]) f_18) H := by rw [ef_18]; exact hP
  have hD : va_D (pw_A L s.heap.size) (va_pl ((((((L ++ [q_2]) ++ [q_5]) ++ [q_8]) ++ [q_11]) ++ [q_14]) ++ [q_17]) f_18) := by rw [ef_18]; exact hD
  have hf_18_q : f_18 q = .inr (4, [.int 0, .int 0, .ref q_2, .ref q_5, .ref q_8, .ref q_11, .ref q_14, .ref q_17, .null, .null, .int 0, .null, .null, .null, .null, .null, .null, .null, .null, .null, .int 0, .int 0, .int 0]) := by rw [ef_18]; exact va_up_self _ _ _
  have hf_18_q_2 := (show f_18 q_2 = f_16 q_2 by rw [ef_18]; exact va_up_ne _ _ (fun z => n_q_2 (z ▸ hq0))).trans hf_16_q_2
  have hf_18_q_5 := (show f_18 q_5 = f_16 q_5 by rw [ef_18]; exact va_up_ne _ _ (fun z => n_q_5 (z ▸ hq0))).trans hf_16_q_5
  have hf_18_q_8 := (show f_18 q_8 = f_16 q_8 by rw [ef_18]; exact va_up_ne _ _ (fun z => n_q_8 (z ▸ hq0))).trans hf_16_q_8
  have hf_18_q_11 := (show f_18 q_11 = f_16 q_11 by rw [ef_18]; exact va_up_ne _ _ (fun z => n_q_11 (z ▸ hq0))).trans hf_16_q_11
  have hf_18_q_14 := (show f_18 q_14 = f_16 q_14 by rw [ef_18]; exact va_up_ne _ _ (fun z => n_q_14 (z ▸ hq0))).trans hf_16_q_14
  have hf_18_q_17 := (show f_18 q_17 = f_16 q_17 by rw [ef_18]; exact va_up_ne _ _ (fun z => n_q_17 (z ▸ hq0))).trans hf_16_q_17
  refine lv_aload_n hx hb dX4_init_52 rfl (lv_at hl 0 rfl) ?_
  refine lv_bipush (v := 36) hx hb dX4_init_53 (by decide) ?_
  refine pw_newa (atype := .int) (ty := .int) (a0 := (36, .inl (fun _ => 0))) hx hb (hts _ mw_106) rfl hK hP hD hS hA 0 rfl (fun _ h => h) (fun _ => rfl) (by decide) (by decide) (by decide) (Nat.le_of_ble_eq_true rfl) (Nat.le_of_ble_eq_true rfl) dX4_init_55 (fun q_20 H hq_20 hP hD hS => ?_)
  refine W.widen (k := 7) (n := 132) (Nat.le_refl _) (Nat.le_of_ble_eq_true rfl) ?_
  obtain ⟨f_19, ef_19⟩ : ∃ zz : Nat → va_E, zz = va_up f_18 q_20 (.inl (cs 0, 36, .inl (fun _ => 0))) := ⟨_, rfl⟩
  have hP : va_P G vwCl (va_pl (((((((L ++ [q_2]) ++ [q_5]) ++ [q_8]) ++ [q_11]) ++ [q_14]) ++ [q_17]) ++ [q_20]) f_19) H := by rw [ef_19]; exact hP
  have hD : va_D (pw_A L s.heap.size) (va_pl (((((((L ++ [q_2]) ++ [q_5]) ++ [q_8]) ++ [q_11]) ++ [q_14]) ++ [q_17]) ++ [q_20]) f_19) := by rw [ef_19]; exact hD
  have mf_19_q : q ∈ (((((((L ++ [q_2]) ++ [q_5]) ++ [q_8]) ++ [q_11]) ++ [q_14]) ++ [q_17]) ++ [q_20]) := List.mem_append_left _ mf_16_q
  have hf_19_q := (show f_19 q = f_18 q by rw [ef_19]; exact va_up_ne _ _ (fun h => hq_20 (h ▸ mf_16_q))).trans hf_18_q
  have mf_19_q_2 : q_2 ∈ (((((((L ++ [q_2]) ++ [q_5]) ++ [q_8]) ++ [q_11]) ++ [q_14]) ++ [q_17]) ++ [q_20]) := List.mem_append_left _ mf_16_q_2
  have hf_19_q_2 := (show f_19 q_2 = f_18 q_2 by rw [ef_19]; exact va_up_ne _ _ (fun h => hq_20 (h ▸ mf_16_q_2))).trans hf_18_q_2
  have mf_19_q_5 : q_5 ∈ (((((((L ++ [q_2]) ++ [q_5]) ++ [q_8]) ++ [q_11]) ++ [q_14]) ++ [q_17]) ++ [q_20]) := List.mem_append_left _ mf_16_q_5
  have hf_19_q_5 := (show f_19 q_5 = f_18 q_5 by rw [ef_19]; exact va_up_ne _ _ (fun h => hq_20 (h ▸ mf_16_q_5))).trans hf_18_q_5
  have mf_19_q_8 : q_8 ∈ (((((((L ++ [q_2]) ++ [q_5]) ++ [q_8]) ++ [q_11]) ++ [q_14]) ++ [q_17]) ++ [q_20]) := List.mem_append_left _ mf_16_q_8
  have hf_19_q_8 := (show f_19 q_8 = f_18 q_8 by rw [ef_19]; exact va_up_ne _ _ (fun h => hq_20 (h ▸ mf_16_q_8))).trans hf_18_q_8
  have mf_19_q_11 : q_11 ∈ (((((((L ++ [q_2]) ++ [q_5]) ++ [q_8]) ++ [q_11]) ++ [q_14]) ++ [q_17]) ++ [q_20]) := List.mem_append_left _ mf_16_q_11
  have hf_19_q_11 := (show f_19 q_11 = f_18 q_11 by rw [ef_19]; exact va_up_ne _ _ (fun h => hq_20 (h ▸ mf_16_q_11))).trans hf_18_q_11
  have mf_19_q_14 : q_14 ∈ (((((((L ++ [q_2]) ++ [q_5]) ++ [q_8]) ++ [q_11]) ++ [q_14]) ++ [q_17]) ++ [q_20]) := List.mem_append_left _ mf_16_q_14
  have hf_19_q_14 := (show f_19 q_14 = f_18 q_14 by rw [ef_19]; exact va_up_ne _ _ (fun h => hq_20 (h ▸ mf_16_q_14))).trans hf_18_q_14
  have mf_19_q_17 : q_17 ∈ (((((((L ++ [q_2]) ++ [q_5]) ++ [q_8]) ++ [q_11]) ++ [q_14]) ++ [q_17]) ++ [q_20]) := List.mem_append_left _ mf_16_q_17
  have hf_19_q_17 := (show f_19 q_17 = f_18 q_17 by rw [ef_19]; exact va_up_ne _ _ (fun h => hq_20 (h ▸ mf_16_q_17))).trans hf_18_q_17
  have mf_19_q_20 : q_20 ∈ (((((((L ++ [q_2]) ++ [q_5]) ++ [q_8]) ++ [q_11]) ++ [q_14]) ++ [q_17]) ++ [q_20]) := List.mem_append_right _ (List.mem_singleton.mpr rfl)
  have hf_19_q_20 : f_19 q_20 = .inl (cs 0, 36, .inl (fun _ => 0)) := by rw [ef_19]; exact va_up_self _ _ _
  have n_q_20 : q_20 ∉ L := fun z => hq_20 (List.mem_append_left _ (List.mem_append_left _ (List.mem_append_left _ (List.mem_append_left _ (List.mem_append_left _ (List.mem_append_left _ (z)))))))
  have nd_7 : ((((((([q] ++ [q_2]) ++ [q_5]) ++ [q_8]) ++ [q_11]) ++ [q_14]) ++ [q_17]) ++ [q_20]).Nodup := nd_push nd_6 (fun z => hq_20 (sb_6 _ z))
  have sb_7 : ∀ a ∈ ((((((([q] ++ [q_2]) ++ [q_5]) ++ [q_8]) ++ [q_11]) ++ [q_14]) ++ [q_17]) ++ [q_20]), a ∈ (((((((L ++ [q_2]) ++ [q_5]) ++ [q_8]) ++ [q_11]) ++ [q_14]) ++ [q_17]) ++ [q_20]) := nd_sub sb_6
  refine pw_putF (ty := .array .int) (ci := 4) (v := .ref q_20) (C := RX4) (T := TX4) (N := 23) hx hb hts inX4 tyX4 tyX4_ok nmX4 hown hK hP hD hS mf_19_q hf_19_q rfl 8 (by decide) (hts _ mw_335) (fun _ h9 => h9) rfl hin rfl (by decide +kernel) rfl rfl (Nat.le_of_ble_eq_true rfl) dX4_init_57 (fun H locs hP hD hS => ?_)
  obtain ⟨f_21, ef_21⟩ : ∃ zz : Nat → va_E, zz = va_up f_19 q (.inr (4, [.int 0, .int 0, .ref q_2, .ref q_5, .ref q_8, .ref q_11, .ref q_14, .ref q_17, .ref q_20, .null, .int 0, .null, .null, .null, .null, .null, .null, .null, .null, .null, .int 0, .int 0, .int 0])) := ⟨_, rfl⟩
  have hP : va_P G vwCl (va_pl (((((((L ++ [q_2]) ++ [q_5]) ++ [q_8]) ++ [q_11]) ++ [q_14]) ++ [q_17]) ++ [q_20]) f_21) H := by rw [ef_21]; exact hP
  have hD : va_D (pw_A L s.heap.size) (va_pl (((((((L ++ [q_2]) ++ [q_5]) ++ [q_8]) ++ [q_11]) ++ [q_14]) ++ [q_17]) ++ [q_20]) f_21) := by rw [ef_21]; exact hD
  have hf_21_q : f_21 q = .inr (4, [.int 0, .int 0, .ref q_2, .ref q_5, .ref q_8, .ref q_11, .ref q_14, .ref q_17, .ref q_20, .null, .int 0, .null, .null, .null, .null, .null, .null, .null, .null, .null, .int 0, .int 0, .int 0]) := by rw [ef_21]; exact va_up_self _ _ _
  have hf_21_q_2 := (show f_21 q_2 = f_19 q_2 by rw [ef_21]; exact va_up_ne _ _ (fun z => n_q_2 (z ▸ hq0))).trans hf_19_q_2
  have hf_21_q_5 := (show f_21 q_5 = f_19 q_5 by rw [ef_21]; exact va_up_ne _ _ (fun z => n_q_5 (z ▸ hq0))).trans hf_19_q_5
  have hf_21_q_8 := (show f_21 q_8 = f_19 q_8 by rw [ef_21]; exact va_up_ne _ _ (fun z => n_q_8 (z ▸ hq0))).trans hf_19_q_8
  have hf_21_q_11 := (show f_21 q_11 = f_19 q_11 by rw [ef_21]; exact va_up_ne _ _ (fun z => n_q_11 (z ▸ hq0))).trans hf_19_q_11
  have hf_21_q_14 := (show f_21 q_14 = f_19 q_14 by rw [ef_21]; exact va_up_ne _ _ (fun z => n_q_14 (z ▸ hq0))).trans hf_19_q_14
  have hf_21_q_17 := (show f_21 q_17 = f_19 q_17 by rw [ef_21]; exact va_up_ne _ _ (fun z => n_q_17 (z ▸ hq0))).trans hf_19_q_17
  have hf_21_q_20 := (show f_21 q_20 = f_19 q_20 by rw [ef_21]; exact va_up_ne _ _ (fun z => n_q_20 (z ▸ hq0))).trans hf_19_q_20
  refine lv_aload_n hx hb dX4_init_60 rfl (lv_at hl 0 rfl) ?_
  refine lv_bipush (v := 36) hx hb dX4_init_61 (by decide) ?_
  refine pw_newa (atype := .int) (ty := .int) (a0 := (36, .inl (fun _ => 0))) hx hb (hts _ mw_106) rfl hK hP hD hS hA 0 rfl (fun _ h => h) (fun _ => rfl) (by decide) (by decide) (by decide) (Nat.le_of_ble_eq_true rfl) (Nat.le_of_ble_eq_true rfl) dX4_init_63 (fun q_23 H hq_23 hP hD hS => ?_)
  refine W.widen (k := 8) (n := 168) (Nat.le_refl _) (Nat.le_of_ble_eq_true rfl) ?_
  obtain ⟨f_22, ef_22⟩ : ∃ zz : Nat → va_E, zz = va_up f_21 q_23 (.inl (cs 0, 36, .inl (fun _ => 0))) := ⟨_, rfl⟩
  have hP : va_P G vwCl (va_pl ((((((((L ++ [q_2]) ++ [q_5]) ++ [q_8]) ++ [q_11]) ++ [q_14]) ++ [q_17]) ++ [q_20]) ++ [q_23]) f_22) H := by rw [ef_22]; exact hP
  have hD : va_D (pw_A L s.heap.size) (va_pl ((((((((L ++ [q_2]) ++ [q_5]) ++ [q_8]) ++ [q_11]) ++ [q_14]) ++ [q_17]) ++ [q_20]) ++ [q_23]) f_22) := by rw [ef_22]; exact hD
  have mf_22_q : q ∈ ((((((((L ++ [q_2]) ++ [q_5]) ++ [q_8]) ++ [q_11]) ++ [q_14]) ++ [q_17]) ++ [q_20]) ++ [q_23]) := List.mem_append_left _ mf_19_q
  have hf_22_q := (show f_22 q = f_21 q by rw [ef_22]; exact va_up_ne _ _ (fun h => hq_23 (h ▸ mf_19_q))).trans hf_21_q
  have mf_22_q_2 : q_2 ∈ ((((((((L ++ [q_2]) ++ [q_5]) ++ [q_8]) ++ [q_11]) ++ [q_14]) ++ [q_17]) ++ [q_20]) ++ [q_23]) := List.mem_append_left _ mf_19_q_2
  have hf_22_q_2 := (show f_22 q_2 = f_21 q_2 by rw [ef_22]; exact va_up_ne _ _ (fun h => hq_23 (h ▸ mf_19_q_2))).trans hf_21_q_2
  have mf_22_q_5 : q_5 ∈ ((((((((L ++ [q_2]) ++ [q_5]) ++ [q_8]) ++ [q_11]) ++ [q_14]) ++ [q_17]) ++ [q_20]) ++ [q_23]) := List.mem_append_left _ mf_19_q_5
  have hf_22_q_5 := (show f_22 q_5 = f_21 q_5 by rw [ef_22]; exact va_up_ne _ _ (fun h => hq_23 (h ▸ mf_19_q_5))).trans hf_21_q_5
  have mf_22_q_8 : q_8 ∈ ((((((((L ++ [q_2]) ++ [q_5]) ++ [q_8]) ++ [q_11]) ++ [q_14]) ++ [q_17]) ++ [q_20]) ++ [q_23]) := List.mem_append_left _ mf_19_q_8
  have hf_22_q_8 := (show f_22 q_8 = f_21 q_8 by rw [ef_22]; exact va_up_ne _ _ (fun h => hq_23 (h ▸ mf_19_q_8))).trans hf_21_q_8
  have mf_22_q_11 : q_11 ∈ ((((((((L ++ [q_2]) ++ [q_5]) ++ [q_8]) ++ [q_11]) ++ [q_14]) ++ [q_17]) ++ [q_20]) ++ [q_23]) := List.mem_append_left _ mf_19_q_11
  have hf_22_q_11 := (show f_22 q_11 = f_21 q_11 by rw [ef_22]; exact va_up_ne _ _ (fun h => hq_23 (h ▸ mf_19_q_11))).trans hf_21_q_11
  have mf_22_q_14 : q_14 ∈ ((((((((L ++ [q_2]) ++ [q_5]) ++ [q_8]) ++ [q_11]) ++ [q_14]) ++ [q_17]) ++ [q_20]) ++ [q_23]) := List.mem_append_left _ mf_19_q_14
  have hf_22_q_14 := (show f_22 q_14 = f_21 q_14 by rw [ef_22]; exact va_up_ne _ _ (fun h => hq_23 (h ▸ mf_19_q_14))).trans hf_21_q_14
  have mf_22_q_17 : q_17 ∈ ((((((((L ++ [q_2]) ++ [q_5]) ++ [q_8]) ++ [q_11]) ++ [q_14]) ++ [q_17]) ++ [q_20]) ++ [q_23]) := List.mem_append_left _ mf_19_q_17
  have hf_22_q_17 := (show f_22 q_17 = f_21 q_17 by rw [ef_22]; exact va_up_ne _ _ (fun h => hq_23 (h ▸ mf_19_q_17))).trans hf_21_q_17
  have mf_22_q_20 : q_20 ∈ ((((((((L ++ [q_2]) ++ [q_5]) ++ [q_8]) ++ [q_11]) ++ [q_14]) ++ [q_17]) ++ [q_20]) ++ [q_23]) := List.mem_append_left _ mf_19_q_20
  have hf_22_q_20 := (show f_22 q_20 = f_21 q_20 by rw [ef_22]; exact va_up_ne _ _ (fun h => hq_23 (h ▸ mf_19_q_20))).trans hf_21_q_20
  have mf_22_q_23 : q_23 ∈ ((((((((L ++ [q_2]) ++ [q_5]) ++ [q_8]) ++ [q_11]) ++ [q_14]) ++ [q_17]) ++ [q_20]) ++ [q_23]) := List.mem_append_right _ (List.mem_singleton.mpr rfl)
  have hf_22_q_23 : f_22 q_23 = .inl (cs 0, 36, .inl (fun _ => 0)) := by rw [ef_22]; exact va_up_self _ _ _
  have n_q_23 : q_23 ∉ L := fun z => hq_23 (List.mem_append_left _ (List.mem_append_left _ (List.mem_append_left _ (List.mem_append_left _ (List.mem_append_left _ (List.mem_append_left _ (List.mem_append_left _ (z))))))))
  have nd_8 : (((((((([q] ++ [q_2]) ++ [q_5]) ++ [q_8]) ++ [q_11]) ++ [q_14]) ++ [q_17]) ++ [q_20]) ++ [q_23]).Nodup := nd_push nd_7 (fun z => hq_23 (sb_7 _ z))
  have sb_8 : ∀ a ∈ (((((((([q] ++ [q_2]) ++ [q_5]) ++ [q_8]) ++ [q_11]) ++ [q_14]) ++ [q_17]) ++ [q_20]) ++ [q_23]), a ∈ ((((((((L ++ [q_2]) ++ [q_5]) ++ [q_8]) ++ [q_11]) ++ [q_14]) ++ [q_17]) ++ [q_20]) ++ [q_23]) := nd_sub sb_7
  refine pw_putF (ty := .array .int) (ci := 4) (v := .ref q_23) (C := RX4) (T := TX4) (N := 23) hx hb hts inX4 tyX4 tyX4_ok nmX4 hown hK hP hD hS mf_22_q hf_22_q rfl 9 (by decide) (hts _ mw_336) (fun _ h9 => h9) rfl hin rfl (by decide +kernel) rfl rfl (Nat.le_of_ble_eq_true rfl) dX4_init_65 (fun H locs hP hD hS => ?_)
  obtain ⟨f_24, ef_24⟩ : ∃ zz : Nat → va_E, zz = va_up f_22 q (.inr (4, [.int 0, .int 0, .ref q_2, .ref q_5, .ref q_8, .ref q_11, .ref q_14, .ref q_17, .ref q_20, .ref q_23, .int 0, .null, .null, .null, .null, .null, .null, .null, .null, .null, .int 0, .int 0, .int 0])) := ⟨_, rfl⟩
  have hP : va_P G vwCl (va_pl ((((((((L ++ [q_2]) ++ [q_5]) ++ [q_8]) ++ [q_11]) ++ [q_14]) ++ [q_17]) ++ [q_20]) ++ [q_23]) f_24) H := by rw [ef_24]; exact hP
  have hD : va_D (pw_A L s.heap.size) (va_pl ((((((((L ++ [q_2]) ++ [q_5]) ++ [q_8]) ++ [q_11]) ++ [q_14]) ++ [q_17]) ++ [q_20]) ++ [q_23]) f_24) := by rw [ef_24]; exact hD
  have hf_24_q : f_24 q = .inr (4, [.int 0, .int 0, .ref q_2, .ref q_5, .ref q_8, .ref q_11, .ref q_14, .ref q_17, .ref q_20, .ref q_23, .int 0, .null, .null, .null, .null, .null, .null, .null, .null, .null, .int 0, .int 0, .int 0]) := by rw [ef_24]; exact va_up_self _ _ _
  have hf_24_q_2 := (show f_24 q_2 = f_22 q_2 by rw [ef_24]; exact va_up_ne _ _ (fun z => n_q_2 (z ▸ hq0))).trans hf_22_q_2
  have hf_24_q_5 := (show f_24 q_5 = f_22 q_5 by rw [ef_24]; exact va_up_ne _ _ (fun z => n_q_5 (z ▸ hq0))).trans hf_22_q_5
  have hf_24_q_8 := (show f_24 q_8 = f_22 q_8 by rw [ef_24]; exact va_up_ne _ _ (fun z => n_q_8 (z ▸ hq0))).trans hf_22_q_8
  have hf_24_q_11 := (show f_24 q_11 = f_22 q_11 by rw [ef_24]; exact va_up_ne _ _ (fun z => n_q_11 (z ▸ hq0))).trans hf_22_q_11
  have hf_24_q_14 := (show f_24 q_14 = f_22 q_14 by rw [ef_24]; exact va_up_ne _ _ (fun z => n_q_14 (z ▸ hq0))).trans hf_22_q_14
  have hf_24_q_17 := (show f_24 q_17 = f_22 q_17 by rw [ef_24]; exact va_up_ne _ _ (fun z => n_q_17 (z ▸ hq0))).trans hf_22_q_17
  have hf_24_q_20 := (show f_24 q_20 = f_22 q_20 by rw [ef_24]; exact va_up_ne _ _ (fun z => n_q_20 (z ▸ hq0))).trans hf_22_q_20
  have hf_24_q_23 := (show f_24 q_23 = f_22 q_23 by rw [ef_24]; exact va_up_ne _ _ (fun z => n_q_23 (z ▸ hq0))).trans hf_22_q_23
  refine lv_aload_n hx hb dX4_init_68 rfl (lv_at hl 0 rfl) ?_
  refine lv_bipush (v := 12) hx hb dX4_init_69 (by decide) ?_
  refine pw_newa (atype := .int) (ty := .int) (a0 := (12, .inl (fun _ => 0))) hx hb (hts _ mw_106) rfl hK hP hD hS hA 0 rfl (fun _ h => h) (fun _ => rfl) (by decide) (by decide) (by decide) (Nat.le_of_ble_eq_true rfl) (Nat.le_of_ble_eq_true rfl) dX4_init_71 (fun q_26 H hq_26 hP hD hS => ?_)
  refine W.widen (k := 9) (n := 180) (Nat.le_refl _) (Nat.le_of_ble_eq_true rfl) ?_
  obtain ⟨f_25, ef_25⟩ : ∃ zz : Nat → va_E, zz = va_up f_24 q_26 (.inl (cs 0, 12, .inl (fun _ => 0))) := ⟨_, rfl⟩
  have hP : va_P G vwCl (va_pl (((((((((L ++ [q_2]) ++ [q_5]) ++ [q_8]) ++ [q_11]) ++ [q_14]) ++ [q_17]) ++ [q_20]) ++ [q_23]) ++ [q_26]) f_25) H := by rw [ef_25]; exact hP
  have hD : va_D (pw_A L s.heap.size) (va_pl (((((((((L ++ [q_2]) ++ [q_5]) ++ [q_8]) ++ [q_11]) ++ [q_14]) ++ [q_17]) ++ [q_20]) ++ [q_23]) ++ [q_26]) f_25) := by rw [ef_25]; exact hD
  have mf_25_q : q ∈ (((((((((L ++ [q_2]) ++ [q_5]) ++ [q_8]) ++ [q_11]) ++ [q_14]) ++ [q_17]) ++ [q_20]) ++ [q_23]) ++ [q_26]) := List.mem_append_left _ mf_22_q
  have hf_25_q := (show f_25 q = f_24 q by rw [ef_25]; exact va_up_ne _ _ (fun h => hq_26 (h ▸ mf_22_q))).trans hf_24_q
  have mf_25_q_2 : q_2 ∈ (((((((((L ++ [q_2]) ++ [q_5]) ++ [q_8]) ++ [q_11]) ++ [q_14]) ++ [q_17]) ++ [q_20]) ++ [q_23]) ++ [q_26]) := List.mem_append_left _ mf_22_q_2
  have hf_25_q_2 := (show f_25 q_2 = f_24 q_2 by rw [ef_25]; exact va_up_ne _ _ (fun h => hq_26 (h ▸ mf_22_q_2))).trans hf_24_q_2
  have mf_25_q_5 : q_5 ∈ (((((((((L ++ [q_2]) ++ [q_5]) ++ [q_8]) ++ [q_11]) ++ [q_14]) ++ [q_17]) ++ [q_20]) ++ [q_23]) ++ [q_26]) := List.mem_append_left _ mf_22_q_5
  have hf_25_q_5 := (show f_25 q_5 = f_24 q_5 by rw [ef_25]; exact va_up_ne _ _ (fun h => hq_26 (h ▸ mf_22_q_5))).trans hf_24_q_5
  have mf_25_q_8 : q_8 ∈ (((((((((L ++ [q_2]) ++ [q_5]) ++ [q_8]) ++ [q_11]) ++ [q_14]) ++ [q_17]) ++ [q_20]) ++ [q_23]) ++ [q_26]) := List.mem_append_left _ mf_22_q_8
  have hf_25_q_8 := (show f_25 q_8 = f_24 q_8 by rw [ef_25]; exact va_up_ne _ _ (fun h => hq_26 (h ▸ mf_22_q_8))).trans hf_24_q_8
  have mf_25_q_11 : q_11 ∈ (((((((((L ++ [q_2]) ++ [q_5]) ++ [q_8]) ++ [q_11]) ++ [q_14]) ++ [q_17]) ++ [q_20]) ++ [q_23]) ++ [q_26]) := List.mem_append_left _ mf_22_q_11
  have hf_25_q_11 := (show f_25 q_11 = f_24 q_11 by rw [ef_25]; exact va_up_ne _ _ (fun h => hq_26 (h ▸ mf_22_q_11))).trans hf_24_q_11
  have mf_25_q_14 : q_14 ∈ (((((((((L ++ [q_2]) ++ [q_5]) ++ [q_8]) ++ [q_11]) ++ [q_14]) ++ [q_17]) ++ [q_20]) ++ [q_23]) ++ [q_26]) := List.mem_append_left _ mf_22_q_14
  have hf_25_q_14 := (show f_25 q_14 = f_24 q_14 by rw [ef_25]; exact va_up_ne _ _ (fun h => hq_26 (h ▸ mf_22_q_14))).trans hf_24_q_14
  have mf_25_q_17 : q_17 ∈ (((((((((L ++ [q_2]) ++ [q_5]) ++ [q_8]) ++ [q_11]) ++ [q_14]) ++ [q_17]) ++ [q_20]) ++ [q_23]) ++ [q_26]) := List.mem_append_left _ mf_22_q_17
  have hf_25_q_17 := (show f_25 q_17 = f_24 q_17 by rw [ef_25]; exact va_up_ne _ _ (fun h => hq_26 (h ▸ mf_22_q_17))).trans hf_24_q_17
  have mf_25_q_20 : q_20 ∈ (((((((((L ++ [q_2]) ++ [q_5]) ++ [q_8]) ++ [q_11]) ++ [q_14]) ++ [q_17]) ++ [q_20]) ++ [q_23]) ++ [q_26]) := List.mem_append_left _ mf_22_q_20
  have hf_25_q_20 := (show f_25 q_20 = f_24 q_20 by rw [ef_25]; exact va_up_ne _ _ (fun h => hq_26 (h ▸ mf_22_q_20))).trans hf_24_q_20
  have mf_25_q_23 : q_23 ∈ (((((((((L ++ [q_2]) ++ [q_5]) ++ [q_8]) ++ [q_11]) ++ [q_14]) ++ [q_17]) ++ [q_20]) ++ [q_23]) ++ [q_26]) := List.mem_append_left _ mf_22_q_23
  have hf_25_q_23 := (show f_25 q_23 = f_24 q_23 by rw [ef_25]; exact va_up_ne _ _ (fun h => hq_26 (h ▸ mf_22_q_23))).trans hf_24_q_23
  have mf_25_q_26 : q_26 ∈ (((((((((L ++ [q_2]) ++ [q_5]) ++ [q_8]) ++ [q_11]) ++ [q_14]) ++ [q_17]) ++ [q_20]) ++ [q_23]) ++ [q_26]) := List.mem_append_right _ (List.mem_singleton.mpr rfl)
  have hf_25_q_26 : f_25 q_26 = .inl (cs 0, 12, .inl (fun _ => 0)) := by rw [ef_25]; exact va_up_self _ _ _
  have n_q_26 : q_26 ∉ L := fun z => hq_26 (List.mem_append_left _ (List.mem_append_left _ (List.mem_append_left _ (List.mem_append_left _ (List.mem_append_left _ (List.mem_append_left _ (List.mem_append_left _ (List.mem_append_left _ (z)))))))))
  have nd_9 : ((((((((([q] ++ [q_2]) ++ [q_5]) ++ [q_8]) ++ [q_11]) ++ [q_14]) ++ [q_17]) ++ [q_20]) ++ [q_23]) ++ [q_26]).Nodup := nd_push nd_8 (fun z => hq_26 (sb_8 _ z))
  have sb_9 : ∀ a ∈ ((((((((([q] ++ [q_2]) ++ [q_5]) ++ [q_8]) ++ [q_11]) ++ [q_14]) ++ [q_17]) ++ [q_20]) ++ [q_23]) ++ [q_26]), a ∈ (((((((((L ++ [q_2]) ++ [q_5]) ++ [q_8]) ++ [q_11]) ++ [q_14]) ++ [q_17]) ++ [q_20]) ++ [q_23]) ++ [q_26]) := nd_sub sb_8
  refine pw_putF (ty := .array .int) (ci := 4) (v := .ref q_26) (C := RX4) (T := TX4) (N := 23) hx hb hts inX4 tyX4 tyX4_ok nmX4 hown hK hP hD hS mf_25_q hf_25_q rfl 11 (by decide) (hts _ mw_338) (fun _ h9 => h9) rfl hin rfl (by decide +kernel) rfl rfl (Nat.le_of_ble_eq_true rfl) dX4_init_73 (fun H locs hP hD hS => ?_)
  obtain ⟨f_27, ef_27⟩ : ∃ zz : Nat → va_E, zz = va_up f_25 q (.inr (4, [.int 0, .int 0, .ref q_2, .ref q_5, .ref q_8, .ref q_11, .ref q_14, .ref q_17, .ref q_20, .ref q_23, .int 0, .ref q_26, .null, .null, .null, .null, .null, .null, .null, .null, .int 0, .int 0, .int 0])) := ⟨_, rfl⟩
  have hP : va_P G vwCl (va_pl (((((((((L ++ [q_2]) ++ [q_5]) ++ [q_8]) ++ [q_11]) ++ [q_14]) ++ [q_17]) ++ [q_20]) ++ [q_23]) ++ [q_26]) f_27) H := by rw [ef_27]; exact hP
  have hD : va_D (pw_A L s.heap.size) (va_pl (((((((((L ++ [q_2]) ++ [q_5]) ++ [q_8]) ++ [q_11]) ++ [q_14]) ++ [q_17]) ++ [q_20]) ++ [q_23]) ++ [q_26]) f_27) := by rw [ef_27]; exact hD
  have hf_27_q : f_27 q = .inr (4, [.int 0, .int 0, .ref q_2, .ref q_5, .ref q_8, .ref q_11, .ref q_14, .ref q_17, .ref q_20, .ref q_23, .int 0, .ref q_26, .null, .null, .null, .null, .null, .null, .null, .null, .int 0, .int 0, .int 0]) := by rw [ef_27]; exact va_up_self _ _ _
  have hf_27_q_2 := (show f_27 q_2 = f_25 q_2 by rw [ef_27]; exact va_up_ne _ _ (fun z => n_q_2 (z ▸ hq0))).trans hf_25_q_2
  have hf_27_q_5 := (show f_27 q_5 = f_25 q_5 by rw [ef_27]; exact va_up_ne _ _ (fun z => n_q_5 (z ▸ hq0))).trans hf_25_q_5
  have hf_27_q_8 := (show f_27 q_8 = f_25 q_8 by rw [ef_27]; exact va_up_ne _ _ (fun z => n_q_8 (z ▸ hq0))).trans hf_25_q_8
  have hf_27_q_11 := (show f_27 q_11 = f_25 q_11 by rw [ef_27]; exact va_up_ne _ _ (fun z => n_q_11 (z ▸ hq0))).trans hf_25_q_11
  have hf_27_q_14 := (show f_27 q_14 = f_25 q_14 by rw [ef_27]; exact va_up_ne _ _ (fun z => n_q_14 (z ▸ hq0))).trans hf_25_q_14
  have hf_27_q_17 := (show f_27 q_17 = f_25 q_17 by rw [ef_27]; exact va_up_ne _ _ (fun z => n_q_17 (z ▸ hq0))).trans hf_25_q_17
  have hf_27_q_20 := (show f_27 q_20 = f_25 q_20 by rw [ef_27]; exact va_up_ne _ _ (fun z => n_q_20 (z ▸ hq0))).trans hf_25_q_20
  have hf_27_q_23 := (show f_27 q_23 = f_25 q_23 by rw [ef_27]; exact va_up_ne _ _ (fun z => n_q_23 (z ▸ hq0))).trans hf_25_q_23
  have hf_27_q_26 := (show f_27 q_26 = f_25 q_26 by rw [ef_27]; exact va_up_ne _ _ (fun z => n_q_26 (z ▸ hq0))).trans hf_25_q_26
  refine lv_aload_n hx hb dX4_init_76 rfl (lv_at hl 0 rfl) ?_
  refine lv_bipush (v := 12) hx hb dX4_init_77 (by decide) ?_
  refine pw_newa (atype := .long) (ty := .long) (a0 := (12, .inr (.inl (fun _ => 0)))) hx hb (hts _ mw_397) rfl hK hP hD hS hA 3 rfl (fun _ h => h) (fun _ => rfl) (by decide) (by decide) (by decide) (Nat.le_of_ble_eq_true rfl) (Nat.le_of_ble_eq_true rfl) dX4_init_79 (fun q_29 H hq_29 hP hD hS => ?_)
  refine W.widen (k := 10) (n := 192) (Nat.le_refl _) (Nat.le_of_ble_eq_true rfl) ?_
  obtain ⟨f_28, ef_28⟩ : ∃ zz : Nat → va_E, zz = va_up f_27 q_29 (.inl (cs 3, 12, .inr (.inl (fun _ => 0)))) := ⟨_, rfl⟩
  have hP : va_P G vwCl (va_pl ((((((((((L ++ [q_2]) ++ [q_5]) ++ [q_8]) ++ [q_11]) ++ [q_14]) ++ [q_17]) ++ [q_20]) ++ [q_23]) ++ [q_26]) ++ [q_29]) f_28) H := by rw [ef_28]; exact hP
  have hD : va_D (pw_A L s.heap.size) (va_pl ((((((((((L ++ [q_2]) ++ [q_5]) ++ [q_8]) ++ [q_11]) ++ [q_14]) ++ [q_17]) ++ [q_20]) ++ [q_23]) ++ [q_26]) ++ [q_29]) f_28) := by rw [ef_28]; exact hD
  have mf_28_q : q ∈ ((((((((((L ++ [q_2]) ++ [q_5]) ++ [q_8]) ++ [q_11]) ++ [q_14]) ++ [q_17]) ++ [q_20]) ++ [q_23]) ++ [q_26]) ++ [q_29]) := List.mem_append_left _ mf_25_q
  have hf_28_q := (show f_28 q = f_27 q by rw [ef_28]; exact va_up_ne _ _ (fun h => hq_29 (h ▸ mf_25_q))).trans hf_27_q
  have mf_28_q_2 : q_2 ∈ ((((((((((L ++ [q_2]) ++ [q_5]) ++ [q_8]) ++ [q_11]) ++ [q_14]) ++ [q_17]) ++ [q_20]) ++ [q_23]) ++ [q_26]) ++ [q_29]) := List.mem_append_left _ mf_25_q_2
  have hf_28_q_2 := (show f_28 q_2 = f_27 q_2 by rw [ef_28]; exact va_up_ne _ _ (fun h => hq_29 (h ▸ mf_25_q_2))).trans hf_27_q_2
  have mf_28_q_5 : q_5 ∈ ((((((((((L ++ [q_2]) ++ [q_5]) ++ [q_8]) ++ [q_11]) ++ [q_14]) ++ [q_17]) ++ [q_20]) ++ [q_23]) ++ [q_26]) ++ [q_29]) := List.mem_append_left _ mf_25_q_5
  have hf_28_q_5 := (show f_28 q_5 = f_27 q_5 by rw [ef_28]; exact va_up_ne _ _ (fun h => hq_29 (h ▸ mf_25_q_5))).trans hf_27_q_5
  have mf_28_q_8 : q_8 ∈ ((((((((((L ++ [q_2]) ++ [q_5]) ++ [q_8]) ++ [q_11]) ++ [q_14]) ++ [q_17]) ++ [q_20]) ++ [q_23]) ++ [q_26]) ++ [q_29]) := List.mem_append_left _ mf_25_q_8
  have hf_28_q_8 := (show f_28 q_8 = f_27 q_8 by rw [ef_28]; exact va_up_ne _ _ (fun h => hq_29 (h ▸ mf_25_q_8))).trans hf_27_q_8
  have mf_28_q_11 : q_11 ∈ ((((((((((L ++ [q_2]) ++ [q_5]) ++ [q_8]) ++ [q_11]) ++ [q_14]) ++ [q_17]) ++ [q_20]) ++ [q_23]) ++ [q_26]) ++ [q_29]) := List.mem_append_left _ mf_25_q_11
  have hf_28_q_11 := (show f_28 q_11 = f_27 q_11 by rw [ef_28]; exact va_up_ne _ _ (fun h => hq_29 (h ▸ mf_25_q_11))).trans hf_27_q_11
  have mf_28_q_14 : q_14 ∈ ((((((((((L ++ [q_2]) ++ [q_5]) ++ [q_8]) ++ [q_11]) ++ [q_14]) ++ [q_17]) ++ [q_20]) ++ [q_23]) ++ [q_26]) ++ [q_29]) := List.mem_append_left _ mf_25_q_14
  have hf_28_q_14 := (show f_28 q_14 = f_27 q_14 by rw [ef_28]; exact va_up_ne _ _ (fun h => hq_29 (h ▸ mf_25_q_14))).trans hf_27_q_14
  have mf_28_q_17 : q_17 ∈ ((((((((((L ++ [q_2]) ++ [q_5]) ++ [q_8]) ++ [q_11]) ++ [q_14]) ++ [q_17]) ++ [q_20]) ++ [q_23]) ++ [q_26]) ++ [q_29]) := List.mem_append_left _ mf_25_q_17
  have hf_28_q_17 := (show f_28 q_17 = f_27 q_17 by rw [ef_28]; exact va_up_ne _ _ (fun h => hq_29 (h ▸ mf_25_q_17))).trans hf_27_q_17
  have mf_28_q_20 : q_20 ∈ ((((((((((L ++ [q_2]) ++ [q_5]) ++ [q_8]) ++ [q_11]) ++ [q_14]) ++ [q_17]) ++ [q_20]) ++ [q_23]) ++ [q_26]) ++ [q_29]) := List.mem_append_left _ mf_25_q_20
  have hf_28_q_20 := (show f_28 q_20 = f_27 q_20 by rw [ef_28]; exact va_up_ne _ _ (fun h => hq_29 (h ▸ mf_25_q_20))).trans hf_27_q_20
  have mf_28_q_23 : q_23 ∈ ((((((((((L ++ [q_2]) ++ [q_5]) ++ [q_8]) ++ [q_11]) ++ [q_14]) ++ [q_17]) ++ [q_20]) ++ [q_23]) ++ [q_26]) ++ [q_29]) := List.mem_append_left _ mf_25_q_23
  have hf_28_q_23 := (show f_28 q_23 = f_27 q_23 by rw [ef_28]; exact va_up_ne _ _ (fun h => hq_29 (h ▸ mf_25_q_23))).trans hf_27_q_23
  have mf_28_q_26 : q_26 ∈ ((((((((((L ++ [q_2]) ++ [q_5]) ++ [q_8]) ++ [q_11]) ++ [q_14]) ++ [q_17]) ++ [q_20]) ++ [q_23]) ++ [q_26]) ++ [q_29]) := List.mem_append_left _ mf_25_q_26
  have hf_28_q_26 := (show f_28 q_26 = f_27 q_26 by rw [ef_28]; exact va_up_ne _ _ (fun h => hq_29 (h ▸ mf_25_q_26))).trans hf_27_q_26
  have mf_28_q_29 : q_29 ∈ ((((((((((L ++ [q_2]) ++ [q_5]) ++ [q_8]) ++ [q_11]) ++ [q_14]) ++ [q_17]) ++ [q_20]) ++ [q_23]) ++ [q_26]) ++ [q_29]) := List.mem_append_right _ (List.mem_singleton.mpr rfl)
  have hf_28_q_29 : f_28 q_29 = .inl (cs 3, 12, .inr (.inl (fun _ => 0))) := by rw [ef_28]; exact va_up_self _ _ _
  have n_q_29 : q_29 ∉ L := fun z => hq_29 (List.mem_append_left _ (List.mem_append_left _ (List.mem_append_left _ (List.mem_append_left _ (List.mem_append_left _ (List.mem_append_left _ (List.mem_append_left _ (List.mem_append_left _ (List.mem_append_left _ (z))))))))))
  have nd_10 : (((((((((([q] ++ [q_2]) ++ [q_5]) ++ [q_8]) ++ [q_11]) ++ [q_14]) ++ [q_17]) ++ [q_20]) ++ [q_23]) ++ [q_26]) ++ [q_29]).Nodup := nd_push nd_9 (fun z => hq_29 (sb_9 _ z))
  have sb_10 : ∀ a ∈ (((((((((([q] ++ [q_2]) ++ [q_5]) ++ [q_8]) ++ [q_11]) ++ [q_14]) ++ [q_17]) ++ [q_20]) ++ [q_23]) ++ [q_26]) ++ [q_29]), a ∈ ((((((((((L ++ [q_2]) ++ [q_5]) ++ [q_8]) ++ [q_11]) ++ [q_14]) ++ [q_17]) ++ [q_20]) ++ [q_23]) ++ [q_26]) ++ [q_29]) := nd_sub sb_9
  refine pw_putF (ty := .array .long) (ci := 4) (v := .ref q_29) (C := RX4) (T := TX4) (N := 23) hx hb hts inX4 tyX4 tyX4_ok nmX4 hown hK hP hD hS mf_28_q hf_28_q rfl 12 (by decide) (hts _ mw_339) (fun _ h9 => h9) rfl hin rfl (by decide +kernel) rfl rfl (Nat.le_of_ble_eq_true rfl) dX4_init_81 (fun H locs hP hD hS => ?_)
  obtain ⟨f_30, ef_30⟩ : ∃ zz : Nat → va_E, zz = va_up f_28 q (.inr (4, [.int 0, .int 0, .ref q_2, .ref q_5, .ref q_8, .ref q_11, .ref q_14, .ref q_17, .ref q_20, .ref q_23, .int 0, .ref q_26, .ref q_29, .null, .null, .null, .null, .null, .null, .null, .int 0, .int 0, .int 0])) := ⟨_, rfl⟩
  have hP : va_P G vwCl (va_pl ((((((((((L ++ [q_2]) ++ [q_5]) ++ [q_8]) ++ [q_11]) ++ [q_14]) ++ [q_17]) ++ [q_20]) ++ [q_23]) ++ [q_26]) ++ [q_29]) f_30) H := by rw [ef_30]; exact hP
  have hD : va_D (pw_A L s.heap.size) (va_pl ((((((((((L ++ [q_2]) ++ [q_5]) ++ [q_8]) ++ [q_11]) ++ [q_14]) ++ [q_17]) ++ [q_20]) ++ [q_23]) ++ [q_26]) ++ [q_29]) f_30) := by rw [ef_30]; exact hD
  have hf_30_q : f_30 q = .inr (4, [.int 0, .int 0, .ref q_2, .ref q_5, .ref q_8, .ref q_11, .ref q_14, .ref q_17, .ref q_20, .ref q_23, .int 0, .ref q_26, .ref q_29, .null, .null, .null, .null, .null, .null, .null, .int 0, .int 0, .int 0]) := by rw [ef_30]; exact va_up_self _ _ _
  have hf_30_q_2 := (show f_30 q_2 = f_28 q_2 by rw [ef_30]; exact va_up_ne _ _ (fun z => n_q_2 (z ▸ hq0))).trans hf_28_q_2
  have hf_30_q_5 := (show f_30 q_5 = f_28 q_5 by rw [ef_30]; exact va_up_ne _ _ (fun z => n_q_5 (z ▸ hq0))).trans hf_28_q_5
  have hf_30_q_8 := (show f_30 q_8 = f_28 q_8 by rw [ef_30]; exact va_up_ne _ _ (fun z => n_q_8 (z ▸ hq0))).trans hf_28_q_8
  have hf_30_q_11 := (show f_30 q_11 = f_28 q_11 by rw [ef_30]; exact va_up_ne _ _ (fun z => n_q_11 (z ▸ hq0))).trans hf_28_q_11
  have hf_30_q_14 := (show f_30 q_14 = f_28 q_14 by rw [ef_30]; exact va_up_ne _ _ (fun z => n_q_14 (z ▸ hq0))).trans hf_28_q_14
  have hf_30_q_17 := (show f_30 q_17 = f_28 q_17 by rw [ef_30]; exact va_up_ne _ _ (fun z => n_q_17 (z ▸ hq0))).trans hf_28_q_17
  have hf_30_q_20 := (show f_30 q_20 = f_28 q_20 by rw [ef_30]; exact va_up_ne _ _ (fun z => n_q_20 (z ▸ hq0))).trans hf_28_q_20
  have hf_30_q_23 := (show f_30 q_23 = f_28 q_23 by rw [ef_30]; exact va_up_ne _ _ (fun z => n_q_23 (z ▸ hq0))).trans hf_28_q_23
  have hf_30_q_26 := (show f_30 q_26 = f_28 q_26 by rw [ef_30]; exact va_up_ne _ _ (fun z => n_q_26 (z ▸ hq0))).trans hf_28_q_26
  have hf_30_q_29 := (show f_30 q_29 = f_28 q_29 by rw [ef_30]; exact va_up_ne _ _ (fun z => n_q_29 (z ▸ hq0))).trans hf_28_q_29
  refine lv_aload_n hx hb dX4_init_84 rfl (lv_at hl 0 rfl) ?_
  refine lv_bipush (v := 12) hx hb dX4_init_85 (by decide) ?_
  refine pw_newa (atype := .int) (ty := .int) (a0 := (12, .inl (fun _ => 0))) hx hb (hts _ mw_106) rfl hK hP hD hS hA 0 rfl (fun _ h => h) (fun _ => rfl) (by decide) (by decide) (by decide) (Nat.le_of_ble_eq_true rfl) (Nat.le_of_ble_eq_true rfl) dX4_init_87 (fun q_32 H hq_32 hP hD hS => ?_)
  refine W.widen (k := 11) (n := 204) (Nat.le_refl _) (Nat.le_of_ble_eq_true rfl) ?_
  obtain ⟨f_31, ef_31⟩ : ∃ zz : Nat → va_E, zz = va_up f_30 q_32 (.inl (cs 0, 12, .inl (fun _ => 0))) := ⟨_, rfl⟩
  have hP : va_P G vwCl (va_pl (((((((((((L ++ [q_2]) ++ [q_5]) ++ [q_8]) ++ [q_11]) ++ [q_14]) ++ [q_17]) ++ [q_20]) ++ [q_23]) ++ [q_26]) ++ [q_29]) ++ [q_32]) f_31) H := by rw [ef_31]; exact hP
  have hD : va_D (pw_A L s.heap.size) (va_pl (((((((((((L ++ [q_2]) ++ [q_5]) ++ [q_8]) ++ [q_11]) ++ [q_14]) ++ [q_17]) ++ [q_20]) ++ [q_23]) ++ [q_26]) ++ [q_29]) ++ [q_32]) f_31) := by rw [ef_31]; exact hD
  have mf_31_q : q ∈ (((((((((((L ++ [q_2]) ++ [q_5]) ++ [q_8]) ++ [q_11]) ++ [q_14]) ++ [q_17]) ++ [q_20]) ++ [q_23]) ++ [q_26]) ++ [q_29]) ++ [q_32]) := List.mem_append_left _ mf_28_q
  have hf_31_q := (show f_31 q = f_30 q by rw [ef_31]; exact va_up_ne _ _ (fun h => hq_32 (h ▸ mf_28_q))).trans hf_30_q
  have mf_31_q_2 : q_2 ∈ (((((((((((L ++ [q_2]) ++ [q_5]) ++ [q_8]) ++ [q_11]) ++ [q_14]) ++ [q_17]) ++ [q_20]) ++ [q_23]) ++ [q_26]) ++ [q_29]) ++ [q_32]) := List.mem_append_left _ mf_28_q_2
  have hf_31_q_2 := (show f_31 q_2 = f_30 q_2 by rw [ef_31]; exact va_up_ne _ _ (fun h => hq_32 (h ▸ mf_28_q_2))).trans hf_30_q_2
  have mf_31_q_5 : q_5 ∈ (((((((((((L ++ [q_2]) ++ [q_5]) ++ [q_8]) ++ [q_11]) ++ [q_14]) ++ [q_17]) ++ [q_20]) ++ [q_23]) ++ [q_26]) ++ [q_29]) ++ [q_32]) := List.mem_append_left _ mf_28_q_5
  have hf_31_q_5 := (show f_31 q_5 = f_30 q_5 by rw [ef_31]; exact va_up_ne _ _ (fun h => hq_32 (h ▸ mf_28_q_5))).trans hf_30_q_5
  have mf_31_q_8 : q_8 ∈ (((((((((((L ++ [q_2]) ++ [q_5]) ++ [q_8]) ++ [q_11]) ++ [q_14]) ++ [q_17]) ++ [q_20]) ++ [q_23]) ++ [q_26]) ++ [q_29]) ++ [q_32]) := List.mem_append_left _ mf_28_q_8
  have hf_31_q_8 := (show f_31 q_8 = f_30 q_8 by rw [ef_31]; exact va_up_ne _ _ (fun h => hq_32 (h ▸ mf_28_q_8))).trans hf_30_q_8
  have mf_31_q_11 : q_11 ∈ (((((((((((L ++ [q_2]) ++ [q_5]) ++ [q_8]) ++ [q_11]) ++ [q_14]) ++ [q_17]) ++ [q_20]) ++ [q_23]) ++ [q_26]) ++ [q_29]) ++ [q_32]) := List.mem_append_left _ mf_28_q_11
  have hf_31_q_11 := (show f_31 q_11 = f_30 q_11 by rw [ef_31]; exact va_up_ne _ _ (fun h => hq_32 (h ▸ mf_28_q_11))).trans hf_30_q_11
  have mf_31_q_14 : q_14 ∈ (((((((((((L ++ [q_2]) ++ [q_5]) ++ [q_8]) ++ [q_11]) ++ [q_14]) ++ [q_17]) ++ [q_20]) ++ [q_23]) ++ [q_26]) ++ [q_29]) ++ [q_32]) := List.mem_append_left _ mf_28_q_14
  have hf_31_q_14 := (show f_31 q_14 = f_30 q_14 by rw [ef_31]; exact va_up_ne _ _ (fun h => hq_32 (h ▸ mf_28_q_14))).trans hf_30_q_14
  have mf_31_q_17 : q_17 ∈ (((((((((((L ++ [q_2]) ++ [q_5]) ++ [q_8]) ++ [q_11]) ++ [q_14]) ++ [q_17]) ++ [q_20]) ++ [q_23]) ++ [q_26]) ++ [q_29]) ++ [q_32]) := List.mem_append_left _ mf_28_q_17
  have hf_31_q_17 := (show f_31 q_17 = f_30 q_17 by rw [ef_31]; exact va_up_ne _ _ (fun h => hq_32 (h ▸ mf_28_q_17))).trans hf_30_q_17
  have mf_31_q_20 : q_20 ∈ (((((((((((L ++ [q_2]) ++ [q_5]) ++ [q_8]) ++ [q_11]) ++ [q_14]) ++ [q_17]) ++ [q_20]) ++ [q_23]) ++ [q_26]) ++ [q_29]) ++ [q_32]) := List.mem_append_left _ mf_28_q_20
  have hf_31_q_20 := (show f_31 q_20 = f_30 q_20 by rw [ef_31]; exact va_up_ne _ _ (fun h => hq_32 (h ▸ mf_28_q_20))).trans hf_30_q_20
  have mf_31_q_23 : q_23 ∈ (((((((((((L ++ [q_2]) ++ [q_5]) ++ [q_8]) ++ [q_11]) ++ [q_14]) ++ [q_17]) ++ [q_20]) ++ [q_23]) ++ [q_26]) ++ [q_29]) ++ [q_32]) := List.mem_append_left _ mf_28_q_23
  have hf_31_q_23 := (show f_31 q_23 = f_30 q_23 by rw [ef_31]; exact va_up_ne _ _ (fun h => hq_32 (h ▸ mf_28_q_23))).trans hf_30_q_23
  have mf_31_q_26 : q_26 ∈ (((((((((((L ++ [q_2]) ++ [q_5]) ++ [q_8]) ++ [q_11]) ++ [q_14]) ++ [q_17]) ++ [q_20]) ++ [q_23]) ++ [q_26]) ++ [q_29]) ++ [q_32]) := List.mem_append_left _ mf_28_q_26
  have hf_31_q_26 := (show f_31 q_26 = f_30 q_26 by rw [ef_31]; exact va_up_ne _ _ (fun h => hq_32 (h ▸ mf_28_q_26))).trans hf_30_q_26
  have mf_31_q_29 : q_29 ∈ (((((((((((L ++ [q_2]) ++ [q_5]) ++ [q_8]) ++ [q_11]) ++ [q_14]) ++ [q_17]) ++ [q_20]) ++ [q_23]) ++ [q_26]) ++ [q_29]) ++ [q_32]) := List.mem_append_left _ mf_28_q_29
  have hf_31_q_29 := (show f_31 q_29 = f_30 q_29 by rw [ef_31]; exact va_up_ne _ _ (fun h => hq_32 (h ▸ mf_28_q_29))).trans hf_30_q_29
  have mf_31_q_32 : q_32 ∈ (((((((((((L ++ [q_2]) ++ [q_5]) ++ [q_8]) ++ [q_11]) ++ [q_14]) ++ [q_17]) ++ [q_20]) ++ [q_23]) ++ [q_26]) ++ [q_29]) ++ [q_32]) := List.mem_append_right _ (List.mem_singleton.mpr rfl)
  have hf_31_q_32 : f_31 q_32 = .inl (cs 0, 12, .inl (fun _ => 0)) := by rw [ef_31]; exact va_up_self _ _ _
  have n_q_32 : q_32 ∉ L := fun z => hq_32 (List.mem_append_left _ (List.mem_append_left _ (List.mem_append_left _ (List.mem_append_left _ (List.mem_append_left _ (List.mem_append_left _ (List.mem_append_left _ (List.mem_append_left _ (List.mem_append_left _ (List.mem_append_left _ (z)))))))))))
  have nd_11 : ((((((((((([q] ++ [q_2]) ++ [q_5]) ++ [q_8]) ++ [q_11]) ++ [q_14]) ++ [q_17]) ++ [q_20]) ++ [q_23]) ++ [q_26]) ++ [q_29]) ++ [q_32]).Nodup := nd_push nd_10 (fun z => hq_32 (sb_10 _ z))
  have sb_11 : ∀ a ∈ ((((((((((([q] ++ [q_2]) ++ [q_5]) ++ [q_8]) ++ [q_11]) ++ [q_14]) ++ [q_17]) ++ [q_20]) ++ [q_23]) ++ [q_26]) ++ [q_29]) ++ [q_32]), a ∈ (((((((((((L ++ [q_2]) ++ [q_5]) ++ [q_8]) ++ [q_11]) ++ [q_14]) ++ [q_17]) ++ [q_20]) ++ [q_23]) ++ [q_26]) ++ [q_29]) ++ [q_32]) := nd_sub sb_10
  refine pw_putF (ty := .array .int) (ci := 4) (v := .ref q_32) (C := RX4) (T := TX4) (N := 23) hx hb hts inX4 tyX4 tyX4_ok nmX4 hown hK hP hD hS mf_31_q hf_31_q rfl 13 (by decide) (hts _ mw_340) (fun _ h9 => h9) rfl hin rfl (by decide +kernel) rfl rfl (Nat.le_of_ble_eq_true rfl) dX4_init_89 (fun H locs hP hD hS => ?_)
  obtain ⟨f_33, ef_33⟩ : ∃ zz : Nat → va_E, zz = va_up f_31 q (.inr (4, [.int 0, .int 0, .ref q_2, .ref q_5, .ref q_8, .ref q_11, .ref q_14, .ref q_17, .ref q_20, .ref q_23, .int 0, .ref q_26, .ref q_29, .ref q_32, .null, .null, .null, .null, .null, .null, .int 0, .int 0, .int 0])) := ⟨_, rfl⟩
  have hP : va_P G vwCl (va_pl (((((((((((L ++ [q_2]) ++ [q_5]) ++ [q_8]) ++ [q_11]) ++ [q_14]) ++ [q_17]) ++ [q_20]) ++ [q_23]) ++ [q_26]) ++ [q_29]) ++ [q_32]) f_33) H := by rw [ef_33]; exact hP
  have hD : va_D (pw_A L s.heap.size) (va_pl (((((((((((L ++ [q_2]) ++ [q_5]) ++ [q_8]) ++ [q_11]) ++ [q_14]) ++ [q_17]) ++ [q_20]) ++ [q_23]) ++ [q_26]) ++ [q_29]) ++ [q_32]) f_33) := by rw [ef_33]; exact hD
  have hf_33_q : f_33 q = .inr (4, [.int 0, .int 0, .ref q_2, .ref q_5, .ref q_8, .ref q_11, .ref q_14, .ref q_17, .ref q_20, .ref q_23, .int 0, .ref q_26, .ref q_29, .ref q_32, .null, .null, .null, .null, .null, .null, .int 0, .int 0, .int 0]) := by rw [ef_33]; exact va_up_self _ _ _
  have hf_33_q_2 := (show f_33 q_2 = f_31 q_2 by rw [ef_33]; exact va_up_ne _ _ (fun z => n_q_2 (z ▸ hq0))).trans hf_31_q_2
  have hf_33_q_5 := (show f_33 q_5 = f_31 q_5 by rw [ef_33]; exact va_up_ne _ _ (fun z => n_q_5 (z ▸ hq0))).trans hf_31_q_5
  have hf_33_q_8 := (show f_33 q_8 = f_31 q_8 by rw [ef_33]; exact va_up_ne _ _ (fun z => n_q_8 (z ▸ hq0))).trans hf_31_q_8
  have hf_33_q_11 := (show f_33 q_11 = f_31 q_11 by rw [ef_33]; exact va_up_ne _ _ (fun z => n_q_11 (z ▸ hq0))).trans hf_31_q_11
  have hf_33_q_14 := (show f_33 q_14 = f_31 q_14 by rw [ef_33]; exact va_up_ne _ _ (fun z => n_q_14 (z ▸ hq0))).trans hf_31_q_14
  have hf_33_q_17 := (show f_33 q_17 = f_31 q_17 by rw [ef_33]; exact va_up_ne _ _ (fun z => n_q_17 (z ▸ hq0))).trans hf_31_q_17
  have hf_33_q_20 := (show f_33 q_20 = f_31 q_20 by rw [ef_33]; exact va_up_ne _ _ (fun z => n_q_20 (z ▸ hq0))).trans hf_31_q_20
  have hf_33_q_23 := (show f_33 q_23 = f_31 q_23 by rw [ef_33]; exact va_up_ne _ _ (fun z => n_q_23 (z ▸ hq0))).trans hf_31_q_23
  have hf_33_q_26 := (show f_33 q_26 = f_31 q_26 by rw [ef_33]; exact va_up_ne _ _ (fun z => n_q_26 (z ▸ hq0))).trans hf_31_q_26
  have hf_33_q_29 := (show f_33 q_29 = f_31 q_29 by rw [ef_33]; exact va_up_ne _ _ (fun z => n_q_29 (z ▸ hq0))).trans hf_31_q_29
  have hf_33_q_32 := (show f_33 q_32 = f_31 q_32 by rw [ef_33]; exact va_up_ne _ _ (fun z => n_q_32 (z ▸ hq0))).trans hf_31_q_32
  refine lv_aload_n hx hb dX4_init_92 rfl (lv_at hl 0 rfl) ?_
  refine lv_bipush (v := 12) hx hb dX4_init_93 (by decide) ?_
  refine pw_newa (atype := .int) (ty := .int) (a0 := (12, .inl (fun _ => 0))) hx hb (hts _ mw_106) rfl hK hP hD hS hA 0 rfl (fun _ h => h) (fun _ => rfl) (by decide) (by decide) (by decide) (Nat.le_of_ble_eq_true rfl) (Nat.le_of_ble_eq_true rfl) dX4_init_95 (fun q_35 H hq_35 hP hD hS => ?_)
  refine W.widen (k := 12) (n := 216) (Nat.le_refl _) (Nat.le_of_ble_eq_true rfl) ?_
  obtain ⟨f_34, ef_34⟩ : ∃ zz : Nat → va_E, zz = va_up f_33 q_35 (.inl (cs 0, 12, .inl (fun _ => 0))) := ⟨_, rfl⟩
  have hP : va_P G vwCl (va_pl ((((((((((((L ++ [q_2]) ++ [q_5]) ++ [q_8]) ++ [q_11]) ++ [q_14]) ++ [q_17]) ++ [q_20]) ++ [q_23]) ++ [q_26]) ++ [q_29]) ++ [q_32]) ++ [q_35]) f_34) H := by rw [ef_34]; exact hP
  have hD : va_D (pw_A L s.heap.size) (va_pl ((((((((((((L ++ [q_2]) ++ [q_5]) ++ [q_8]) ++ [q_11]) ++ [q_14]) ++ [q_17]) ++ [q_20]) ++ [q_23]) ++ [q_26]) ++ [q_29]) ++ [q_32]) ++ [q_35]) f_34) := by rw [ef_34]; exact hD
  have mf_34_q : q ∈ ((((((((((((L ++ [q_2]) ++ [q_5]) ++ [q_8]) ++ [q_11]) ++ [q_14]) ++ [q_17]) ++ [q_20]) ++ [q_23]) ++ [q_26]) ++ [q_29]) ++ [q_32]) ++ [q_35]) := List.mem_append_left _ mf_31_q
  have hf_34_q := (show f_34 q = f_33 q by rw [ef_34]; exact va_up_ne _ _ (fun h => hq_35 (h ▸ mf_31_q))).trans hf_33_q
  have mf_34_q_2 : q_2 ∈ ((((((((((((L ++ [q_2]) ++ [q_5]) ++ [q_8]) ++ [q_11]) ++ [q_14]) ++ [q_17]) ++ [q_20]) ++ [q_23]) ++ [q_26]) ++ [q_29]) ++ [q_32]) ++ [q_35]) := List.mem_append_left _ mf_31_q_2
  have hf_34_q_2 := (show f_34 q_2 = f_33 q_2 by rw [ef_34]; exact va_up_ne _ _ (fun h => hq_35 (h ▸ mf_31_q_2))).trans hf_33_q_2
  have mf_34_q_5 : q_5 ∈ ((((((((((((L ++ [q_2]) ++ [q_5]) ++ [q_8]) ++ [q_11]) ++ [q_14]) ++ [q_17]) ++ [q_20]) ++ [q_23]) ++ [q_26]) ++ [q_29]) ++ [q_32]) ++ [q_35]) := List.mem_append_left _ mf_31_q_5
  have hf_34_q_5 := (show f_34 q_5 = f_33 q_5 by rw [ef_34]; exact va_up_ne _ _ (fun h => hq_35 (h ▸ mf_31_q_5))).trans hf_33_q_5
  have mf_34_q_8 : q_8 ∈ ((((((((((((L ++ [q_2]) ++ [q_5]) ++ [q_8]) ++ [q_11]) ++ [q_14]) ++ [q_17]) ++ [q_20]) ++ [q_23]) ++ [q_26]) ++ [q_29]) ++ [q_32]) ++ [q_35]) := List.mem_append_left _ mf_31_q_8
  have hf_34_q_8 := (show f_34 q_8 = f_33 q_8 by rw [ef_34]; exact va_up_ne _ _ (fun h => hq_35 (h ▸ mf_31_q_8))).trans hf_33_q_8
  have mf_34_q_11 : q_11 ∈ ((((((((((((L ++ [q_2]) ++ [q_5]) ++ [q_8]) ++ [q_11]) ++ [q_14]) ++ [q_17]) ++ [q_20]) ++ [q_23]) ++ [q_26]) ++ [q_29]) ++ [q_32]) ++ [q_35]) := List.mem_append_left _ mf_31_q_11
  have hf_34_q_11 := (show f_34 q_11 = f_33 q_11 by rw [ef_34]; exact va_up_ne _ _ (fun h => hq_35 (h ▸ mf_31_q_11))).trans hf_33_q_11
  have mf_34_q_14 : q_14 ∈ ((((((((((((L ++ [q_2]) ++ [q_5]) ++ [q_8]) ++ [q_11]) ++ [q_14]) ++ [q_17]) ++ [q_20]) ++ [q_23]) ++ [q_26]) ++ [q_29]) ++ [q_32]) ++ [q_35]) := List.mem_append_left _ mf_31_q_14
  have hf_34_q_14 := (show f_34 q_14 = f_33 q_14 by rw [ef_34]; exact va_up_ne _ _ (fun h => hq_35 (h ▸ mf_31_q_14))).trans hf_33_q_14
  have mf_34_q_17 : q_17 ∈ ((((((((((((L ++ [q_2]) ++ [q_5]) ++ [q_8]) ++ [q_11]) ++ [q_14]) ++ [q_17]) ++ [q_20]) ++ [q_23]) ++ [q_26]) ++ [q_29]) ++ [q_32]) ++ [q_35]) := List.mem_append_left _ mf_31_q_17
  have hf_34_q_17 := (show f_34 q_17 = f_33 q_17 by rw [ef_34]; exact va_up_ne _ _ (fun h => hq_35 (h ▸ mf_31_q_17))).trans hf_33_q_17
  have mf_34_q_20 : q_20 ∈ ((((((((((((L ++ [q_2]) ++ [q_5]) ++ [q_8]) ++ [q_11]) ++ [q_14]) ++ [q_17]) ++ [q_20]) ++ [q_23]) ++ [q_26]) ++ [q_29]) ++ [q_32]) ++ [q_35]) := List.mem_append_left _ mf_31_q_20
  have hf_34_q_20 := (show f_34 q_20 = f_33 q_20 by rw [ef_34]; exact va_up_ne _ _ (fun h => hq_35 (h ▸ mf_31_q_20))).trans hf_33_q_20
  have mf_34_q_23 : q_23 ∈ ((((((((((((L ++ [q_2]) ++ [q_5]) ++ [q_8]) ++ [q_11]) ++ [q_14]) ++ [q_17]) ++ [q_20]) ++ [q_23]) ++ [q_26]) ++ [q_29]) ++ [q_32]) ++ [q_35]) := List.mem_append_left _ mf_31_q_23
  have hf_34_q_23 := (show f_34 q_23 = f_33 q_23 by rw [ef_34]; exact va_up_ne _ _ (fun h => hq_35 (h ▸ mf_31_q_23))).trans hf_33_q_23
  have mf_34_q_26 : q_26 ∈ ((((((((((((L ++ [q_2]) ++ [q_5]) ++ [q_8]) ++ [q_11]) ++ [q_14]) ++ [q_17]) ++ [q_20]) ++ [q_23]) ++ [q_26]) ++ [q_29]) ++ [q_32]) ++ [q_35]) := List.mem_append_left _ mf_31_q_26
  have hf_34_q_26 := (show f_34 q_26 = f_33 q_26 by rw [ef_34]; exact va_up_ne _ _ (fun h => hq_35 (h ▸ mf_31_q_26))).trans hf_33_q_26
  have mf_34_q_29 : q_29 ∈ ((((((((((((L ++ [q_2]) ++ [q_5]) ++ [q_8]) ++ [q_11]) ++ [q_14]) ++ [q_17]) ++ [q_20]) ++ [q_23]) ++ [q_26]) ++ [q_29]) ++ [q_32]) ++ [q_35]) := List.mem_append_left _ mf_31_q_29
  have hf_34_q_29 := (show f_34 q_29 = f_33 q_29 by rw [ef_34]; exact va_up_ne _ _ (fun h => hq_35 (h ▸ mf_31_q_29))).trans hf_33_q_29
  have mf_34_q_32 : q_32 ∈ ((((((((((((L ++ [q_2]) ++ [q_5]) ++ [q_8]) ++ [q_11]) ++ [q_14]) ++ [q_17]) ++ [q_20]) ++ [q_23]) ++ [q_26]) ++ [q_29]) ++ [q_32]) ++ [q_35]) := List.mem_append_left _ mf_31_q_32
  have hf_34_q_32 := (show f_34 q_32 = f_33 q_32 by rw [ef_34]; exact va_up_ne _ _ (fun h => hq_35 (h ▸ mf_31_q_32))).trans hf_33_q_32
  have mf_34_q_35 : q_35 ∈ ((((((((((((L ++ [q_2]) ++ [q_5]) ++ [q_8]) ++ [q_11]) ++ [q_14]) ++ [q_17]) ++ [q_20]) ++ [q_23]) ++ [q_26]) ++ [q_29]) ++ [q_32]) ++ [q_35]) := List.mem_append_right _ (List.mem_singleton.mpr rfl)
  have hf_34_q_35 : f_34 q_35 = .inl (cs 0, 12, .inl (fun _ => 0)) := by rw [ef_34]; exact va_up_self _ _ _
  have n_q_35 : q_35 ∉ L := fun z => hq_35 (List.mem_append_left _ (List.mem_append_left _ (List.mem_append_left _ (List.mem_append_left _ (List.mem_append_left _ (List.mem_append_left _ (List.mem_append_left _ (List.mem_append_left _ (List.mem_append_left _ (List.mem_append_left _ (List.mem_append_left _ (z))))))))))))
  have nd_12 : (((((((((((([q] ++ [q_2]) ++ [q_5]) ++ [q_8]) ++ [q_11]) ++ [q_14]) ++ [q_17]) ++ [q_20]) ++ [q_23]) ++ [q_26]) ++ [q_29]) ++ [q_32]) ++ [q_35]).Nodup := nd_push nd_11 (fun z => hq_35 (sb_11 _ z))
  have sb_12 : ∀ a ∈ (((((((((((([q] ++ [q_2]) ++ [q_5]) ++ [q_8]) ++ [q_11]) ++ [q_14]) ++ [q_17]) ++ [q_20]) ++ [q_23]) ++ [q_26]) ++ [q_29]) ++ [q_32]) ++ [q_35]), a ∈ ((((((((((((L ++ [q_2]) ++ [q_5]) ++ [q_8]) ++ [q_11]) ++ [q_14]) ++ [q_17]) ++ [q_20]) ++ [q_23]) ++ [q_26]) ++ [q_29]) ++ [q_32]) ++ [q_35]) := nd_sub sb_11
  refine pw_putF (ty := .array .int) (ci := 4) (v := .ref q_35) (C := RX4) (T := TX4) (N := 23) hx hb hts inX4 tyX4 tyX4_ok nmX4 hown hK hP hD hS mf_34_q hf_34_q rfl 14 (by decide) (hts _ mw_341) (fun _ h9 => h9) rfl hin rfl (by decide +kernel) rfl rfl (Nat.le_of_ble_eq_true rfl) dX4_init_97 (fun H locs hP hD hS => ?_)
  obtain ⟨f_36, ef_36⟩ : ∃ zz : Nat → va_E, zz = va_up f_34 q (.inr (4, [.int 0, .int 0, .ref q_2, .ref q_5, .ref q_8, .ref q_11, .ref q_14, .ref q_17, .ref q_20, .ref q_23, .int 0, .ref q_26, .ref q_29, .ref q_32, .ref q_35, .null, .null, .null, .null, .null, .int 0, .int 0, .int 0])) := ⟨_, rfl⟩
  have hP : va_P G vwCl (va_pl ((((((((((((L ++ [q_2]) ++ [q_5]) ++ [q_8]) ++ [q_11]) ++ [q_14]) ++ [q_17]) ++ [q_20]) ++ [q_23]) ++ [q_26]) ++ [q_29]) ++ [q_32]) ++ [q_35]) f_36) H := by rw [ef_36]; exact hP
  have hD : va_D (pw_A L s.heap.size) (va_pl ((((((((((((L ++ [q_2]) ++ [q_5]) ++ [q_8]) ++ [q_11]) ++ [q_14]) ++ [q_17]) ++ [q_20]) ++ [q_23]) ++ [q_26]) ++ [q_29]) ++ [q_32]) ++ [q_35]) f_36) := by rw [ef_36]; exact hD
  have hf_36_q : f_36 q = .inr (4, [.int 0, .int 0, .ref q_2, .ref q_5, .ref q_8, .ref q_11, .ref q_14, .ref q_17, .ref q_20, .ref q_23, .int 0, .ref q_26, .ref q_29, .ref q_32, .ref q_35, .null, .null, .null, .null, .null, .int 0, .int 0, .int 0]) := by rw [ef_36]; exact va_up_self _ _ _
  have hf_36_q_2 := (show f_36 q_2 = f_34 q_2 by rw [ef_36]; exact va_up_ne _ _ (fun z => n_q_2 (z ▸ hq0))).trans hf_34_q_2
  have hf_36_q_5 := (show f_36 q_5 = f_34 q_5 by rw [ef_36]; exact va_up_ne _ _ (fun z => n_q_5 (z ▸ hq0))).trans hf_34_q_5
  have hf_36_q_8 := (show f_36 q_8 = f_34 q_8 by rw [ef_36]; exact va_up_ne _ _ (fun z => n_q_8 (z ▸ hq0))).trans hf_34_q_8
  have hf_36_q_11 := (show f_36 q_11 = f_34 q_11 by rw [ef_36]; exact va_up_ne _ _ (fun z => n_q_11 (z ▸ hq0))).trans hf_34_q_11
  have hf_36_q_14 := (show f_36 q_14 = f_34 q_14 by rw [ef_36]; exact va_up_ne _ _ (fun z => n_q_14 (z ▸ hq0))).trans hf_34_q_14
  have hf_36_q_17 := (show f_36 q_17 = f_34 q_17 by rw [ef_36]; exact va_up_ne _ _ (fun z => n_q_17 (z ▸ hq0))).trans hf_34_q_17
  have hf_36_q_20 := (show f_36 q_20 = f_34 q_20 by rw [ef_36]; exact va_up_ne _ _ (fun z => n_q_20 (z ▸ hq0))).trans hf_34_q_20
  have hf_36_q_23 := (show f_36 q_23 = f_34 q_23 by rw [ef_36]; exact va_up_ne _ _ (fun z => n_q_23 (z ▸ hq0))).trans hf_34_q_23
  have hf_36_q_26 := (show f_36 q_26 = f_34 q_26 by rw [ef_36]; exact va_up_ne _ _ (fun z => n_q_26 (z ▸ hq0))).trans hf_34_q_26
  have hf_36_q_29 := (show f_36 q_29 = f_34 q_29 by rw [ef_36]; exact va_up_ne _ _ (fun z => n_q_29 (z ▸ hq0))).trans hf_34_q_29
  have hf_36_q_32 := (show f_36 q_32 = f_34 q_32 by rw [ef_36]; exact va_up_ne _ _ (fun z => n_q_32 (z ▸ hq0))).trans hf_34_q_32
  have hf_36_q_35 := (show f_36 q_35 = f_34 q_35 by rw [ef_36]; exact va_up_ne _ _ (fun z => n_q_35 (z ▸ hq0))).trans hf_34_q_35
  refine lv_aload_n hx hb dX4_init_100 rfl (lv_at hl 0 rfl) ?_
  refine lv_bipush (v := 12) hx hb dX4_init_101 (by decide) ?_
  refine pw_newa (atype := .int) (ty := .int) (a0 := (12, .inl (fun _ => 0))) hx hb (hts _ mw_106) rfl hK hP hD hS hA 0 rfl (fun _ h => h) (fun _ => rfl) (by decide) (by decide) (by decide) (Nat.le_of_ble_eq_true rfl) (Nat.le_of_ble_eq_true rfl) dX4_init_103 (fun q_38 H hq_38 hP hD hS => ?_)
  refine W.widen (k := 13) (n := 228) (Nat.le_refl _) (Nat.le_of_ble_eq_true rfl) ?_
  obtain ⟨f_37, ef_37⟩ : ∃ zz : Nat → va_E, zz = va_up f_36 q_38 (.inl (cs 0, 12, .inl (fun _ => 0))) := ⟨_, rfl⟩
  have hP : va_P G vwCl (va_pl (((((((((((((L ++ [q_2]) ++ [q_5]) ++ [q_8]) ++ [q_11]) ++ [q_14]) ++ [q_17]) ++ [q_20]) ++ [q_23]) ++ [q_26]) ++ [q_29]) ++ [q_32]) ++ [q_35]) ++ [q_38]) f_37) H := by rw [ef_37]; exact hP
  have hD : va_D (pw_A L s.heap.size) (va_pl (((((((((((((L ++ [q_2]) ++ [q_5]) ++ [q_8]) ++ [q_11]) ++ [q_14]) ++ [q_17]) ++ [q_20]) ++ [q_23]) ++ [q_26]) ++ [q_29]) ++ [q_32]) ++ [q_35]) ++ [q_38]) f_37) := by rw [ef_37]; exact hD
  have mf_37_q : q ∈ (((((((((((((L ++ [q_2]) ++ [q_5]) ++ [q_8]) ++ [q_11]) ++ [q_14]) ++ [q_17]) ++ [q_20]) ++ [q_23]) ++ [q_26]) ++ [q_29]) ++ [q_32]) ++ [q_35]) ++ [q_38]) := List.mem_append_left _ mf_34_q
  have hf_37_q := (show f_37 q = f_36 q by rw [ef_37]; exact va_up_ne _ _ (fun h => hq_38 (h ▸ mf_34_q))).trans hf_36_q
  have mf_37_q_2 : q_2 ∈ (((((((((((((L ++ [q_2]) ++ [q_5]) ++ [q_8]) ++ [q_11]) ++ [q_14]) ++ [q_17]) ++ [q_20]) ++ [q_23]) ++ [q_26]) ++ [q_29]) ++ [q_32]) ++ [q_35]) ++ [q_38]) := List.mem_append_left _ mf_34_q_2
  have hf_37_q_2 := (show f_37 q_2 = f_36 q_2 by rw [ef_37]; exact va_up_ne _ _ (fun h => hq_38 (h ▸ mf_34_q_2))).trans hf_36_q_2
  have mf_37_q_5 : q_5 ∈ (((((((((((((L ++ [q_2]) ++ [q_5]) ++ [q_8]) ++ [q_11]) ++ [q_14]) ++ [q_17]) ++ [q_20]) ++ [q_23]) ++ [q_26]) ++ [q_29]) ++ [q_32]) ++ [q_35]) ++ [q_38]) := List.mem_append_left _ mf_34_q_5
  have hf_37_q_5 := (show f_37 q_5 = f_36 q_5 by rw [ef_37]; exact va_up_ne _ _ (fun h => hq_38 (h ▸ mf_34_q_5))).trans hf_36_q_5
  have mf_37_q_8 : q_8 ∈ (((((((((((((L ++ [q_2]) ++ [q_5]) ++ [q_8]) ++ [q_11]) ++ [q_14]) ++ [q_17]) ++ [q_20]) ++ [q_23]) ++ [q_26]) ++ [q_29]) ++ [q_32]) ++ [q_35]) ++ [q_38]) := List.mem_append_left _ mf_34_q_8
  have hf_37_q_8 := (show f_37 q_8 = f_36 q_8 by rw [ef_37]; exact va_up_ne _ _ (fun h => hq_38 (h ▸ mf_34_q_8))).trans hf_36_q_8
  have mf_37_q_11 : q_11 ∈ (((((((((((((L ++ [q_2]) ++ [q_5]) ++ [q_8]) ++ [q_11]) ++ [q_14]) ++ [q_17]) ++ [q_20]) ++ [q_23]) ++ [q_26]) ++ [q_29]) ++ [q_32]) ++ [q_35]) ++ [q_38]) := List.mem_append_left _ mf_34_q_11
  have hf_37_q_11 := (show f_37 q_11 = f_36 q_11 by rw [ef_37]; exact va_up_ne _ _ (fun h => hq_38 (h ▸ mf_34_q_11))).trans hf_36_q_11
  have mf_37_q_14 : q_14 ∈ (((((((((((((L ++ [q_2]) ++ [q_5]) ++ [q_8]) ++ [q_11]) ++ [q_14]) ++ [q_17]) ++ [q_20]) ++ [q_23]) ++ [q_26]) ++ [q_29]) ++ [q_32]) ++ [q_35]) ++ [q_38]) := List.mem_append_left _ mf_34_q_14
  have hf_37_q_14 := (show f_37 q_14 = f_36 q_14 by rw [ef_37]; exact va_up_ne _ _ (fun h => hq_38 (h ▸ mf_34_q_14))).trans hf_36_q_14
  have mf_37_q_17 : q_17 ∈ (((((((((((((L ++ [q_2]) ++ [q_5]) ++ [q_8]) ++ [q_11]) ++ [q_14]) ++ [q_17]) ++ [q_20]) ++ [q_23]) ++ [q_26]) ++ [q_29]) ++ [q_32]) ++ [q_35]) ++ [q_38]) := List.mem_append_left _ mf_34_q_17
  have hf_37_q_17 := (show f_37 q_17 = f_36 q_17 by rw [ef_37]; exact va_up_ne _ _ (fun h => hq_38 (h ▸ mf_34_q_17))).trans hf_36_q_17
  have mf_37_q_20 : q_20 ∈ (((((((((((((L ++ [q_2]) ++ [q_5]) ++ [q_8]) ++ [q_11]) ++ [q_14]) ++ [q_17]) ++ [q_20]) ++ [q_23]) ++ [q_26]) ++ [q_29]) ++ [q_32]) ++ [q_35]) ++ [q_38]) := List.mem_append_left _ mf_34_q_20
  have hf_37_q_20 := (show f_37 q_20 = f_36 q_20 by rw [ef_37]; exact va_up_ne _ _ (fun h => hq_38 (h ▸ mf_34_q_20))).trans hf_36_q_20
  have mf_37_q_23 : q_23 ∈ (((((((((((((L ++ [q_2]) ++ [q_5]) ++ [q_8]) ++ [q_11]) ++ [q_14]) ++ [q_17]) ++ [q_20]) ++ [q_23]) ++ [q_26]) ++ [q_29]) ++ [q_32]) ++ [q_35]) ++ [q_38]) := List.mem_append_left _ mf_34_q_23
  have hf_37_q_23 := (show f_37 q_23 = f_36 q_23 by rw [ef_37]; exact va_up_ne _ _ (fun h => hq_38 (h ▸ mf_34_q_23))).trans hf_36_q_23
  have mf_37_q_26 : q_26 ∈ (((((((((((((L ++ [q_2]) ++ [q_5]) ++ [q_8]) ++ [q_11]) ++ [q_14]) ++ [q_17]) ++ [q_20]) ++ [q_23]) ++ [q_26]) ++ [q_29]) ++ [q_32]) ++ [q_35]) ++ [q_38]) := List.mem_append_left _ mf_34_q_26
  have hf_37_q_26 := (show f_37 q_26 = f_36 q_26 by rw [ef_37]; exact va_up_ne _ _ (fun h => hq_38 (h ▸ mf_34_q_26))).trans hf_36_q_26
  have mf_37_q_29 : q_29 ∈ (((((((((((((L ++ [q_2]) ++ [q_5]) ++ [q_8]) ++ [q_11]) ++ [q_14]) ++ [q_17]) ++ [q_20]) ++ [q_23]) ++ [q_26]) ++ [q_29]) ++ [q_32]) ++ [q_35]) ++ [q_38]) := List.mem_append_left _ mf_34_q_29
  have hf_37_q_29 := (show f_37 q_29 = f_36 q_29 by rw [ef_37]; exact va_up_ne _ _ (fun h => hq_38 (h ▸ mf_34_q_29))).trans hf_36_q_29
  have mf_37_q_32 : q_32 ∈ (((((((((((((L ++ [q_2]) ++ [q_5]) ++ [q_8]) ++ [q_11]) ++ [q_14]) ++ [q_17]) ++ [q_20]) ++ [q_23]) ++ [q_26]) ++ [q_29]) ++ [q_32]) ++ [q_35]) ++ [q_38]) := List.mem_append_left _ mf_34_q_32
  have hf_37_q_32 := (show f_37 q_32 = f_36 q_32 by rw [ef_37]; exact va_up_ne _ _ (fun h => hq_38 (h ▸ mf_34_q_32))).trans hf_36_q_32
  have mf_37_q_35 : q_35 ∈ (((((((((((((L ++ [q_2]) ++ [q_5]) ++ [q_8]) ++ [q_11]) ++ [q_14]) ++ [q_17]) ++ [q_20]) ++ [q_23]) ++ [q_26]) ++ [q_29]) ++ [q_32]) ++ [q_35]) ++ [q_38]) := List.mem_append_left _ mf_34_q_35
  have hf_37_q_35 := (show f_37 q_35 = f_36 q_35 by rw [ef_37]; exact va_up_ne _ _ (fun h => hq_38 (h ▸ mf_34_q_35))).trans hf_36_q_35
  have mf_37_q_38 : q_38 ∈ (((((((((((((L ++ [q_2]) ++ [q_5]) ++ [q_8]) ++ [q_11]) ++ [q_14]) ++ [q_17]) ++ [q_20]) ++ [q_23]) ++ [q_26]) ++ [q_29]) ++ [q_32]) ++ [q_35]) ++ [q_38]) := List.mem_append_right _ (List.mem_singleton.mpr rfl)
  have hf_37_q_38 : f_37 q_38 = .inl (cs 0, 12, .inl (fun _ => 0)) := by rw [ef_37]; exact va_up_self _ _ _
  have n_q_38 : q_38 ∉ L := fun z => hq_38 (List.mem_append_left _ (List.mem_append_left _ (List.mem_append_left _ (List.mem_append_left _ (List.mem_append_left _ (List.mem_append_left _ (List.mem_append_left _ (List.mem_append_left _ (List.mem_append_left _ (List.mem_append_left _ (List.mem_append_left _ (List.mem_append_left _ (z)))))))))))))
  have nd_13 : ((((((((((((([q] ++ [q_2]) ++ [q_5]) ++ [q_8]) ++ [q_11]) ++ [q_14]) ++ [q_17]) ++ [q_20]) ++ [q_23]) ++ [q_26]) ++ [q_29]) ++ [q_32]) ++ [q_35]) ++ [q_38]).Nodup := nd_push nd_12 (fun z => hq_38 (sb_12 _ z))
  have sb_13 : ∀ a ∈ ((((((((((((([q] ++ [q_2]) ++ [q_5]) ++ [q_8]) ++ [q_11]) ++ [q_14]) ++ [q_17]) ++ [q_20]) ++ [q_23]) ++ [q_26]) ++ [q_29]) ++ [q_32]) ++ [q_35]) ++ [q_38]), a ∈ (((((((((((((L ++ [q_2]) ++ [q_5]) ++ [q_8]) ++ [q_11]) ++ [q_14]) ++ [q_17]) ++ [q_20]) ++ [q_23]) ++ [q_26]) ++ [q_29]) ++ [q_32]) ++ [q_35]) ++ [q_38]) := nd_sub sb_12
  refine pw_putF (ty := .array .int) (ci := 4) (v := .ref q_38) (C := RX4) (T := TX4) (N := 23) hx hb hts inX4 tyX4 tyX4_ok nmX4 hown hK hP hD hS mf_37_q hf_37_q rfl 15 (by decide) (hts _ mw_342) (fun _ h9 => h9) rfl hin rfl (by decide +kernel) rfl rfl (Nat.le_of_ble_eq_true rfl) dX4_init_105 (fun H locs hP hD hS => ?_)
  obtain ⟨f_39, ef_39⟩ : ∃ zz : Nat → va_E, zz = va_up f_37 q (.inr (4, [.int 0, .int 0, .ref q_2, .ref q_5, .ref q_8, .ref q_11, .ref q_14, .ref q_17, .ref q_20, .ref q_23, .int 0, .ref q_26, .ref q_29, .ref q_32, .ref q_35, .ref q_38, .null, .null, .null, .null, .int 0, .int 0, .int 0])) := ⟨_, rfl⟩
  have hP : va_P G vwCl (va_pl (((((((((((((L ++ [q_2]) ++ [q_5]) ++ [q_8]) ++ [q_11]) ++ [q_14]) ++ [q_17]) ++ [q_20]) ++ [q_23]) ++ [q_26]) ++ [q_29]) ++ [q_32]) ++ [q_35]) ++ [q_38]) f_39) H := by rw [ef_39]; exact hP
  have hD : va_D (pw_A L s.heap.size) (va_pl (((((((((((((L ++ [q_2]) ++ [q_5]) ++ [q_8]) ++ [q_11]) ++ [q_14]) ++ [q_17]) ++ [q_20]) ++ [q_23]) ++ [q_26]) ++ [q_29]) ++ [q_32]) ++ [q_35]) ++ [q_38]) f_39) := by rw [ef_39]; exact hD
  have hf_39_q : f_39 q = .inr (4, [.int 0, .int 0, .ref q_2, .ref q_5, .ref q_8, .ref q_11, .ref q_14, .ref q_17, .ref q_20, .ref q_23, .int 0, .ref q_26, .ref q_29, .ref q_32, .ref q_35, .ref q_38, .null, .null, .null, .null, .int 0, .int 0, .int 0]) := by rw [ef_39]; exact va_up_self _ _ _
  have hf_39_q_2 := (show f_39 q_2 = f_37 q_2 by rw [ef_39]; exact va_up_ne _ _ (fun z => n_q_2 (z ▸ hq0))).trans hf_37_q_2
  have hf_39_q_5 := (show f_39 q_5 = f_37 q_5 by rw [ef_39]; exact va_up_ne _ _ (fun z => n_q_5 (z ▸ hq0))).trans hf_37_q_5
  have hf_39_q_8 := (show f_39 q_8 = f_37 q_8 by rw [ef_39]; exact va_up_ne _ _ (fun z => n_q_8 (z ▸ hq0))).trans hf_37_q_8
  have hf_39_q_11 := (show f_39 q_11 = f_37 q_11 by rw [ef_39]; exact va_up_ne _ _ (fun z => n_q_11 (z ▸ hq0))).trans hf_37_q_11
  have hf_39_q_14 := (show f_39 q_14 = f_37 q_14 by rw [ef_39]; exact va_up_ne _ _ (fun z => n_q_14 (z ▸ hq0))).trans hf_37_q_14
  have hf_39_q_17 := (show f_39 q_17 = f_37 q_17 by rw [ef_39]; exact va_up_ne _ _ (fun z => n_q_17 (z ▸ hq0))).trans hf_37_q_17
  have hf_39_q_20 := (show f_39 q_20 = f_37 q_20 by rw [ef_39]; exact va_up_ne _ _ (fun z => n_q_20 (z ▸ hq0))).trans hf_37_q_20
  have hf_39_q_23 := (show f_39 q_23 = f_37 q_23 by rw [ef_39]; exact va_up_ne _ _ (fun z => n_q_23 (z ▸ hq0))).trans hf_37_q_23
  have hf_39_q_26 := (show f_39 q_26 = f_37 q_26 by rw [ef_39]; exact va_up_ne _ _ (fun z => n_q_26 (z ▸ hq0))).trans hf_37_q_26
  have hf_39_q_29 := (show f_39 q_29 = f_37 q_29 by rw [ef_39]; exact va_up_ne _ _ (fun z => n_q_29 (z ▸ hq0))).trans hf_37_q_29
  have hf_39_q_32 := (show f_39 q_32 = f_37 q_32 by rw [ef_39]; exact va_up_ne _ _ (fun z => n_q_32 (z ▸ hq0))).trans hf_37_q_32
  have hf_39_q_35 := (show f_39 q_35 = f_37 q_35 by rw [ef_39]; exact va_up_ne _ _ (fun z => n_q_35 (z ▸ hq0))).trans hf_37_q_35
  have hf_39_q_38 := (show f_39 q_38 = f_37 q_38 by rw [ef_39]; exact va_up_ne _ _ (fun z => n_q_38 (z ▸ hq0))).trans hf_37_q_38
  refine lv_aload_n hx hb dX4_init_108 rfl (lv_at hl 0 rfl) ?_
  refine lv_bipush (v := 12) hx hb dX4_init_109 (by decide) ?_
  refine pw_newa (atype := .boolean) (ty := .boolean) (a0 := (12, .inl (fun _ => 0))) hx hb (hts _ mw_31) rfl hK hP hD hS hA 2 rfl (fun _ h => h) (fun _ => rfl) (by decide) (by decide) (by decide) (Nat.le_of_ble_eq_true rfl) (Nat.le_of_ble_eq_true rfl) dX4_init_111 (fun q_41 H hq_41 hP hD hS => ?_)
  refine W.widen (k := 14) (n := 240) (Nat.le_refl _) (Nat.le_of_ble_eq_true rfl) ?_
  obtain ⟨f_40, ef_40⟩ : ∃ zz : Nat → va_E, zz = va_up f_39 q_41 (.inl (cs 2, 12, .inl (fun _ => 0))) := ⟨_, rfl⟩
  have hP : va_P G vwCl (va_pl ((((((((((((((L ++ [q_2]) ++ [q_5]) ++ [q_8]) ++ [q_11]) ++ [q_14]) ++ [q_17]) ++ [q_20]) ++ [q_23]) ++ [q_26]) ++ [q_29]) ++ [q_32]) ++ [q_35]) ++ [q_38]) ++ [q_41]) f_40) H := by rw [ef_40]; exact hP
  have hD : va_D (pw_A L s.heap.size) (va_pl ((((((((((((((L ++ [q_2]) ++ [q_5]) ++ [q_8]) ++ [q_11]) ++ [q_14]) ++ [q_17]) ++ [q_20]) ++ [q_23]) ++ [q_26]) ++ [q_29]) ++ [q_32]) ++ [q_35]) ++ [q_38]) ++ [q_41]) f_40) := by rw [ef_40]; exact hD
  have mf_40_q : q ∈ ((((((((((((((L ++ [q_2]) ++ [q_5]) ++ [q_8]) ++ [q_11]) ++ [q_14]) ++ [q_17]) ++ [q_20]) ++ [q_23]) ++ [q_26]) ++ [q_29]) ++ [q_32]) ++ [q_35]) ++ [q_38]) ++ [q_41]) := List.mem_append_left _ mf_37_q
  have hf_40_q := (show f_40 q = f_39 q by rw [ef_40]; exact va_up_ne _ _ (fun h => hq_41 (h ▸ mf_37_q))).trans hf_39_q
  have mf_40_q_2 : q_2 ∈ ((((((((((((((L ++ [q_2]) ++ [q_5]) ++ [q_8]) ++ [q_11]) ++ [q_14]) ++ [q_17]) ++ [q_20]) ++ [q_23]) ++ [q_26]) ++ [q_29]) ++ [q_32]) ++ [q_35]) ++ [q_38]) ++ [q_41]) := List.mem_append_left _ mf_37_q_2
  have hf_40_q_2 := (show f_40 q_2 = f_39 q_2 by rw [ef_40]; exact va_up_ne _ _ (fun h => hq_41 (h ▸ mf_37_q_2))).trans hf_39_q_2
  have mf_40_q_5 : q_5 ∈ ((((((((((((((L ++ [q_2]) ++ [q_5]) ++ [q_8]) ++ [q_11]) ++ [q_14]) ++ [q_17]) ++ [q_20]) ++ [q_23]) ++ [q_26]) ++ [q_29]) ++ [q_32]) ++ [q_35]) ++ [q_38]) ++ [q_41]) := List.mem_append_left _ mf_37_q_5
  have hf_40_q_5 := (show f_40 q_5 = f_39 q_5 by rw [ef_40]; exact va_up_ne _ _ (fun h => hq_41 (h ▸ mf_37_q_5))).trans hf_39_q_5
  have mf_40_q_8 : q_8 ∈ ((((((((((((((L ++ [q_2]) ++ [q_5]) ++ [q_8]) ++ [q_11]) ++ [q_14]) ++ [q_17]) ++ [q_20]) ++ [q_23]) ++ [q_26]) ++ [q_29]) ++ [q_32]) ++ [q_35]) ++ [q_38]) ++ [q_41]) := List.mem_append_left _ mf_37_q_8
  have hf_40_q_8 := (show f_40 q_8 = f_39 q_8 by rw [ef_40]; exact va_up_ne _ _ (fun h => hq_41 (h ▸ mf_37_q_8))).trans hf_39_q_8
  have mf_40_q_11 : q_11 ∈ ((((((((((((((L ++ [q_2]) ++ [q_5]) ++ [q_8]) ++ [q_11]) ++ [q_14]) ++ [q_17]) ++ [q_20]) ++ [q_23]) ++ [q_26]) ++ [q_29]) ++ [q_32]) ++ [q_35]) ++ [q_38]) ++ [q_41]) := List.mem_append_left _ mf_37_q_11
  have hf_40_q_11 := (show f_40 q_11 = f_39 q_11 by rw [ef_40]; exact va_up_ne _ _ (fun h => hq_41 (h ▸ mf_37_q_11))).trans hf_39_q_11
  have mf_40_q_14 : q_14 ∈ ((((((((((((((L ++ [q_2]) ++ [q_5]) ++ [q_8]) ++ [q_11]) ++ [q_14]) ++ [q_17]) ++ [q_20]) ++ [q_23]) ++ [q_26]) ++ [q_29]) ++ [q_32]) ++ [q_35]) ++ [q_38]) ++ [q_41]) := List.mem_append_left _ mf_37_q_14
  have hf_40_q_14 := (show f_40 q_14 = f_39 q_14 by rw [ef_40]; exact va_up_ne _ _ (fun h => hq_41 (h ▸ mf_37_q_14))).trans hf_39_q_14
  have mf_40_q_17 : q_17 ∈ ((((((((((((((L ++ [q_2]) ++ [q_5]) ++ [q_8]) ++ [q_11]) ++ [q_14]) ++ [q_17]) ++ [q_20]) ++ [q_23]) ++ [q_26]) ++ [q_29]) ++ [q_32]) ++ [q_35]) ++ [q_38]) ++ [q_41]) := List.mem_append_left _ mf_37_q_17
  have hf_40_q_17 := (show f_40 q_17 = f_39 q_17 by rw [ef_40]; exact va_up_ne _ _ (fun h => hq_41 (h ▸ mf_37_q_17))).trans hf_39_q_17
  have mf_40_q_20 : q_20 ∈ ((((((((((((((L ++ [q_2]) ++ [q_5]) ++ [q_8]) ++ [q_11]) ++ [q_14]) ++ [q_17]) ++ [q_20]) ++ [q_23]) ++ [q_26]) ++ [q_29]) ++ [q_32]) ++ [q_35]) ++ [q_38]) ++ [q_41]) := List.mem_append_left _ mf_37_q_20
  have hf_40_q_20 := (show f_40 q_20 = f_39 q_20 by rw [ef_40]; exact va_up_ne _ _ (fun h => hq_41 (h ▸ mf_37_q_20))).trans hf_39_q_20
  have mf_40_q_23 : q_23 ∈ ((((((((((((((L ++ [q_2]) ++ [q_5]) ++ [q_8]) ++ [q_11]) ++ [q_14]) ++ [q_17]) ++ [q_20]) ++ [q_23]) ++ [q_26]) ++ [q_29]) ++ [q_32]) ++ [q_35]) ++ [q_38]) ++ [q_41]) := List.mem_append_left _ mf_37_q_23
  have hf_40_q_23 := (show f_40 q_23 = f_39 q_23 by rw [ef_40]; exact va_up_ne _ _ (fun h => hq_41 (h ▸ mf_37_q_23))).trans hf_39_q_23
  have mf_40_q_26 : q_26 ∈ ((((((((((((((L ++ [q_2]) ++ [q_5]) ++ [q_8]) ++ [q_11]) ++ [q_14]) ++ [q_17]) ++ [q_20]) ++ [q_23]) ++ [q_26]) ++ [q_29]) ++ [q_32]) ++ [q_35]) ++ [q_38]) ++ [q_41]) := List.mem_append_left _ mf_37_q_26
  have hf_40_q_26 := (show f_40 q_26 = f_39 q_26 by rw [ef_40]; exact va_up_ne _ _ (fun h => hq_41 (h ▸ mf_37_q_26))).trans hf_39_q_26
  have mf_40_q_29 : q_29 ∈ ((((((((((((((L ++ [q_2]) ++ [q_5]) ++ [q_8]) ++ [q_11]) ++ [q_14]) ++ [q_17]) ++ [q_20]) ++ [q_23]) ++ [q_26]) ++ [q_29]) ++ [q_32]) ++ [q_35]) ++ [q_38]) ++ [q_41]) := List.mem_append_left _ mf_37_q_29
  have hf_40_q_29 := (show f_40 q_29 = f_39 q_29 by rw [ef_40]; exact va_up_ne _ _ (fun h => hq_41 (h ▸ mf_37_q_29))).trans hf_39_q_29
  have mf_40_q_32 : q_32 ∈ ((((((((((((((L ++ [q_2]) ++ [q_5]) ++ [q_8]) ++ [q_11]) ++ [q_14]) ++ [q_17]) ++ [q_20]) ++ [q_23]) ++ [q_26]) ++ [q_29]) ++ [q_32]) ++ [q_35]) ++ [q_38]) ++ [q_41]) := List.mem_append_left _ mf_37_q_32
  have hf_40_q_32 := (show f_40 q_32 = f_39 q_32 by rw [ef_40]; exact va_up_ne _ _ (fun h => hq_41 (h ▸ mf_37_q_32))).trans hf_39_q_32
  have mf_40_q_35 : q_35 ∈ ((((((((((((((L ++ [q_2]) ++ [q_5]) ++ [q_8]) ++ [q_11]) ++ [q_14]) ++ [q_17]) ++ [q_20]) ++ [q_23]) ++ [q_26]) ++ [q_29]) ++ [q_32]) ++ [q_35]) ++ [q_38]) ++ [q_41]) := List.mem_append_left _ mf_37_q_35
  have hf_40_q_35 := (show f_40 q_35 = f_39 q_35 by rw [ef_40]; exact va_up_ne _ _ (fun h => hq_41 (h ▸ mf_37_q_35))).trans hf_39_q_35
  have mf_40_q_38 : q_38 ∈ ((((((((((((((L ++ [q_2]) ++ [q_5]) ++ [q_8]) ++ [q_11]) ++ [q_14]) ++ [q_17]) ++ [q_20]) ++ [q_23]) ++ [q_26]) ++ [q_29]) ++ [q_32]) ++ [q_35]) ++ [q_38]) ++ [q_41]) := List.mem_append_left _ mf_37_q_38
  have hf_40_q_38 := (show f_40 q_38 = f_39 q_38 by rw [ef_40]; exact va_up_ne _ _ (fun h => hq_41 (h ▸ mf_37_q_38))).trans hf_39_q_38
  have mf_40_q_41 : q_41 ∈ ((((((((((((((L ++ [q_2]) ++ [q_5]) ++ [q_8]) ++ [q_11]) ++ [q_14]) ++ [q_17]) ++ [q_20]) ++ [q_23]) ++ [q_26]) ++ [q_29]) ++ [q_32]) ++ [q_35]) ++ [q_38]) ++ [q_41]) := List.mem_append_right _ (List.mem_singleton.mpr rfl)
  have hf_40_q_41 : f_40 q_41 = .inl (cs 2, 12, .inl (fun _ => 0)) := by rw [ef_40]; exact va_up_self _ _ _
  have n_q_41 : q_41 ∉ L := fun z => hq_41 (List.mem_append_left _ (List.mem_append_left _ (List.mem_append_left _ (List.mem_append_left _ (List.mem_append_left _ (List.mem_append_left _ (List.mem_append_left _ (List.mem_append_left _ (List.mem_append_left _ (List.mem_append_left _ (List.mem_append_left _ (List.mem_append_left _ (List.mem_append_left _ (z))))))))))))))
  have nd_14 : (((((((((((((([q] ++ [q_2]) ++ [q_5]) ++ [q_8]) ++ [q_11]) ++ [q_14]) ++ [q_17]) ++ [q_20]) ++ [q_23]) ++ [q_26]) ++ [q_29]) ++ [q_32]) ++ [q_35]) ++ [q_38]) ++ [q_41]).Nodup := nd_push nd_13 (fun z => hq_41 (sb_13 _ z))
  have sb_14 : ∀ a ∈ (((((((((((((([q] ++ [q_2]) ++ [q_5]) ++ [q_8]) ++ [q_11]) ++ [q_14]) ++ [q_17]) ++ [q_20]) ++ [q_23]) ++ [q_26]) ++ [q_29]) ++ [q_32]) ++ [q_35]) ++ [q_38]) ++ [q_41]), a ∈ ((((((((((((((L ++ [q_2]) ++ [q_5]) ++ [q_8]) ++ [q_11]) ++ [q_14]) ++ [q_17]) ++ [q_20]) ++ [q_23]) ++ [q_26]) ++ [q_29]) ++ [q_32]) ++ [q_35]) ++ [q_38]) ++ [q_41]) := nd_sub sb_13
  refine pw_putF (ty := .array .boolean) (ci := 4) (v := .ref q_41) (C := RX4) (T := TX4) (N := 23) hx hb hts inX4 tyX4 tyX4_ok nmX4 hown hK hP hD hS mf_40_q hf_40_q rfl 16 (by decide) (hts _ mw_343) (fun _ h9 => h9) rfl hin rfl (by decide +kernel) rfl rfl (Nat.le_of_ble_eq_true rfl) dX4_init_113 (fun H locs hP hD hS => ?_)
  obtain ⟨f_42, ef_42⟩ : ∃ zz : Nat → va_E, zz = va_up f_40 q (.inr (4, [.int 0, .int 0, .ref q_2, .ref q_5, .ref q_8, .ref q_11, .ref q_14, .ref q_17, .ref q_20, .ref q_23, .int 0, .ref q_26, .ref q_29, .ref q_32, .ref q_35, .ref q_38, .ref q_41, .null, .null, .null, .int 0, .int 0, .int 0])) := ⟨_, rfl⟩
  have hP : va_P G vwCl (va_pl ((((((((((((((L ++ [q_2]) ++ [q_5]) ++ [q_8]) ++ [q_11]) ++ [q_14]) ++ [q_17]) ++ [q_20]) ++ [q_23]) ++ [q_26]) ++ [q_29]) ++ [q_32]) ++ [q_35]) ++ [q_38]) ++ [q_41]) f_42) H := by rw [ef_42]; exact hP
  have hD : va_D (pw_A L s.heap.size) (va_pl ((((((((((((((L ++ [q_2]) ++ [q_5]) ++ [q_8]) ++ [q_11]) ++ [q_14]) ++ [q_17]) ++ [q_20]) ++ [q_23]) ++ [q_26]) ++ [q_29]) ++ [q_32]) ++ [q_35]) ++ [q_38]) ++ [q_41]) f_42) := by rw [ef_42]; exact hD
  have hf_42_q : f_42 q = .inr (4, [.int 0, .int 0, .ref q_2, .ref q_5, .ref q_8, .ref q_11, .ref q_14, .ref q_17, .ref q_20, .ref q_23, .int 0, .ref q_26, .ref q_29, .ref q_32, .ref q_35, .ref q_38, .ref q_41, .null, .null, .null, .int 0, .int 0, .int 0]) := by rw [ef_42]; exact va_up_self _ _ _
  have hf_42_q_2 := (show f_42 q_2 = f_40 q_2 by rw [ef_42]; exact va_up_ne _ _ (fun z => n_q_2 (z ▸ hq0))).trans hf_40_q_2
  have hf_42_q_5 := (show f_42 q_5 = f_40 q_5 by rw [ef_42]; exact va_up_ne _ _ (fun z => n_q_5 (z ▸ hq0))).trans hf_40_q_5
  have hf_42_q_8 := (show f_42 q_8 = f_40 q_8 by rw [ef_42]; exact va_up_ne _ _ (fun z => n_q_8 (z ▸ hq0))).trans hf_40_q_8
  have hf_42_q_11 := (show f_42 q_11 = f_40 q_11 by rw [ef_42]; exact va_up_ne _ _ (fun z => n_q_11 (z ▸ hq0))).trans hf_40_q_11
  have hf_42_q_14 := (show f_42 q_14 = f_40 q_14 by rw [ef_42]; exact va_up_ne _ _ (fun z => n_q_14 (z ▸ hq0))).trans hf_40_q_14
  have hf_42_q_17 := (show f_42 q_17 = f_40 q_17 by rw [ef_42]; exact va_up_ne _ _ (fun z => n_q_17 (z ▸ hq0))).trans hf_40_q_17
  have hf_42_q_20 := (show f_42 q_20 = f_40 q_20 by rw [ef_42]; exact va_up_ne _ _ (fun z => n_q_20 (z ▸ hq0))).trans hf_40_q_20
  have hf_42_q_23 := (show f_42 q_23 = f_40 q_23 by rw [ef_42]; exact va_up_ne _ _ (fun z => n_q_23 (z ▸ hq0))).trans hf_40_q_23
  have hf_42_q_26 := (show f_42 q_26 = f_40 q_26 by rw [ef_42]; exact va_up_ne _ _ (fun z => n_q_26 (z ▸ hq0))).trans hf_40_q_26
  have hf_42_q_29 := (show f_42 q_29 = f_40 q_29 by rw [ef_42]; exact va_up_ne _ _ (fun z => n_q_29 (z ▸ hq0))).trans hf_40_q_29
  have hf_42_q_32 := (show f_42 q_32 = f_40 q_32 by rw [ef_42]; exact va_up_ne _ _ (fun z => n_q_32 (z ▸ hq0))).trans hf_40_q_32
  have hf_42_q_35 := (show f_42 q_35 = f_40 q_35 by rw [ef_42]; exact va_up_ne _ _ (fun z => n_q_35 (z ▸ hq0))).trans hf_40_q_35
  have hf_42_q_38 := (show f_42 q_38 = f_40 q_38 by rw [ef_42]; exact va_up_ne _ _ (fun z => n_q_38 (z ▸ hq0))).trans hf_40_q_38
  have hf_42_q_41 := (show f_42 q_41 = f_40 q_41 by rw [ef_42]; exact va_up_ne _ _ (fun z => n_q_41 (z ▸ hq0))).trans hf_40_q_41
  refine lv_aload_n hx hb dX4_init_116 rfl (lv_at hl 0 rfl) ?_
  refine lv_bipush (v := 12) hx hb dX4_init_117 (by decide) ?_
  refine pw_newa (atype := .int) (ty := .int) (a0 := (12, .inl (fun _ => 0))) hx hb (hts _ mw_106) rfl hK hP hD hS hA 0 rfl (fun _ h => h) (fun _ => rfl) (by decide) (by decide) (by decide) (Nat.le_of_ble_eq_true rfl) (Nat.le_of_ble_eq_true rfl) dX4_init_119 (fun q_44 H hq_44 hP hD hS => ?_)
  refine W.widen (k := 15) (n := 252) (Nat.le_refl _) (Nat.le_of_ble_eq_true rfl) ?_
  obtain ⟨f_43, ef_43⟩ : ∃ zz : Nat → va_E, zz = va_up f_42 q_44 (.inl (cs 0, 12, .inl (fun _ => 0))) := ⟨_, rfl⟩
  have hP : va_P G vwCl (va_pl (((((((((((((((L ++ [q_2]) ++ [q_5]) ++ [q_8]) ++ [q_11]) ++ [q_14]) ++ [q_17]) ++ [q_20]) ++ [q_23]) ++ [q_26]) ++ [q_29]) ++ [q_32]) ++ [q_35]) ++ [q_38]) ++ [q_41]) ++ [q_44]) f_43) H := by rw [ef_43]; exact hP
  have hD : va_D (pw_A L s.heap.size) (va_pl (((((((((((((((L ++ [q_2]) ++ [q_5]) ++ [q_8]) ++ [q_11]) ++ [q_14]) ++ [q_17]) ++ [q_20]) ++ [q_23]) ++ [q_26]) ++ [q_29]) ++ [q_32]) ++ [q_35]) ++ [q_38]) ++ [q_41]) ++ [q_44]) f_43) := by rw [ef_43]; exact hD
  have mf_43_q : q ∈ (((((((((((((((L ++ [q_2]) ++ [q_5]) ++ [q_8]) ++ [q_11]) ++ [q_14]) ++ [q_17]) ++ [q_20]) ++ [q_23]) ++ [q_26]) ++ [q_29]) ++ [q_32]) ++ [q_35]) ++ [q_38]) ++ [q_41]) ++ [q_44]) := List.mem_append_left _ mf_40_q
  have hf_43_q := (show f_43 q = f_42 q by rw [ef_43]; exact va_up_ne _ _ (fun h => hq_44 (h ▸ mf_40_q))).trans hf_42_q
  have mf_43_q_2 : q_2 ∈ (((((((((((((((L ++ [q_2]) ++ [q_5]) ++ [q_8]) ++ [q_11]) ++ [q_14]) ++ [q_17]) ++ [q_20]) ++ [q_23]) ++ [q_26]) ++ [q_29]) ++ [q_32]) ++ [q_35]) ++ [q_38]) ++ [q_41]) ++ [q_44]) := List.mem_append_left _ mf_40_q_2
  have hf_43_q_2 := (show f_43 q_2 = f_42 q_2 by rw [ef_43]; exact va_up_ne _ _ (fun h => hq_44 (h ▸ mf_40_q_2))).trans hf_42_q_2
  have mf_43_q_5 : q_5 ∈ (((((((((((((((L ++ [q_2]) ++ [q_5]) ++ [q_8]) ++ [q_11]) ++ [q_14]) ++ [q_17]) ++ [q_20]) ++ [q_23]) ++ [q_26]) ++ [q_29]) ++ [q_32]) ++ [q_35]) ++ [q_38]) ++ [q_41]) ++ [q_44]) := List.mem_append_left _ mf_40_q_5
  have hf_43_q_5 := (show f_43 q_5 = f_42 q_5 by rw [ef_43]; exact va_up_ne _ _ (fun h => hq_44 (h ▸ mf_40_q_5))).trans hf_42_q_5
  have mf_43_q_8 : q_8 ∈ (((((((((((((((L ++ [q_2]) ++ [q_5]) ++ [q_8]) ++ [q_11]) ++ [q_14]) ++ [q_17]) ++ [q_20]) ++ [q_23]) ++ [q_26]) ++ [q_29]) ++ [q_32]) ++ [q_35]) ++ [q_38]) ++ [q_41]) ++ [q_44]) := List.mem_append_left _ mf_40_q_8
  have hf_43_q_8 := (show f_43 q_8 = f_42 q_8 by rw [ef_43]; exact va_up_ne _ _ (fun h => hq_44 (h ▸ mf_40_q_8))).trans hf_42_q_8
  have mf_43_q_11 : q_11 ∈ (((((((((((((((L ++ [q_2]) ++ [q_5]) ++ [q_8]) ++ [q_11]) ++ [q_14]) ++ [q_17]) ++ [q_20]) ++ [q_23]) ++ [q_26]) ++ [q_29]) ++ [q_32]) ++ [q_35]) ++ [q_38]) ++ [q_41]) ++ [q_44]) := List.mem_append_left _ mf_40_q_11
  have hf_43_q_11 := (show f_43 q_11 = f_42 q_11 by rw [ef_43]; exact va_up_ne _ _ (fun h => hq_44 (h ▸ mf_40_q_11))).trans hf_42_q_11
  have mf_43_q_14 : q_14 ∈ (((((((((((((((L ++ [q_2]) ++ [q_5]) ++ [q_8]) ++ [q_11]) ++ [q_14]) ++ [q_17]) ++ [q_20]) ++ [q_23]) ++ [q_26]) ++ [q_29]) ++ [q_32]) ++ [q_35]) ++ [q_38]) ++ [q_41]) ++ [q_44]) := List.mem_append_left _ mf_40_q_14
  have hf_43_q_14 := (show f_43 q_14 = f_42 q_14 by rw [ef_43]; exact va_up_ne _ _ (fun h => hq_44 (h ▸ mf_40_q_14))).trans hf_42_q_14
  have mf_43_q_17 : q_17 ∈ (((((((((((((((L ++ [q_2]) ++ [q_5]) ++ [q_8]) ++ [q_11]) ++ [q_14]) ++ [q_17]) ++ [q_20]) ++ [q_23]) ++ [q_26]) ++ [q_29]) ++ [q_32]) ++ [q_35]) ++ [q_38]) ++ [q_41]) ++ [q_44]) := List.mem_append_left _ mf_40_q_17
  have hf_43_q_17 := (show f_43 q_17 = f_42 q_17 by rw [ef_43]; exact va_up_ne _ _ (fun h => hq_44 (h ▸ mf_40_q_17))).trans hf_42_q_17
  have mf_43_q_20 : q_20 ∈ (((((((((((((((L ++ [q_2]) ++ [q_5]) ++ [q_8]) ++ [q_11]) ++ [q_14]) ++ [q_17]) ++ [q_20]) ++ [q_23]) ++ [q_26]) ++ [q_29]) ++ [q_32]) ++ [q_35]) ++ [q_38]) ++ [q_41]) ++ [q_44]) := List.mem_append_left _ mf_40_q_20
  have hf_43_q_20 := (show f_43 q_20 = f_42 q_20 by rw [ef_43]; exact va_up_ne _ _ (fun h => hq_44 (h ▸ mf_40_q_20))).trans hf_42_q_20
  have mf_43_q_23 : q_23 ∈ (((((((((((((((L ++ [q_2]) ++ [q_5]) ++ [q_8]) ++ [q_11]) ++ [q_14]) ++ [q_17]) ++ [q_20]) ++ [q_23]) ++ [q_26]) ++ [q_29]) ++ [q_32]) ++ [q_35]) ++ [q_38]) ++ [q_41]) ++ [q_44]) := List.mem_append_left _ mf_40_q_23
  have hf_43_q_23 := (show f_43 q_23 = f_42 q_23 by rw [ef_43]; exact va_up_ne _ _ (fun h => hq_44 (h ▸ mf_40_q_23))).trans hf_42_q_23
  have mf_43_q_26 : q_26 ∈ (((((((((((((((L ++ [q_2]) ++ [q_5]) ++ [q_8]) ++ [q_11]) ++ [q_14]) ++ [q_17]) ++ [q_20]) ++ [q_23]) ++ [q_26]) ++ [q_29]) ++ [q_32]) ++ [q_35]) ++ [q_38]) ++ [q_41]) ++ [q_44]) := List.mem_append_left _ mf_40_q_26
  have hf_43_q_26 := (show f_43 q_26 = f_42 q_26 by rw [ef_43]; exact va_up_ne _ _ (fun h => hq_44 (h ▸ mf_40_q_26))).trans hf_42_q_26
  have mf_43_q_29 : q_29 ∈ (((((((((((((((L ++ [q_2]) ++ [q_5]) ++ [q_8]) ++ [q_11]) ++ [q_14]) ++ [q_17]) ++ [q_20]) ++ [q_23]) ++ [q_26]) ++ [q_29]) ++ [q_32]) ++ [q_35]) ++ [q_38]) ++ [q_41]) ++ [q_44]) := List.mem_append_left _ mf_40_q_29
  have hf_43_q_29 := (show f_43 q_29 = f_42 q_29 by rw [ef_43]; exact va_up_ne _ _ (fun h => hq_44 (h ▸ mf_40_q_29))).trans hf_42_q_29
  have mf_43_q_32 : q_32 ∈ (((((((((((((((L ++ [q_2]) ++ [q_5]) ++ [q_8]) ++ [q_11]) ++ [q_14]) ++ [q_17]) ++ [q_20]) ++ [q_23]) ++ [q_26]) ++ [q_29]) ++ [q_32]) ++ [q_35]) ++ [q_38]) ++ [q_41]) ++ [q_44]) := List.mem_append_left _ mf_40_q_32
  have hf_43_q_32 := (show f_43 q_32 = f_42 q_32 by rw [ef_43]; exact va_up_ne _ _ (fun h => hq_44 (h ▸ mf_40_q_32))).trans hf_42_q_32
  have mf_43_q_35 : q_35 ∈ (((((((((((((((L ++ [q_2]) ++ [q_5]) ++ [q_8]) ++ [q_11]) ++ [q_14]) ++ [q_17]) ++ [q_20]) ++ [q_23]) ++ [q_26]) ++ [q_29]) ++ [q_32]) ++ [q_35]) ++ [q_38]) ++ [q_41]) ++ [q_44]) := List.mem_append_left _ mf_40_q_35
  have hf_43_q_35 := (show f_43 q_35 = f_42 q_35 by rw [ef_43]; exact va_up_ne _ _ (fun h => hq_44 (h ▸ mf_40_q_35))).trans hf_42_q_35
  have mf_43_q_38 : q_38 ∈ (((((((((((((((L ++ [q_2]) ++ [q_5]) ++ [q_8]) ++ [q_11]) ++ [q_14]) ++ [q_17]) ++ [q_20]) ++ [q_23]) ++ [q_26]) ++ [q_29]) ++ [q_32]) ++ [q_35]) ++ [q_38]) ++ [q_41]) ++ [q_44]) := List.mem_append_left _ mf_40_q_38
  have hf_43_q_38 := (show f_43 q_38 = f_42 q_38 by rw [ef_43]; exact va_up_ne _ _ (fun h => hq_44 (h ▸ mf_40_q_38))).trans hf_42_q_38
  have mf_43_q_41 : q_41 ∈ (((((((((((((((L ++ [q_2]) ++ [q_5]) ++ [q_8]) ++ [q_11]) ++ [q_14]) ++ [q_17]) ++ [q_20]) ++ [q_23]) ++ [q_26]) ++ [q_29]) ++ [q_32]) ++ [q_35]) ++ [q_38]) ++ [q_41]) ++ [q_44]) := List.mem_append_left _ mf_40_q_41
  have hf_43_q_41 := (show f_43 q_41 = f_42 q_41 by rw [ef_43]; exact va_up_ne _ _ (fun h => hq_44 (h ▸ mf_40_q_41))).trans hf_42_q_41
  have mf_43_q_44 : q_44 ∈ (((((((((((((((L ++ [q_2]) ++ [q_5]) ++ [q_8]) ++ [q_11]) ++ [q_14]) ++ [q_17]) ++ [q_20]) ++ [q_23]) ++ [q_26]) ++ [q_29]) ++ [q_32]) ++ [q_35]) ++ [q_38]) ++ [q_41]) ++ [q_44]) := List.mem_append_right _ (List.mem_singleton.mpr rfl)
  have hf_43_q_44 : f_43 q_44 = .inl (cs 0, 12, .inl (fun _ => 0)) := by rw [ef_43]; exact va_up_self _ _ _
  have n_q_44 : q_44 ∉ L := fun z => hq_44 (List.mem_append_left _ (List.mem_append_left _ (List.mem_append_left _ (List.mem_append_left _ (List.mem_append_left _ (List.mem_append_left _ (List.mem_append_left _ (List.mem_append_left _ (List.mem_append_left _ (List.mem_append_left _ (List.mem_append_left _ (List.mem_append_left _ (List.mem_append_left _ (List.mem_append_left _ (z)))))))))))))))
  have nd_15 : ((((((((((((((([q] ++ [q_2]) ++ [q_5]) ++ [q_8]) ++ [q_11]) ++ [q_14]) ++ [q_17]) ++ [q_20]) ++ [q_23]) ++ [q_26]) ++ [q_29]) ++ [q_32]) ++ [q_35]) ++ [q_38]) ++ [q_41]) ++ [q_44]).Nodup := nd_push nd_14 (fun z => hq_44 (sb_14 _ z))
  have sb_15 : ∀ a ∈ ((((((((((((((([q] ++ [q_2]) ++ [q_5]) ++ [q_8]) ++ [q_11]) ++ [q_14]) ++ [q_17]) ++ [q_20]) ++ [q_23]) ++ [q_26]) ++ [q_29]) ++ [q_32]) ++ [q_35]) ++ [q_38]) ++ [q_41]) ++ [q_44]), a ∈ (((((((((((((((L ++ [q_2]) ++ [q_5]) ++ [q_8]) ++ [q_11]) ++ [q_14]) ++ [q_17]) ++ [q_20]) ++ [q_23]) ++ [q_26]) ++ [q_29]) ++ [q_32]) ++ [q_35]) ++ [q_38]) ++ [q_41]) ++ [q_44]) := nd_sub sb_14
  refine pw_putF (ty := .array .int) (ci := 4) (v := .ref q_44) (C := RX4) (T := TX4) (N := 23) hx hb hts inX4 tyX4 tyX4_ok nmX4 hown hK hP hD hS mf_43_q hf_43_q rfl 17 (by decide) (hts _ mw_344) (fun _ h9 => h9) rfl hin rfl (by decide +kernel) rfl rfl (Nat.le_of_ble_eq_true rfl) dX4_init_121 (fun H locs hP hD hS => ?_)
  obtain ⟨f_45, ef_45⟩ : ∃ zz : Nat → va_E, zz = va_up f_43 q (.inr (4, [.int 0, .int 0, .ref q_2, .ref q_5, .ref q_8, .ref q_11, .ref q_14, .ref q_17, .ref q_20, .ref q_23, .int 0, .ref q_26, .ref q_29, .ref q_32, .ref q_35, .ref q_38, .ref q_41, .ref q_44, .null, .null, .int 0, .int 0, .int 0])) := ⟨_, rfl⟩
  have hP : va_P G vwCl (va_pl (((((((((((((((L ++ [q_2]) ++ [q_5]) ++ [q_8]) ++ [q_11]) ++ [q_14]) ++ [q_17]) ++ [q_20]) ++ [q_23]) ++ [q_26]) ++ [q_29]) ++ [q_32]) ++ [q_35]) ++ [q_38]) ++ [q_41]) ++ [q_44]) f_45) H := by rw [ef_45]; exact hP
  have hD : va_D (pw_A L s.heap.size) (va_pl (((((((((((((((L ++ [q_2]) ++ [q_5]) ++ [q_8]) ++ [q_11]) ++ [q_14]) ++ [q_17]) ++ [q_20]) ++ [q_23]) ++ [q_26]) ++ [q_29]) ++ [q_32]) ++ [q_35]) ++ [q_38]) ++ [q_41]) ++ [q_44]) f_45) := by rw [ef_45]; exact hD
  have hf_45_q : f_45 q = .inr (4, [.int 0, .int 0, .ref q_2, .ref q_5, .ref q_8, .ref q_11, .ref q_14, .ref q_17, .ref q_20, .ref q_23, .int 0, .ref q_26, .ref q_29, .ref q_32, .ref q_35, .ref q_38, .ref q_41, .ref q_44, .null, .null, .int 0, .int 0, .int 0]) := by rw [ef_45]; exact va_up_self _ _ _
  have hf_45_q_2 := (show f_45 q_2 = f_43 q_2 by rw [ef_45]; exact va_up_ne _ _ (fun z => n_q_2 (z ▸ hq0))).trans hf_43_q_2
  have hf_45_q_5 := (show f_45 q_5 = f_43 q_5 by rw [ef_45]; exact va_up_ne _ _ (fun z => n_q_5 (z ▸ hq0))).trans hf_43_q_5
  have hf_45_q_8 := (show f_45 q_8 = f_43 q_8 by rw [ef_45]; exact va_up_ne _ _ (fun z => n_q_8 (z ▸ hq0))).trans hf_43_q_8
  have hf_45_q_11 := (show f_45 q_11 = f_43 q_11 by rw [ef_45]; exact va_up_ne _ _ (fun z => n_q_11 (z ▸ hq0))).trans hf_43_q_11
  have hf_45_q_14 := (show f_45 q_14 = f_43 q_14 by rw [ef_45]; exact va_up_ne _ _ (fun z => n_q_14 (z ▸ hq0))).trans hf_43_q_14
  have hf_45_q_17 := (show f_45 q_17 = f_43 q_17 by rw [ef_45]; exact va_up_ne _ _ (fun z => n_q_17 (z ▸ hq0))).trans hf_43_q_17
  have hf_45_q_20 := (show f_45 q_20 = f_43 q_20 by rw [ef_45]; exact va_up_ne _ _ (fun z => n_q_20 (z ▸ hq0))).trans hf_43_q_20
  have hf_45_q_23 := (show f_45 q_23 = f_43 q_23 by rw [ef_45]; exact va_up_ne _ _ (fun z => n_q_23 (z ▸ hq0))).trans hf_43_q_23
  have hf_45_q_26 := (show f_45 q_26 = f_43 q_26 by rw [ef_45]; exact va_up_ne _ _ (fun z => n_q_26 (z ▸ hq0))).trans hf_43_q_26
  have hf_45_q_29 := (show f_45 q_29 = f_43 q_29 by rw [ef_45]; exact va_up_ne _ _ (fun z => n_q_29 (z ▸ hq0))).trans hf_43_q_29
  have hf_45_q_32 := (show f_45 q_32 = f_43 q_32 by rw [ef_45]; exact va_up_ne _ _ (fun z => n_q_32 (z ▸ hq0))).trans hf_43_q_32
  have hf_45_q_35 := (show f_45 q_35 = f_43 q_35 by rw [ef_45]; exact va_up_ne _ _ (fun z => n_q_35 (z ▸ hq0))).trans hf_43_q_35
  have hf_45_q_38 := (show f_45 q_38 = f_43 q_38 by rw [ef_45]; exact va_up_ne _ _ (fun z => n_q_38 (z ▸ hq0))).trans hf_43_q_38
  have hf_45_q_41 := (show f_45 q_41 = f_43 q_41 by rw [ef_45]; exact va_up_ne _ _ (fun z => n_q_41 (z ▸ hq0))).trans hf_43_q_41
  have hf_45_q_44 := (show f_45 q_44 = f_43 q_44 by rw [ef_45]; exact va_up_ne _ _ (fun z => n_q_44 (z ▸ hq0))).trans hf_43_q_44
  refine lv_aload_n hx hb dX4_init_124 rfl (lv_at hl 0 rfl) ?_
  refine lv_bipush (v := 72) hx hb dX4_init_125 (by decide) ?_
  refine pw_newa (atype := .int) (ty := .int) (a0 := (72, .inl (fun _ => 0))) hx hb (hts _ mw_106) rfl hK hP hD hS hA 0 rfl (fun _ h => h) (fun _ => rfl) (by decide) (by decide) (by decide) (Nat.le_of_ble_eq_true rfl) (Nat.le_of_ble_eq_true rfl) dX4_init_127 (fun q_47 H hq_47 hP hD hS => ?_)
  refine W.widen (k := 16) (n := 324) (Nat.le_refl _) (Nat.le_of_ble_eq_true rfl) ?_
  obtain ⟨f_46, ef_46⟩ : ∃ zz : Nat → va_E, zz = va_up f_45 q_47 (.inl (cs 0, 72, .inl (fun _ => 0))) := ⟨_, rfl⟩
  have hP : va_P G vwCl (va_pl ((((((((((((((((L ++ [q_2]) ++ [q_5]) ++ [q_8]) ++ [q_11]) ++ [q_14]) ++ [q_17]) ++ [q_20]) ++ [q_23]) ++ [q_26]) ++ [q_29]) ++ [q_32]) ++ [q_35]) ++ [q_38]) ++ [q_41]) ++ [q_44]) ++ [q_47]) f_46) H := by rw [ef_46]; exact hP
  have hD : va_D (pw_A L s.heap.size) (va_pl ((((((((((((((((L ++ [q_2]) ++ [q_5]) ++ [q_8]) ++ [q_11]) ++ [q_14]) ++ [q_17]) ++ [q_20]) ++ [q_23]) ++ [q_26]) ++ [q_29]) ++ [q_32]) ++ [q_35]) ++ [q_38]) ++ [q_41]) ++ [q_44]) ++ [q_47]) f_46) := by rw [ef_46]; exact hD
  have mf_46_q : q ∈ ((((((((((((((((L ++ [q_2]) ++ [q_5]) ++ [q_8]) ++ [q_11]) ++ [q_14]) ++ [q_17]) ++ [q_20]) ++ [q_23]) ++ [q_26]) ++ [q_29]) ++ [q_32]) ++ [q_35]) ++ [q_38]) ++ [q_41]) ++ [q_44]) ++ [q_47]) := List.mem_append_left _ mf_43_q
  have hf_46_q := (show f_46 q = f_45 q by rw [ef_46]; exact va_up_ne _ _ (fun h => hq_47 (h ▸ mf_43_q))).trans hf_45_q
  have mf_46_q_2 : q_2 ∈ ((((((((((((((((L ++ [q_2]) ++ [q_5]) ++ [q_8]) ++ [q_11]) ++ [q_14]) ++ [q_17]) ++ [q_20]) ++ [q_23]) ++ [q_26]) ++ [q_29]) ++ [q_32]) ++ [q_35]) ++ [q_38]) ++ [q_41]) ++ [q_44]) ++ [q_47]) := List.mem_append_left _ mf_43_q_2
  have hf_46_q_2 := (show f_46 q_2 = f_45 q_2 by rw [ef_46]; exact va_up_ne _ _ (fun h => hq_47 (h ▸ mf_43_q_2))).trans hf_45_q_2
  have mf_46_q_5 : q_5 ∈ ((((((((((((((((L ++ [q_2]) ++ [q_5]) ++ [q_8]) ++ [q_11]) ++ [q_14]) ++ [q_17]) ++ [q_20]) ++ [q_23]) ++ [q_26]) ++ [q_29]) ++ [q_32]) ++ [q_35]) ++ [q_38]) ++ [q_41]) ++ [q_44]) ++ [q_47]) := List.mem_append_left _ mf_43_q_5
  have hf_46_q_5 := (show f_46 q_5 = f_45 q_5 by rw [ef_46]; exact va_up_ne _ _ (fun h => hq_47 (h ▸ mf_43_q_5))).trans hf_45_q_5
  have mf_46_q_8 : q_8 ∈ ((((((((((((((((L ++ [q_2]) ++ [q_5]) ++ [q_8]) ++ [q_11]) ++ [q_14]) ++ [q_17]) ++ [q_20]) ++ [q_23]) ++ [q_26]) ++ [q_29]) ++ [q_32]) ++ [q_35]) ++ [q_38]) ++ [q_41]) ++ [q_44]) ++ [q_47]) := List.mem_append_left _ mf_43_q_8
  have hf_46_q_8 := (show f_46 q_8 = f_45 q_8 by rw [ef_46]; exact va_up_ne _ _ (fun h => hq_47 (h ▸ mf_43_q_8))).trans hf_45_q_8
  have mf_46_q_11 : q_11 ∈ ((((((((((((((((L ++ [q_2]) ++ [q_5]) ++ [q_8]) ++ [q_11]) ++ [q_14]) ++ [q_17]) ++ [q_20]) ++ [q_23]) ++ [q_26]) ++ [q_29]) ++ [q_32]) ++ [q_35]) ++ [q_38]) ++ [q_41]) ++ [q_44]) ++ [q_47]) := List.mem_append_left _ mf_43_q_11
  have hf_46_q_11 := (show f_46 q_11 = f_45 q_11 by rw [ef_46]; exact va_up_ne _ _ (fun h => hq_47 (h ▸ mf_43_q_11))).trans hf_45_q_11
  have mf_46_q_14 : q_14 ∈ ((((((((((((((((L ++ [q_2]) ++ [q_5]) ++ [q_8]) ++ [q_11]) ++ [q_14]) ++ [q_17]) ++ [q_20]) ++ [q_23]) ++ [q_26]) ++ [q_29]) ++ [q_32]) ++ [q_35]) ++ [q_38]) ++ [q_41]) ++ [q_44]) ++ [q_47]) := List.mem_append_left _ mf_43_q_14
  have hf_46_q_14 := (show f_46 q_14 = f_45 q_14 by rw [ef_46]; exact va_up_ne _ _ (fun h => hq_47 (h ▸ mf_43_q_14))).trans hf_45_q_14
  have mf_46_q_17 : q_17 ∈ ((((((((((((((((L ++ [q_2]) ++ [q_5]) ++ [q_8]) ++ [q_11]) ++ [q_14]) ++ [q_17]) ++ [q_20]) ++ [q_23]) ++ [q_26]) ++ [q_29]) ++ [q_32]) ++ [q_35]) ++ [q_38]) ++ [q_41]) ++ [q_44]) ++ [q_47]) := List.mem_append_left _ mf_43_q_17
  have hf_46_q_17 := (show f_46 q_17 = f_45 q_17 by rw [ef_46]; exact va_up_ne _ _ (fun h => hq_47 (h ▸ mf_43_q_17))).trans hf_45_q_17
  have mf_46_q_20 : q_20 ∈ ((((((((((((((((L ++ [q_2]) ++ [q_5]) ++ [q_8]) ++ [q_11]) ++ [q_14]) ++ [q_17]) ++ [q_20]) ++ [q_23]) ++ [q_26]) ++ [q_29]) ++ [q_32]) ++ [q_35]) ++ [q_38]) ++ [q_41]) ++ [q_44]) ++ [q_47]) := List.mem_append_left _ mf_43_q_20
  have hf_46_q_20 := (show f_46 q_20 = f_45 q_20 by rw [ef_46]; exact va_up_ne _ _ (fun h => hq_47 (h ▸ mf_43_q_20))).trans hf_45_q_20
  have mf_46_q_23 : q_23 ∈ ((((((((((((((((L ++ [q_2]) ++ [q_5]) ++ [q_8]) ++ [q_11]) ++ [q_14]) ++ [q_17]) ++ [q_20]) ++ [q_23]) ++ [q_26]) ++ [q_29]) ++ [q_32]) ++ [q_35]) ++ [q_38]) ++ [q_41]) ++ [q_44]) ++ [q_47]) := List.mem_append_left _ mf_43_q_23
  have hf_46_q_23 := (show f_46 q_23 = f_45 q_23 by rw [ef_46]; exact va_up_ne _ _ (fun h => hq_47 (h ▸ mf_43_q_23))).trans hf_45_q_23
  have mf_46_q_26 : q_26 ∈ ((((((((((((((((L ++ [q_2]) ++ [q_5]) ++ [q_8]) ++ [q_11]) ++ [q_14]) ++ [q_17]) ++ [q_20]) ++ [q_23]) ++ [q_26]) ++ [q_29]) ++ [q_32]) ++ [q_35]) ++ [q_38]) ++ [q_41]) ++ [q_44]) ++ [q_47]) := List.mem_append_left _ mf_43_q_26
  have hf_46_q_26 := (show f_46 q_26 = f_45 q_26 by rw [ef_46]; exact va_up_ne _ _ (fun h => hq_47 (h ▸ mf_43_q_26))).trans hf_45_q_26
  have mf_46_q_29 : q_29 ∈ ((((((((((((((((L ++ [q_2]) ++ [q_5]) ++ [q_8]) ++ [q_11]) ++ [q_14]) ++ [q_17]) ++ [q_20]) ++ [q_23]) ++ [q_26]) ++ [q_29]) ++ [q_32]) ++ [q_35]) ++ [q_38]) ++ [q_41]) ++ [q_44]) ++ [q_47]) := List.mem_append_left _ mf_43_q_29
  have hf_46_q_29 := (show f_46 q_29 = f_45 q_29 by rw [ef_46]; exact va_up_ne _ _ (fun h => hq_47 (h ▸ mf_43_q_29))).trans hf_45_q_29
  have mf_46_q_32 : q_32 ∈ ((((((((((((((((L ++ [q_2]) ++ [q_5]) ++ [q_8]) ++ [q_11]) ++ [q_14]) ++ [q_17]) ++ [q_20]) ++ [q_23]) ++ [q_26]) ++ [q_29]) ++ [q_32]) ++ [q_35]) ++ [q_38]) ++ [q_41]) ++ [q_44]) ++ [q_47]) := List.mem_append_left _ mf_43_q_32
  have hf_46_q_32 := (show f_46 q_32 = f_45 q_32 by rw [ef_46]; exact va_up_ne _ _ (fun h => hq_47 (h ▸ mf_43_q_32))).trans hf_45_q_32
  have mf_46_q_35 : q_35 ∈ ((((((((((((((((L ++ [q_2]) ++ [q_5]) ++ [q_8]) ++ [q_11]) ++ [q_14]) ++ [q_17]) ++ [q_20]) ++ [q_23]) ++ [q_26]) ++ [q_29]) ++ [q_32]) ++ [q_35]) ++ [q_38]) ++ [q_41]) ++ [q_44]) ++ [q_47]) := List.mem_append_left _ mf_43_q_35
  have hf_46_q_35 := (show f_46 q_35 = f_45 q_35 by rw [ef_46]; exact va_up_ne _ _ (fun h => hq_47 (h ▸ mf_43_q_35))).trans hf_45_q_35
  have mf_46_q_38 : q_38 ∈ ((((((((((((((((L ++ [q_2]) ++ [q_5]) ++ [q_8]) ++ [q_11]) ++ [q_14]) ++ [q_17]) ++ [q_20]) ++ [q_23]) ++ [q_26]) ++ [q_29]) ++ [q_32]) ++ [q_35]) ++ [q_38]) ++ [q_41]) ++ [q_44]) ++ [q_47]) := List.mem_append_left _ mf_43_q_38
  have hf_46_q_38 := (show f_46 q_38 = f_45 q_38 by rw [ef_46]; exact va_up_ne _ _ (fun h => hq_47 (h ▸ mf_43_q_38))).trans hf_45_q_38
  have mf_46_q_41 : q_41 ∈ ((((((((((((((((L ++ [q_2]) ++ [q_5]) ++ [q_8]) ++ [q_11]) ++ [q_14]) ++ [q_17]) ++ [q_20]) ++ [q_23]) ++ [q_26]) ++ [q_29]) ++ [q_32]) ++ [q_35]) ++ [q_38]) ++ [q_41]) ++ [q_44]) ++ [q_47]) := List.mem_append_left _ mf_43_q_41
  have hf_46_q_41 := (show f_46 q_41 = f_45 q_41 by rw [ef_46]; exact va_up_ne _ _ (fun h => hq_47 (h ▸ mf_43_q_41))).trans hf_45_q_41
  have mf_46_q_44 : q_44 ∈ ((((((((((((((((L ++ [q_2]) ++ [q_5]) ++ [q_8]) ++ [q_11]) ++ [q_14]) ++ [q_17]) ++ [q_20]) ++ [q_23]) ++ [q_26]) ++ [q_29]) ++ [q_32]) ++ [q_35]) ++ [q_38]) ++ [q_41]) ++ [q_44]) ++ [q_47]) := List.mem_append_left _ mf_43_q_44
  have hf_46_q_44 := (show f_46 q_44 = f_45 q_44 by rw [ef_46]; exact va_up_ne _ _ (fun h => hq_47 (h ▸ mf_43_q_44))).trans hf_45_q_44
  have mf_46_q_47 : q_47 ∈ ((((((((((((((((L ++ [q_2]) ++ [q_5]) ++ [q_8]) ++ [q_11]) ++ [q_14]) ++ [q_17]) ++ [q_20]) ++ [q_23]) ++ [q_26]) ++ [q_29]) ++ [q_32]) ++ [q_35]) ++ [q_38]) ++ [q_41]) ++ [q_44]) ++ [q_47]) := List.mem_append_right _ (List.mem_singleton.mpr rfl)
  have hf_46_q_47 : f_46 q_47 = .inl (cs 0, 72, .inl (fun _ => 0)) := by rw [ef_46]; exact va_up_self _ _ _
  have n_q_47 : q_47 ∉ L := fun z => hq_47 (List.mem_append_left _ (List.mem_append_left _ (List.mem_append_left _ (List.mem_append_left _ (List.mem_append_left _ (List.mem_append_left _ (List.mem_append_left _ (List.mem_append_left _ (List.mem_append_left _ (List.mem_append_left _ (List.mem_append_left _ (List.mem_append_left _ (List.mem_append_left _ (List.mem_append_left _ (List.mem_append_left _ (z))))))))))))))))
  have nd_16 : (((((((((((((((([q] ++ [q_2]) ++ [q_5]) ++ [q_8]) ++ [q_11]) ++ [q_14]) ++ [q_17]) ++ [q_20]) ++ [q_23]) ++ [q_26]) ++ [q_29]) ++ [q_32]) ++ [q_35]) ++ [q_38]) ++ [q_41]) ++ [q_44]) ++ [q_47]).Nodup := nd_push nd_15 (fun z => hq_47 (sb_15 _ z))
  have sb_16 : ∀ a ∈ (((((((((((((((([q] ++ [q_2]) ++ [q_5]) ++ [q_8]) ++ [q_11]) ++ [q_14]) ++ [q_17]) ++ [q_20]) ++ [q_23]) ++ [q_26]) ++ [q_29]) ++ [q_32]) ++ [q_35]) ++ [q_38]) ++ [q_41]) ++ [q_44]) ++ [q_47]), a ∈ ((((((((((((((((L ++ [q_2]) ++ [q_5]) ++ [q_8]) ++ [q_11]) ++ [q_14]) ++ [q_17]) ++ [q_20]) ++ [q_23]) ++ [q_26]) ++ [q_29]) ++ [q_32]) ++ [q_35]) ++ [q_38]) ++ [q_41]) ++ [q_44]) ++ [q_47]) := nd_sub sb_15
  refine pw_putF (ty := .array .int) (ci := 4) (v := .ref q_47) (C := RX4) (T := TX4) (N := 23) hx hb hts inX4 tyX4 tyX4_ok nmX4 hown hK hP hD hS mf_46_q hf_46_q rfl 18 (by decide) (hts _ mw_345) (fun _ h9 => h9) rfl hin rfl (by decide +kernel) rfl rfl (Nat.le_of_ble_eq_true rfl) dX4_init_129 (fun H locs hP hD hS => ?_)
  obtain ⟨f_48, ef_48⟩ : ∃ zz : Nat → va_E, zz = va_up f_46 q (.inr (4, [.int 0, .int 0, .ref q_2, .ref q_5, .ref q_8, .ref q_11, .ref q_14, .ref q_17, .ref q_20, .ref q_23, .int 0, .ref q_26, .ref q_29, .ref q_32, .ref q_35, .ref q_38, .ref q_41, .ref q_44, .ref q_47, .null, .int 0, .int 0, .int 0])) := ⟨_, rfl⟩
  have hP : va_P G vwCl (va_pl ((((((((((((((((L ++ [q_2]) ++ [q_5]) ++ [q_8]) ++ [q_11]) ++ [q_14]) ++ [q_17]) ++ [q_20]) ++ [q_23]) ++ [q_26]) ++ [q_29]) ++ [q_32]) ++ [q_35]) ++ [q_38]) ++ [q_41]) ++ [q_44]) ++ [q_47]) f_48) H := by rw [ef_48]; exact hP
  have hD : va_D (pw_A L s.heap.size) (va_pl ((((((((((((((((L ++ [q_2]) ++ [q_5]) ++ [q_8]) ++ [q_11]) ++ [q_14]) ++ [q_17]) ++ [q_20]) ++ [q_23]) ++ [q_26]) ++ [q_29]) ++ [q_32]) ++ [q_35]) ++ [q_38]) ++ [q_41]) ++ [q_44]) ++ [q_47]) f_48) := by rw [ef_48]; exact hD
  have hf_48_q : f_48 q = .inr (4, [.int 0, .int 0, .ref q_2, .ref q_5, .ref q_8, .ref q_11, .ref q_14, .ref q_17, .ref q_20, .ref q_23, .int 0, .ref q_26, .ref q_29, .ref q_32, .ref q_35, .ref q_38, .ref q_41, .ref q_44, .ref q_47, .null, .int 0, .int 0, .int 0]) := by rw [ef_48]; exact va_up_self _ _ _
  have hf_48_q_2 := (show f_48 q_2 = f_46 q_2 by rw [ef_48]; exact va_up_ne _ _ (fun z => n_q_2 (z ▸ hq0))).trans hf_46_q_2
  have hf_48_q_5 := (show f_48 q_5 = f_46 q_5 by rw [ef_48]; exact va_up_ne _ _ (fun z => n_q_5 (z ▸ hq0))).trans hf_46_q_5
  have hf_48_q_8 := (show f_48 q_8 = f_46 q_8 by rw [ef_48]; exact va_up_ne _ _ (fun z => n_q_8 (z ▸ hq0))).trans hf_46_q_8
  have hf_48_q_11 := (show f_48 q_11 = f_46 q_11 by rw [ef_48]; exact va_up_ne _ _ (fun z => n_q_11 (z ▸ hq0))).trans hf_46_q_11
  have hf_48_q_14 := (show f_48 q_14 = f_46 q_14 by rw [ef_48]; exact va_up_ne _ _ (fun z => n_q_14 (z ▸ hq0))).trans hf_46_q_14
  have hf_48_q_17 := (show f_48 q_17 = f_46 q_17 by rw [ef_48]; exact va_up_ne _ _ (fun z => n_q_17 (z ▸ hq0))).trans hf_46_q_17
  have hf_48_q_20 := (show f_48 q_20 = f_46 q_20 by rw [ef_48]; exact va_up_ne _ _ (fun z => n_q_20 (z ▸ hq0))).trans hf_46_q_20
  have hf_48_q_23 := (show f_48 q_23 = f_46 q_23 by rw [ef_48]; exact va_up_ne _ _ (fun z => n_q_23 (z ▸ hq0))).trans hf_46_q_23
  have hf_48_q_26 := (show f_48 q_26 = f_46 q_26 by rw [ef_48]; exact va_up_ne _ _ (fun z => n_q_26 (z ▸ hq0))).trans hf_46_q_26
  have hf_48_q_29 := (show f_48 q_29 = f_46 q_29 by rw [ef_48]; exact va_up_ne _ _ (fun z => n_q_29 (z ▸ hq0))).trans hf_46_q_29
  have hf_48_q_32 := (show f_48 q_32 = f_46 q_32 by rw [ef_48]; exact va_up_ne _ _ (fun z => n_q_32 (z ▸ hq0))).trans hf_46_q_32
  have hf_48_q_35 := (show f_48 q_35 = f_46 q_35 by rw [ef_48]; exact va_up_ne _ _ (fun z => n_q_35 (z ▸ hq0))).trans hf_46_q_35
  have hf_48_q_38 := (show f_48 q_38 = f_46 q_38 by rw [ef_48]; exact va_up_ne _ _ (fun z => n_q_38 (z ▸ hq0))).trans hf_46_q_38
  have hf_48_q_41 := (show f_48 q_41 = f_46 q_41 by rw [ef_48]; exact va_up_ne _ _ (fun z => n_q_41 (z ▸ hq0))).trans hf_46_q_41
  have hf_48_q_44 := (show f_48 q_44 = f_46 q_44 by rw [ef_48]; exact va_up_ne _ _ (fun z => n_q_44 (z ▸ hq0))).trans hf_46_q_44
  have hf_48_q_47 := (show f_48 q_47 = f_46 q_47 by rw [ef_48]; exact va_up_ne _ _ (fun z => n_q_47 (z ▸ hq0))).trans hf_46_q_47
  refine lv_aload_n hx hb dX4_init_132 rfl (lv_at hl 0 rfl) ?_
  refine lv_bipush (v := 40) hx hb dX4_init_133 (by decide) ?_
  refine pw_newa (atype := .boolean) (ty := .boolean) (a0 := (40, .inl (fun _ => 0))) hx hb (hts _ mw_31) rfl hK hP hD hS hA 2 rfl (fun _ h => h) (fun _ => rfl) (by decide) (by decide) (by decide) (Nat.le_of_ble_eq_true rfl) (Nat.le_of_ble_eq_true rfl) dX4_init_135 (fun q_50 H hq_50 hP hD hS => ?_)
  refine W.widen (k := 17) (n := 364) (Nat.le_refl _) (Nat.le_of_ble_eq_true rfl) ?_
  obtain ⟨f_49, ef_49⟩ : ∃ zz : Nat → va_E, zz = va_up f_48 q_50 (.inl (cs 2, 40, .inl (fun _ => 0))) := ⟨_, rfl⟩
  have hP : va_P G vwCl (va_pl (((((((((((((((((L ++ [q_2]) ++ [q_5]) ++ [q_8]) ++ [q_11]) ++ [q_14]) ++ [q_17]) ++ [q_20]) ++ [q_23]) ++ [q_26]) ++ [q_29]) ++ [q_32]) ++ [q_35]) ++ [q_38]) ++ [q_41]) ++ [q_44]) ++ [q_47]) ++ [q_50]) f_49) H := by rw [ef_49]; exact hP
  have hD : va_D (pw_A L s.heap.size) (va_pl (((((((((((((((((L ++ [q_2]) ++ [q_5]) ++ [q_8]) ++ [q_11]) ++ [q_14]) ++ [q_17]) ++ [q_20]) ++ [q_23]) ++ [q_26]) ++ [q_29]) ++ [q_32]) ++ [q_35]) ++ [q_38]) ++ [q_41]) ++ [q_44]) ++ [q_47]) ++ [q_50]) f_49) := by rw [ef_49]; exact hD
  have mf_49_q : q ∈ (((((((((((((((((L ++ [q_2]) ++ [q_5]) ++ [q_8]) ++ [q_11]) ++ [q_14]) ++ [q_17]) ++ [q_20]) ++ [q_23]) ++ [q_26]) ++ [q_29]) ++ [q_32]) ++ [q_35]) ++ [q_38]) ++ [q_41]) ++ [q_44]) ++ [q_47]) ++ [q_50]) := List.mem_append_left _ mf_46_q
  have hf_49_q := (show f_49 q = f_48 q by rw [ef_49]; exact va_up_ne _ _ (fun h => hq_50 (h ▸ mf_46_q))).trans hf_48_q
  have mf_49_q_2 : q_2 ∈ (((((((((((((((((L ++ [q_2]) ++ [q_5]) ++ [q_8]) ++ [q_11]) ++ [q_14]) ++ [q_17]) ++ [q_20]) ++ [q_23]) ++ [q_26]) ++ [q_29]) ++ [q_32]) ++ [q_35]) ++ [q_38]) ++ [q_41]) ++ [q_44]) ++ [q_47]) ++ [q_50]) := List.mem_append_left _ mf_46_q_2
  have hf_49_q_2 := (show f_49 q_2 = f_48 q_2 by rw [ef_49]; exact va_up_ne _ _ (fun h => hq_50 (h ▸ mf_46_q_2))).trans hf_48_q_2
  have mf_49_q_5 : q_5 ∈ (((((((((((((((((L ++ [q_2]) ++ [q_5]) ++ [q_8]) ++ [q_11]) ++ [q_14]) ++ [q_17]) ++ [q_20]) ++ [q_23]) ++ [q_26]) ++ [q_29]) ++ [q_32]) ++ [q_35]) ++ [q_38]) ++ [q_41]) ++ [q_44]) ++ [q_47]) ++ [q_50]) := List.mem_append_left _ mf_46_q_5
  have hf_49_q_5 := (show f_49 q_5 = f_48 q_5 by rw [ef_49]; exact va_up_ne _ _ (fun h => hq_50 (h ▸ mf_46_q_5))).trans hf_48_q_5
  have mf_49_q_8 : q_8 ∈ (((((((((((((((((L ++ [q_2]) ++ [q_5]) ++ [q_8]) ++ [q_11]) ++ [q_14]) ++ [q_17]) ++ [q_20]) ++ [q_23]) ++ [q_26]) ++ [q_29]) ++ [q_32]) ++ [q_35]) ++ [q_38]) ++ [q_41]) ++ [q_44]) ++ [q_47]) ++ [q_50]) := List.mem_append_left _ mf_46_q_8
  have hf_49_q_8 := (show f_49 q_8 = f_48 q_8 by rw [ef_49]; exact va_up_ne _ _ (fun h => hq_50 (h ▸ mf_46_q_8))).trans hf_48_q_8
  have mf_49_q_11 : q_11 ∈ (((((((((((((((((L ++ [q_2]) ++ [q_5]) ++ [q_8]) ++ [q_11]) ++ [q_14]) ++ [q_17]) ++ [q_20]) ++ [q_23]) ++ [q_26]) ++ [q_29]) ++ [q_32]) ++ [q_35]) ++ [q_38]) ++ [q_41]) ++ [q_44]) ++ [q_47]) ++ [q_50]) := List.mem_append_left _ mf_46_q_11
  have hf_49_q_11 := (show f_49 q_11 = f_48 q_11 by rw [ef_49]; exact va_up_ne _ _ (fun h => hq_50 (h ▸ mf_46_q_11))).trans hf_48_q_11
  have mf_49_q_14 : q_14 ∈ (((((((((((((((((L ++ [q_2]) ++ [q_5]) ++ [q_8]) ++ [q_11]) ++ [q_14]) ++ [q_17]) ++ [q_20]) ++ [q_23]) ++ [q_26]) ++ [q_29]) ++ [q_32]) ++ [q_35]) ++ [q_38]) ++ [q_41]) ++ [q_44]) ++ [q_47]) ++ [q_50]) := List.mem_append_left _ mf_46_q_14
  have hf_49_q_14 := (show f_49 q_14 = f_48 q_14 by rw [ef_49]; exact va_up_ne _ _ (fun h => hq_50 (h ▸ mf_46_q_14))).trans hf_48_q_14
  have mf_49_q_17 : q_17 ∈ (((((((((((((((((L ++ [q_2]) ++ [q_5]) ++ [q_8]) ++ [q_11]) ++ [q_14]) ++ [q_17]) ++ [q_20]) ++ [q_23]) ++ [q_26]) ++ [q_29]) ++ [q_32]) ++ [q_35]) ++ [q_38]) ++ [q_41]) ++ [q_44]) ++ [q_47]) ++ [q_50]) := List.mem_append_left _ mf_46_q_17
  have hf_49_q_17 := (show f_49 q_17 = f_48 q_17 by rw [ef_49]; exact va_up_ne _ _ (fun h => hq_50 (h ▸ mf_46_q_17))).trans hf_48_q_17
  have mf_49_q_20 : q_20 ∈ (((((((((((((((((L ++ [q_2]) ++ [q_5]) ++ [q_8]) ++ [q_11]) ++ [q_14]) ++ [q_17]) ++ [q_20]) ++ [q_23]) ++ [q_26]) ++ [q_29]) ++ [q_32]) ++ [q_35]) ++ [q_38]) ++ [q_41]) ++ [q_44]) ++ [q_47]) ++ [q_50]) := List.mem_append_left _ mf_46_q_20
  have hf_49_q_20 := (show f_49 q_20 = f_48 q_20 by rw [ef_49]; exact va_up_ne _ _ (fun h => hq_50 (h ▸ mf_46_q_20))).trans hf_48_q_20
  have mf_49_q_23 : q_23 ∈ (((((((((((((((((L ++ [q_2]) ++ [q_5]) ++ [q_8]) ++ [q_11]) ++ [q_14]) ++ [q_17]) ++ [q_20]) ++ [q_23]) ++ [q_26]) ++ [q_29]) ++ [q_32]) ++ [q_35]) ++ [q_38]) ++ [q_41]) ++ [q_44]) ++ [q_47]) ++ [q_50]) := List.mem_append_left _ mf_46_q_23
  have hf_49_q_23 := (show f_49 q_23 = f_48 q_23 by rw [ef_49]; exact va_up_ne _ _ (fun h => hq_50 (h ▸ mf_46_q_23))).trans hf_48_q_23
  have mf_49_q_26 : q_26 ∈ (((((((((((((((((L ++ [q_2]) ++ [q_5]) ++ [q_8]) ++ [q_11]) ++ [q_14]) ++ [q_17]) ++ [q_20]) ++ [q_23]) ++ [q_26]) ++ [q_29]) ++ [q_32]) ++ [q_35]) ++ [q_38]) ++ [q_41]) ++ [q_44]) ++ [q_47]) ++ [q_50]) := List.mem_append_left _ mf_46_q_26
  have hf_49_q_26 := (show f_49 q_26 = f_48 q_26 by rw [ef_49]; exact va_up_ne _ _ (fun h => hq_50 (h ▸ mf_46_q_26))).trans hf_48_q_26
  have mf_49_q_29 : q_29 ∈ (((((((((((((((((L ++ [q_2]) ++ [q_5]) ++ [q_8]) ++ [q_11]) ++ [q_14]) ++ [q_17]) ++ [q_20]) ++ [q_23]) ++ [q_26]) ++ [q_29]) ++ [q_32]) ++ [q_35]) ++ [q_38]) ++ [q_41]) ++ [q_44]) ++ [q_47]) ++ [q_50]) := List.mem_append_left _ mf_46_q_29
  have hf_49_q_29 := (show f_49 q_29 = f_48 q_29 by rw [ef_49]; exact va_up_ne _ _ (fun h => hq_50 (h ▸ mf_46_q_29))).trans hf_48_q_29
  have mf_49_q_32 : q_32 ∈ (((((((((((((((((L ++ [q_2]) ++ [q_5]) ++ [q_8]) ++ [q_11]) ++ [q_14]) ++ [q_17]) ++ [q_20]) ++ [q_23]) ++ [q_26]) ++ [q_29]) ++ [q_32]) ++ [q_35]) ++ [q_38]) ++ [q_41]) ++ [q_44]) ++ [q_47]) ++ [q_50]) := List.mem_append_left _ mf_46_q_32
  have hf_49_q_32 := (show f_49 q_32 = f_48 q_32 by rw [ef_49]; exact va_up_ne _ _ (fun h => hq_50 (h ▸ mf_46_q_32))).trans hf_48_q_32
  have mf_49_q_35 : q_35 ∈ (((((((((((((((((L ++ [q_2]) ++ [q_5]) ++ [q_8]) ++ [q_11]) ++ [q_14]) ++ [q_17]) ++ [q_20]) ++ [q_23]) ++ [q_26]) ++ [q_29]) ++ [q_32]) ++ [q_35]) ++ [q_38]) ++ [q_41]) ++ [q_44]) ++ [q_47]) ++ [q_50]) := List.mem_append_left _ mf_46_q_35
  have hf_49_q_35 := (show f_49 q_35 = f_48 q_35 by rw [ef_49]; exact va_up_ne _ _ (fun h => hq_50 (h ▸ mf_46_q_35))).trans hf_48_q_35
  have mf_49_q_38 : q_38 ∈ (((((((((((((((((L ++ [q_2]) ++ [q_5]) ++ [q_8]) ++ [q_11]) ++ [q_14]) ++ [q_17]) ++ [q_20]) ++ [q_23]) ++ [q_26]) ++ [q_29]) ++ [q_32]) ++ [q_35]) ++ [q_38]) ++ [q_41]) ++ [q_44]) ++ [q_47]) ++ [q_50]) := List.mem_append_left _ mf_46_q_38
  have hf_49_q_38 := (show f_49 q_38 = f_48 q_38 by rw [ef_49]; exact va_up_ne _ _ (fun h => hq_50 (h ▸ mf_46_q_38))).trans hf_48_q_38
  have mf_49_q_41 : q_41 ∈ (((((((((((((((((L ++ [q_2]) ++ [q_5]) ++ [q_8]) ++ [q_11]) ++ [q_14]) ++ [q_17]) ++ [q_20]) ++ [q_23]) ++ [q_26]) ++ [q_29]) ++ [q_32]) ++ [q_35]) ++ [q_38]) ++ [q_41]) ++ [q_44]) ++ [q_47]) ++ [q_50]) := List.mem_append_left _ mf_46_q_41
  have hf_49_q_41 := (show f_49 q_41 = f_48 q_41 by rw [ef_49]; exact va_up_ne _ _ (fun h => hq_50 (h ▸ mf_46_q_41))).trans hf_48_q_41
  have mf_49_q_44 : q_44 ∈ (((((((((((((((((L ++ [q_2]) ++ [q_5]) ++ [q_8]) ++ [q_11]) ++ [q_14]) ++ [q_17]) ++ [q_20]) ++ [q_23]) ++ [q_26]) ++ [q_29]) ++ [q_32]) ++ [q_35]) ++ [q_38]) ++ [q_41]) ++ [q_44]) ++ [q_47]) ++ [q_50]) := List.mem_append_left _ mf_46_q_44
  have hf_49_q_44 := (show f_49 q_44 = f_48 q_44 by rw [ef_49]; exact va_up_ne _ _ (fun h => hq_50 (h ▸ mf_46_q_44))).trans hf_48_q_44
  have mf_49_q_47 : q_47 ∈ (((((((((((((((((L ++ [q_2]) ++ [q_5]) ++ [q_8]) ++ [q_11]) ++ [q_14]) ++ [q_17]) ++ [q_20]) ++ [q_23]) ++ [q_26]) ++ [q_29]) ++ [q_32]) ++ [q_35]) ++ [q_38]) ++ [q_41]) ++ [q_44]) ++ [q_47]) ++ [q_50]) := List.mem_append_left _ mf_46_q_47
  have hf_49_q_47 := (show f_49 q_47 = f_48 q_47 by rw [ef_49]; exact va_up_ne _ _ (fun h => hq_50 (h ▸ mf_46_q_47))).trans hf_48_q_47
  have mf_49_q_50 : q_50 ∈ (((((((((((((((((L ++ [q_2]) ++ [q_5]) ++ [q_8]) ++ [q_11]) ++ [q_14]) ++ [q_17]) ++ [q_20]) ++ [q_23]) ++ [q_26]) ++ [q_29]) ++ [q_32]) ++ [q_35]) ++ [q_38]) ++ [q_41]) ++ [q_44]) ++ [q_47]) ++ [q_50]) := List.mem_append_right _ (List.mem_singleton.mpr rfl)
  have hf_49_q_50 : f_49 q_50 = .inl (cs 2, 40, .inl (fun _ => 0)) := by rw [ef_49]; exact va_up_self _ _ _
  have n_q_50 : q_50 ∉ L := fun z => hq_50 (List.mem_append_left _ (List.mem_append_left _ (List.mem_append_left _ (List.mem_append_left _ (List.mem_append_left _ (List.mem_append_left _ (List.mem_append_left _ (List.mem_append_left _ (List.mem_append_left _ (List.mem_append_left _ (List.mem_append_left _ (List.mem_append_left _ (List.mem_append_left _ (List.mem_append_left _ (List.mem_append_left _ (List.mem_append_left _ (z)))))))))))))))))
  have nd_17 : ((((((((((((((((([q] ++ [q_2]) ++ [q_5]) ++ [q_8]) ++ [q_11]) ++ [q_14]) ++ [q_17]) ++ [q_20]) ++ [q_23]) ++ [q_26]) ++ [q_29]) ++ [q_32]) ++ [q_35]) ++ [q_38]) ++ [q_41]) ++ [q_44]) ++ [q_47]) ++ [q_50]).Nodup := nd_push nd_16 (fun z => hq_50 (sb_16 _ z))
  have sb_17 : ∀ a ∈ ((((((((((((((((([q] ++ [q_2]) ++ [q_5]) ++ [q_8]) ++ [q_11]) ++ [q_14]) ++ [q_17]) ++ [q_20]) ++ [q_23]) ++ [q_26]) ++ [q_29]) ++ [q_32]) ++ [q_35]) ++ [q_38]) ++ [q_41]) ++ [q_44]) ++ [q_47]) ++ [q_50]), a ∈ (((((((((((((((((L ++ [q_2]) ++ [q_5]) ++ [q_8]) ++ [q_11]) ++ [q_14]) ++ [q_17]) ++ [q_20]) ++ [q_23]) ++ [q_26]) ++ [q_29]) ++ [q_32]) ++ [q_35]) ++ [q_38]) ++ [q_41]) ++ [q_44]) ++ [q_47]) ++ [q_50]) := nd_sub sb_16
  refine pw_putF (ty := .array .boolean) (ci := 4) (v := .ref q_50) (C := RX4) (T := TX4) (N := 23) hx hb hts inX4 tyX4 tyX4_ok nmX4 hown hK hP hD hS mf_49_q hf_49_q rfl 19 (by decide) (hts _ mw_346) (fun _ h9 => h9) rfl hin rfl (by decide +kernel) rfl rfl (Nat.le_of_ble_eq_true rfl) dX4_init_137 (fun H locs hP hD hS => ?_)
  obtain ⟨f_51, ef_51⟩ : ∃ zz : Nat → va_E, zz = va_up f_49 q (.inr (4, [.int 0, .int 0, .ref q_2, .ref q_5, .ref q_8, .ref q_11, .ref q_14, .ref q_17, .ref q_20, .ref q_23, .int 0, .ref q_26, .ref q_29, .ref q_32, .ref q_35, .ref q_38, .ref q_41, .ref q_44, .ref q_47, .ref q_50, .int 0, .int 0, .int 0])) := ⟨_, rfl⟩
  have hP : va_P G vwCl (va_pl (((((((((((((((((L ++ [q_2]) ++ [q_5]) ++ [q_8]) ++ [q_11]) ++ [q_14]) ++ [q_17]) ++ [q_20]) ++ [q_23]) ++ [q_26]) ++ [q_29]) ++ [q_32]) ++ [q_35]) ++ [q_38]) ++ [q_41]) ++ [q_44]) ++ [q_47]) ++ [q_50]) f_51) H := by rw [ef_51]; exact hP
  have hD : va_D (pw_A L s.heap.size) (va_pl (((((((((((((((((L ++ [q_2]) ++ [q_5]) ++ [q_8]) ++ [q_11]) ++ [q_14]) ++ [q_17]) ++ [q_20]) ++ [q_23]) ++ [q_26]) ++ [q_29]) ++ [q_32]) ++ [q_35]) ++ [q_38]) ++ [q_41]) ++ [q_44]) ++ [q_47]) ++ [q_50]) f_51) := by rw [ef_51]; exact hD
  have hf_51_q : f_51 q = .inr (4, [.int 0, .int 0, .ref q_2, .ref q_5, .ref q_8, .ref q_11, .ref q_14, .ref q_17, .ref q_20, .ref q_23, .int 0, .ref q_26, .ref q_29, .ref q_32, .ref q_35, .ref q_38, .ref q_41, .ref q_44, .ref q_47, .ref q_50, .int 0, .int 0, .int 0]) := by rw [ef_51]; exact va_up_self _ _ _
  have hf_51_q_2 := (show f_51 q_2 = f_49 q_2 by rw [ef_51]; exact va_up_ne _ _ (fun z => n_q_2 (z ▸ hq0))).trans hf_49_q_2
  have hf_51_q_5 := (show f_51 q_5 = f_49 q_5 by rw [ef_51]; exact va_up_ne _ _ (fun z => n_q_5 (z ▸ hq0))).trans hf_49_q_5
  have hf_51_q_8 := (show f_51 q_8 = f_49 q_8 by rw [ef_51]; exact va_up_ne _ _ (fun z => n_q_8 (z ▸ hq0))).trans hf_49_q_8
  have hf_51_q_11 := (show f_51 q_11 = f_49 q_11 by rw [ef_51]; exact va_up_ne _ _ (fun z => n_q_11 (z ▸ hq0))).trans hf_49_q_11
  have hf_51_q_14 := (show f_51 q_14 = f_49 q_14 by rw [ef_51]; exact va_up_ne _ _ (fun z => n_q_14 (z ▸ hq0))).trans hf_49_q_14
  have hf_51_q_17 := (show f_51 q_17 = f_49 q_17 by rw [ef_51]; exact va_up_ne _ _ (fun z => n_q_17 (z ▸ hq0))).trans hf_49_q_17
  have hf_51_q_20 := (show f_51 q_20 = f_49 q_20 by rw [ef_51]; exact va_up_ne _ _ (fun z => n_q_20 (z ▸ hq0))).trans hf_49_q_20
  have hf_51_q_23 := (show f_51 q_23 = f_49 q_23 by rw [ef_51]; exact va_up_ne _ _ (fun z => n_q_23 (z ▸ hq0))).trans hf_49_q_23
  have hf_51_q_26 := (show f_51 q_26 = f_49 q_26 by rw [ef_51]; exact va_up_ne _ _ (fun z => n_q_26 (z ▸ hq0))).trans hf_49_q_26
  have hf_51_q_29 := (show f_51 q_29 = f_49 q_29 by rw [ef_51]; exact va_up_ne _ _ (fun z => n_q_29 (z ▸ hq0))).trans hf_49_q_29
  have hf_51_q_32 := (show f_51 q_32 = f_49 q_32 by rw [ef_51]; exact va_up_ne _ _ (fun z => n_q_32 (z ▸ hq0))).trans hf_49_q_32
  have hf_51_q_35 := (show f_51 q_35 = f_49 q_35 by rw [ef_51]; exact va_up_ne _ _ (fun z => n_q_35 (z ▸ hq0))).trans hf_49_q_35
  have hf_51_q_38 := (show f_51 q_38 = f_49 q_38 by rw [ef_51]; exact va_up_ne _ _ (fun z => n_q_38 (z ▸ hq0))).trans hf_49_q_38
  have hf_51_q_41 := (show f_51 q_41 = f_49 q_41 by rw [ef_51]; exact va_up_ne _ _ (fun z => n_q_41 (z ▸ hq0))).trans hf_49_q_41
  have hf_51_q_44 := (show f_51 q_44 = f_49 q_44 by rw [ef_51]; exact va_up_ne _ _ (fun z => n_q_44 (z ▸ hq0))).trans hf_49_q_44
  have hf_51_q_47 := (show f_51 q_47 = f_49 q_47 by rw [ef_51]; exact va_up_ne _ _ (fun z => n_q_47 (z ▸ hq0))).trans hf_49_q_47
  have hf_51_q_50 := (show f_51 q_50 = f_49 q_50 by rw [ef_51]; exact va_up_ne _ _ (fun z => n_q_50 (z ▸ hq0))).trans hf_49_q_50
  refine lv_aload_n hx hb dX4_init_140 rfl (lv_at hl 0 rfl) ?_
  refine lv_sipush (v := 365) hx hb dX4_init_141 (by decide) ?_
  refine pw_put (ty := .int) (ci := 4) (v := .int 365) (C := RX4) (T := TX4) (N := 23) hx hb hts inX4 tyX4 tyX4_ok nmX4 hown hK hP hD hS mf_49_q hf_51_q rfl 20 (by decide) (hts _ mw_347) (fun _ h9 => h9) rfl (by decide +kernel) rfl rfl (Nat.le_of_ble_eq_true rfl) dX4_init_144 (fun H locs hP hD hS => ?_)
  obtain ⟨f_52, ef_52⟩ : ∃ zz : Nat → va_E, zz = va_up f_51 q (.inr (4, [.int 0, .int 0, .ref q_2, .ref q_5, .ref q_8, .ref q_11, .ref q_14, .ref q_17, .ref q_20, .ref q_23, .int 0, .ref q_26, .ref q_29, .ref q_32, .ref q_35, .ref q_38, .ref q_41, .ref q_44, .ref q_47, .ref q_50, .int 365, .int 0, .int 0])) := ⟨_, rfl⟩
  have hP : va_P G vwCl (va_pl (((((((((((((((((L ++ [q_2]) ++ [q_5]) ++ [q_8]) ++ [q_11]) ++ [q_14]) ++ [q_17]) ++ [q_20]) ++ [q_23]) ++ [q_26]) ++ [q_29]) ++ [q_32]) ++ [q_35]) ++ [q_38]) ++ [q_41]) ++ [q_44]) ++ [q_47]) ++ [q_50]) f_52) H := by rw [ef_52]; exact hP
  have hD : va_D (pw_A L s.heap.size) (va_pl (((((((((((((((((L ++ [q_2]) ++ [q_5]) ++ [q_8]) ++ [q_11]) ++ [q_14]) ++ [q_17]) ++ [q_20]) ++ [q_23]) ++ [q_26]) ++ [q_29]) ++ [q_32]) ++ [q_35]) ++ [q_38]) ++ [q_41]) ++ [q_44]) ++ [q_47]) ++ [q_50]) f_52) := by rw [ef_52]; exact hD
  have hf_52_q : f_52 q = .inr (4, [.int 0, .int 0, .ref q_2, .ref q_5, .ref q_8, .ref q_11, .ref q_14, .ref q_17, .ref q_20, .ref q_23, .int 0, .ref q_26, .ref q_29, .ref q_32, .ref q_35, .ref q_38, .ref q_41, .ref q_44, .ref q_47, .ref q_50, .int 365, .int 0, .int 0]) := by rw [ef_52]; exact va_up_self _ _ _
  have hf_52_q_2 := (show f_52 q_2 = f_51 q_2 by rw [ef_52]; exact va_up_ne _ _ (fun z => n_q_2 (z ▸ hq0))).trans hf_51_q_2
  have hf_52_q_5 := (show f_52 q_5 = f_51 q_5 by rw [ef_52]; exact va_up_ne _ _ (fun z => n_q_5 (z ▸ hq0))).trans hf_51_q_5
  have hf_52_q_8 := (show f_52 q_8 = f_51 q_8 by rw [ef_52]; exact va_up_ne _ _ (fun z => n_q_8 (z ▸ hq0))).trans hf_51_q_8
  have hf_52_q_11 := (show f_52 q_11 = f_51 q_11 by rw [ef_52]; exact va_up_ne _ _ (fun z => n_q_11 (z ▸ hq0))).trans hf_51_q_11
  have hf_52_q_14 := (show f_52 q_14 = f_51 q_14 by rw [ef_52]; exact va_up_ne _ _ (fun z => n_q_14 (z ▸ hq0))).trans hf_51_q_14
  have hf_52_q_17 := (show f_52 q_17 = f_51 q_17 by rw [ef_52]; exact va_up_ne _ _ (fun z => n_q_17 (z ▸ hq0))).trans hf_51_q_17
  have hf_52_q_20 := (show f_52 q_20 = f_51 q_20 by rw [ef_52]; exact va_up_ne _ _ (fun z => n_q_20 (z ▸ hq0))).trans hf_51_q_20
  have hf_52_q_23 := (show f_52 q_23 = f_51 q_23 by rw [ef_52]; exact va_up_ne _ _ (fun z => n_q_23 (z ▸ hq0))).trans hf_51_q_23
  have hf_52_q_26 := (show f_52 q_26 = f_51 q_26 by rw [ef_52]; exact va_up_ne _ _ (fun z => n_q_26 (z ▸ hq0))).trans hf_51_q_26
  have hf_52_q_29 := (show f_52 q_29 = f_51 q_29 by rw [ef_52]; exact va_up_ne _ _ (fun z => n_q_29 (z ▸ hq0))).trans hf_51_q_29
  have hf_52_q_32 := (show f_52 q_32 = f_51 q_32 by rw [ef_52]; exact va_up_ne _ _ (fun z => n_q_32 (z ▸ hq0))).trans hf_51_q_32
  have hf_52_q_35 := (show f_52 q_35 = f_51 q_35 by rw [ef_52]; exact va_up_ne _ _ (fun z => n_q_35 (z ▸ hq0))).trans hf_51_q_35
  have hf_52_q_38 := (show f_52 q_38 = f_51 q_38 by rw [ef_52]; exact va_up_ne _ _ (fun z => n_q_38 (z ▸ hq0))).trans hf_51_q_38
  have hf_52_q_41 := (show f_52 q_41 = f_51 q_41 by rw [ef_52]; exact va_up_ne _ _ (fun z => n_q_41 (z ▸ hq0))).trans hf_51_q_41
  have hf_52_q_44 := (show f_52 q_44 = f_51 q_44 by rw [ef_52]; exact va_up_ne _ _ (fun z => n_q_44 (z ▸ hq0))).trans hf_51_q_44
  have hf_52_q_47 := (show f_52 q_47 = f_51 q_47 by rw [ef_52]; exact va_up_ne _ _ (fun z => n_q_47 (z ▸ hq0))).trans hf_51_q_47
  have hf_52_q_50 := (show f_52 q_50 = f_51 q_50 by rw [ef_52]; exact va_up_ne _ _ (fun z => n_q_50 (z ▸ hq0))).trans hf_51_q_50
  refine pc_retv hx hb hr hlocks hP hD hS dX4_init_147 ⟨fun r => ((((((((((((((((([q] ++ [q_2]) ++ [q_5]) ++ [q_8]) ++ [q_11]) ++ [q_14]) ++ [q_17]) ++ [q_20]) ++ [q_23]) ++ [q_26]) ++ [q_29]) ++ [q_32]) ++ [q_35]) ++ [q_38]) ++ [q_41]) ++ [q_44]) ++ [q_47]) ++ [q_50]).getD r 0, 0, 0, rfl, ⟨⟨by decide, by decide⟩, fun r hr => sb_17 _ (nd_mem hr), fun r r' h1 h2 e => nd_inj nd_17 h1 h2 e, hf_52_q, fun r h1 h2 => ?_⟩⟩
  obtain rfl | rfl | rfl | rfl | rfl | rfl | rfl | rfl | rfl | rfl | rfl | rfl | rfl | rfl | rfl | rfl | rfl : r = 1 ∨ r = 2 ∨ r = 3 ∨ r = 4 ∨ r = 5 ∨ r = 6 ∨ r = 7 ∨ r = 8 ∨ r = 9 ∨ r = 10 ∨ r = 11 ∨ r = 12 ∨ r = 13 ∨ r = 14 ∨ r = 15 ∨ r = 16 ∨ r = 17 := by omega
  · exact hf_52_q_2
  · exact hf_52_q_5
  · exact hf_52_q_8
  · exact hf_52_q_11
  · exact hf_52_q_14
  · exact hf_52_q_17
  · exact hf_52_q_20
  · exact hf_52_q_23
  · exact hf_52_q_26
  · exact hf_52_q_29
  · exact hf_52_q_32
  · exact hf_52_q_35
  · exact hf_52_q_38
  · exact hf_52_q_41
  · exact hf_52_q_44
  · exact hf_52_q_47
  · exact hf_52_q_50
