/-! The class: its constructor. Laid by wip/gen/inits.py. -/
theorem pc_callIN {p : Program} {l : Launch} {e : Env} {R : Room} {s : State} {m : MethodId} {args : Array Value} {below : List Frame} {meth : Method} {c : Code} {H : Heap} {locs : List Loc} {cells slots : Nat} {Q : State → Prop} {cc : ByteArray} {pc : Nat} {ls : Array Slot} {rest st0 : List Value} {D : va_G} {cl : List vw_C} {A : Nat → Prop} {tys : List (ClassId × FieldType)} {H0 : Heap} {L : List Nat} {f : Nat → va_E} {X : State → Prop} {y : MethodName} {bytes : ByteArray} {maxL nL mc ms n index : Nat} {ws : List Cond} {rm : Room} {Ts : List Cond} {own host : String} {b : Nat} {As : List Value} {post : pw_M → Prop} (S : CallFix p m c cc nL s args Ts own) (hM : Met l y ws rm (pc_P (.ref b :: As) D cl tys L f H.size X) (va_Qv post (pc_B D cl L H.size) (pw_A L H.size)) mc ms (pw_A L H.size)) (cw : va_CN R s args own index y host bytes maxL none ws rm mc ms n ∧ y.name = "<init>" ∧ (Cond.instanceMethod y).before args s = true) (hK : va_K D cl tys s) (hP : va_P D cl (va_pl L f) H) (hD : va_D A (va_pl L f)) (hS : va_S A H0 H locs) (hA : ∀ q, H0.size ≤ q → A q) (hX : px_b X) (hXc : ∀ U : State, U.heap = H → s.WarmedH U.vm → X U)
    (hn : As.length = n) (hsize : ls.size = nL) (hst : st0 = As.reverse ++ .ref b :: rest) (hW : 2 * (F0 m pc ls st0).monitorRoom + (rest.map fun v => v.category).sum ≤ 8) (hdg : decode cc pc = .ok (.invokespecial index, 3)) (hf : cells + mc ≤ R.cells ∧ slots + ms ≤ R.slots)
    (kk : ∀ (L1 : List Nat) (f1 : Nat → va_E) (H1 : Heap) (locs1 : List Loc), post (L1, f1) → va_P D cl (va_pl L1 f1) H1 → va_D A (va_pl L1 f1) → va_S A H0 H1 locs1 → W p l e R s m args below meth c H1 locs1 (cells + mc) (slots + ms) Q (F0 m (pc + 3) ls rest)) : W p l e R s m args below meth c H locs cells slots Q (F0 m pc ls st0) := by
  have hF := pw_free hD hS hA
  refine va_callv (va_runIN S hM cw (pc_preS hK hP hD hX hXc) rfl hn hsize hst hW hdg hf) hS (fun q _ h => hF q h) hF (fun u t H1 locs1 ht hvm hp hB hz hk hS1 => ?_)
  obtain ⟨L1, f1⟩ := u
  exact kk L1 f1 H1 locs1 hp (by rw [← ht]; exact hB.1) (hB.2.weaken (fun k q _ h => hF q.1 h)) hS1
def CX (U : State) : Prop := va_AO "PaperStates$Notice" U ∧ va_AO "PaperStates$Move" U ∧ va_Nw (.methodLinkNest "PaperStates" 27 yX2_init "PaperStates") U
theorem CX.px : px_b CX := fun a U g mk h => ⟨va_AO.moved (u := U) (U := U.calling g mk a) (Vm.Alike.refl U.vm) h.1, va_AO.moved (u := U) (U := U.calling g mk a) (Vm.Alike.refl U.vm) h.2.1, va_Nw.same rfl rfl h.2.2⟩
theorem ps_g0 (ad : Nat → Nat) (b w : Nat) : ps_g ad b w 0 = fun _ => none := by
  funext k
  unfold ps_g
  exact if_neg (Nat.not_lt_zero _)

set_option maxHeartbeats 4000000 in
set_option maxRecDepth 100000 in
theorem k_C_init (l : Launch) (G : va_G) (cs : Nat → ClassId) (L : List Nat) (f : Nat → va_E) (sz : Nat) (q : Nat) (ns : Nat → NS) (ms : Nat → MS) (hq0 : q ∈ L) (he0 : f q = .inr (3, [.null, .null, .null, .null, .int 0, .int 0, .int 0, .int 0])) : Met l yX3_init (Cond.code yX3_init cX3_init 1 none :: wg) ({ frames := 2, cells := 5, slots := 268, locals := 32 }) (pc_P [.ref q] G vwCl (tyl cs) L f sz CX) (va_Qv (fun u => ∃ ad : Nat → Nat, ad 0 = q ∧ PS cs u.1 u.2 ad 0 365 0 0 ns ms (fun _ => 0) (0, fun _ => 0)) (pc_B G vwCl L sz) (pw_A L sz)) 5 268 (pw_A L sz) := by
  refine Met.ofW (cc := cX3_init) (maxL := 1) (ret := none) (by decide) rfl ?_
  intro p e s m args below meth c s₁ B hml hv
  obtain ⟨rfl, hsz, hP, hK, hD0, hX⟩ := hv
  have hx := B.exec
  have hb := B.bytes
  have hr := B.returns
  have hts0 := atoms_spec (ws := (Cond.code yX3_init cX3_init 1 none :: wg)) B.pre
  have hts := fun (w : Cond) (h : w ∈ wg) => hts0 w (List.mem_cons_of_mem _ h)
  have hown : s.vm.findClass RX3 = some m.cls := findClass_of_methodNamed B.named
  have hlocks := B.notSynchronized
  have hin : meth.name = "<init>" := (name_of_methodNamed B.named B.method).1
  subst hsz
  have hD := pw_selfD (sz := s.heap.size) hD0
  have hA : ∀ q : Nat, s.heap.size ≤ q → pw_A L s.heap.size q := fun q h => Or.inr h
  have hS : va_S (pw_A L s.heap.size) s.heap s.heap [] := va_S.rf
  have hl := lv_entry ([.ref q]) (n := 1) (Nat.le_of_ble_eq_true rfl)
  rw [lg_entry_eq]
  generalize (lg_sl ([.ref q]) ++ List.replicate (1 - (lg_sl ([.ref q])).length) Slot.unset).toArray = ls at hl ⊢
  have hl : lv_has ls 1 [(0, .ref q)] := hl
  refine lv_aload_n hx hb dX3_init_0 rfl (lv_at hl 0 rfl) ?_
  refine W.objInit hx hb hown (hts _ mw_11) (hts _ mw_12) (hts _ mw_obj) rfl (by rw [hml]; exact hl.1) rfl dX3_init_1 (Nat.le_of_ble_eq_true rfl) (Nat.le_of_ble_eq_true rfl) ?_
  refine W.eq (g2 := F0 m 4 ls []) rfl ?_
  refine lv_aload_n hx hb dX3_init_4 rfl (lv_at hl 0 rfl) ?_
  refine lv_bipush (v := 6) hx hb dX3_init_5 (by decide) ?_
  refine pw_newq (n := 6) (N' := 6) hx hb hown (hts _ mw_14) hX.1 hK hP hD hS hA 4 rfl (by decide) (by decide) (by decide) (Nat.le_of_ble_eq_true rfl) (Nat.le_of_ble_eq_true rfl) dX3_init_7 (fun qn H hqn hP hD hS => ?_)
  refine W.widen (k := 1) (n := 6) (Nat.le_refl _) (Nat.le_of_ble_eq_true rfl) ?_
  obtain ⟨f_1, ef_1⟩ : ∃ zz : Nat → va_E, zz = va_up f qn (.inl (cs 4, 6, .inr (.inr (.inr (.inr (fun _ => none)))))) := ⟨_, rfl⟩
  have hP : va_P G vwCl (va_pl (L ++ [qn]) f_1) H := by rw [ef_1]; exact hP
  have hD : va_D (pw_A L s.heap.size) (va_pl (L ++ [qn]) f_1) := by rw [ef_1]; exact hD
  have mf_1_q : q ∈ (L ++ [qn]) := List.mem_append_left _ hq0
  have hf_1_q := (show f_1 q = f q by rw [ef_1]; exact va_up_ne _ _ (fun h => hqn (h ▸ hq0))).trans he0
  have mf_1_qn : qn ∈ (L ++ [qn]) := List.mem_append_right _ (List.mem_singleton.mpr rfl)
  have hf_1_qn : f_1 qn = .inl (cs 4, 6, .inr (.inr (.inr (.inr (fun _ => none))))) := by rw [ef_1]; exact va_up_self _ _ _
  have n_qn : qn ∉ L := fun z => hqn (z)
  refine pw_putF (ty := .array (.object "PaperStates$Notice")) (ci := 3) (v := .ref qn) (C := RX3) (T := TX3) (N := 8) hx hb hts inX3 tyX3 tyX3_ok nmX3 hown hK hP hD hS mf_1_q hf_1_q rfl 0 (by decide) (hts _ mw_33) (fun _ h9 => h9) rfl hin rfl (by decide +kernel) rfl rfl (Nat.le_of_ble_eq_true rfl) dX3_init_10 (fun H locs hP hD hS => ?_)
  obtain ⟨f_2, ef_2⟩ : ∃ zz : Nat → va_E, zz = va_up f_1 q (.inr (3, [.ref qn, .null, .null, .null, .int 0, .int 0, .int 0, .int 0])) := ⟨_, rfl⟩
  have hP : va_P G vwCl (va_pl (L ++ [qn]) f_2) H := by rw [ef_2]; exact hP
  have hD : va_D (pw_A L s.heap.size) (va_pl (L ++ [qn]) f_2) := by rw [ef_2]; exact hD
  have hf_2_q : f_2 q = .inr (3, [.ref qn, .null, .null, .null, .int 0, .int 0, .int 0, .int 0]) := by rw [ef_2]; exact va_up_self _ _ _
  have hf_2_qn := (show f_2 qn = f_1 qn by rw [ef_2]; exact va_up_ne _ _ (fun z => n_qn (z ▸ hq0))).trans hf_1_qn
  refine lv_aload_n hx hb dX3_init_13 rfl (lv_at hl 0 rfl) ?_
  refine lv_bipush (v := 12) hx hb dX3_init_14 (by decide) ?_
  refine pw_newq (n := 12) (N' := 12) hx hb hown (hts _ mw_16) hX.2.1 hK hP hD hS hA 5 rfl (by decide) (by decide) (by decide) (Nat.le_of_ble_eq_true rfl) (Nat.le_of_ble_eq_true rfl) dX3_init_16 (fun qm H hqm hP hD hS => ?_)
  refine W.widen (k := 2) (n := 18) (Nat.le_refl _) (Nat.le_of_ble_eq_true rfl) ?_
  obtain ⟨f_3, ef_3⟩ : ∃ zz : Nat → va_E, zz = va_up f_2 qm (.inl (cs 5, 12, .inr (.inr (.inr (.inr (fun _ => none)))))) := ⟨_, rfl⟩
  have hP : va_P G vwCl (va_pl ((L ++ [qn]) ++ [qm]) f_3) H := by rw [ef_3]; exact hP
  have hD : va_D (pw_A L s.heap.size) (va_pl ((L ++ [qn]) ++ [qm]) f_3) := by rw [ef_3]; exact hD
  have mf_3_q : q ∈ ((L ++ [qn]) ++ [qm]) := List.mem_append_left _ mf_1_q
  have hf_3_q := (show f_3 q = f_2 q by rw [ef_3]; exact va_up_ne _ _ (fun h => hqm (h ▸ mf_1_q))).trans hf_2_q
  have mf_3_qn : qn ∈ ((L ++ [qn]) ++ [qm]) := List.mem_append_left _ mf_1_qn
  have hf_3_qn := (show f_3 qn = f_2 qn by rw [ef_3]; exact va_up_ne _ _ (fun h => hqm (h ▸ mf_1_qn))).trans hf_2_qn
  have mf_3_qm : qm ∈ ((L ++ [qn]) ++ [qm]) := List.mem_append_right _ (List.mem_singleton.mpr rfl)
  have hf_3_qm : f_3 qm = .inl (cs 5, 12, .inr (.inr (.inr (.inr (fun _ => none))))) := by rw [ef_3]; exact va_up_self _ _ _
  have n_qm : qm ∉ L := fun z => hqm (List.mem_append_left _ (z))
  refine pw_putF (ty := .array (.object "PaperStates$Move")) (ci := 3) (v := .ref qm) (C := RX3) (T := TX3) (N := 8) hx hb hts inX3 tyX3 tyX3_ok nmX3 hown hK hP hD hS mf_3_q hf_3_q rfl 1 (by decide) (hts _ mw_34) (fun _ h9 => h9) rfl hin rfl (by decide +kernel) rfl rfl (Nat.le_of_ble_eq_true rfl) dX3_init_19 (fun H locs hP hD hS => ?_)
  obtain ⟨f_4, ef_4⟩ : ∃ zz : Nat → va_E, zz = va_up f_3 q (.inr (3, [.ref qn, .ref qm, .null, .null, .int 0, .int 0, .int 0, .int 0])) := ⟨_, rfl⟩
  have hP : va_P G vwCl (va_pl ((L ++ [qn]) ++ [qm]) f_4) H := by rw [ef_4]; exact hP
  have hD : va_D (pw_A L s.heap.size) (va_pl ((L ++ [qn]) ++ [qm]) f_4) := by rw [ef_4]; exact hD
  have hf_4_q : f_4 q = .inr (3, [.ref qn, .ref qm, .null, .null, .int 0, .int 0, .int 0, .int 0]) := by rw [ef_4]; exact va_up_self _ _ _
  have hf_4_qn := (show f_4 qn = f_3 qn by rw [ef_4]; exact va_up_ne _ _ (fun z => n_qn (z ▸ hq0))).trans hf_3_qn
  have hf_4_qm := (show f_4 qm = f_3 qm by rw [ef_4]; exact va_up_ne _ _ (fun z => n_qm (z ▸ hq0))).trans hf_3_qm
  refine lv_aload_n hx hb dX3_init_22 rfl (lv_at hl 0 rfl) ?_
  refine lv_bipush (v := 40) hx hb dX3_init_23 (by decide) ?_
  refine pw_newa (atype := .boolean) (ty := .boolean) (a0 := (40, .inl (fun _ => 0))) hx hb (hts _ mw_31) rfl hK hP hD hS hA 2 rfl (fun _ h => h) (fun _ => rfl) (by decide) (by decide) (by decide) (Nat.le_of_ble_eq_true rfl) (Nat.le_of_ble_eq_true rfl) dX3_init_25 (fun q_6 H hq_6 hP hD hS => ?_)
  refine W.widen (k := 3) (n := 58) (Nat.le_refl _) (Nat.le_of_ble_eq_true rfl) ?_
  obtain ⟨f_5, ef_5⟩ : ∃ zz : Nat → va_E, zz = va_up f_4 q_6 (.inl (cs 2, 40, .inl (fun _ => 0))) := ⟨_, rfl⟩
  have hP : va_P G vwCl (va_pl (((L ++ [qn]) ++ [qm]) ++ [q_6]) f_5) H := by rw [ef_5]; exact hP
  have hD : va_D (pw_A L s.heap.size) (va_pl (((L ++ [qn]) ++ [qm]) ++ [q_6]) f_5) := by rw [ef_5]; exact hD
  have mf_5_q : q ∈ (((L ++ [qn]) ++ [qm]) ++ [q_6]) := List.mem_append_left _ mf_3_q
  have hf_5_q := (show f_5 q = f_4 q by rw [ef_5]; exact va_up_ne _ _ (fun h => hq_6 (h ▸ mf_3_q))).trans hf_4_q
  have mf_5_qn : qn ∈ (((L ++ [qn]) ++ [qm]) ++ [q_6]) := List.mem_append_left _ mf_3_qn
  have hf_5_qn := (show f_5 qn = f_4 qn by rw [ef_5]; exact va_up_ne _ _ (fun h => hq_6 (h ▸ mf_3_qn))).trans hf_4_qn
  have mf_5_qm : qm ∈ (((L ++ [qn]) ++ [qm]) ++ [q_6]) := List.mem_append_left _ mf_3_qm
  have hf_5_qm := (show f_5 qm = f_4 qm by rw [ef_5]; exact va_up_ne _ _ (fun h => hq_6 (h ▸ mf_3_qm))).trans hf_4_qm
  have mf_5_q_6 : q_6 ∈ (((L ++ [qn]) ++ [qm]) ++ [q_6]) := List.mem_append_right _ (List.mem_singleton.mpr rfl)
  have hf_5_q_6 : f_5 q_6 = .inl (cs 2, 40, .inl (fun _ => 0)) := by rw [ef_5]; exact va_up_self _ _ _
  have n_q_6 : q_6 ∉ L := fun z => hq_6 (List.mem_append_left _ (List.mem_append_left _ (z)))
  refine pw_putF (ty := .array .boolean) (ci := 3) (v := .ref q_6) (C := RX3) (T := TX3) (N := 8) hx hb hts inX3 tyX3 tyX3_ok nmX3 hown hK hP hD hS mf_5_q hf_5_q rfl 2 (by decide) (hts _ mw_35) (fun _ h9 => h9) rfl hin rfl (by decide +kernel) rfl rfl (Nat.le_of_ble_eq_true rfl) dX3_init_27 (fun H locs hP hD hS => ?_)
  obtain ⟨f_7, ef_7⟩ : ∃ zz : Nat → va_E, zz = va_up f_5 q (.inr (3, [.ref qn, .ref qm, .ref q_6, .null, .int 0, .int 0, .int 0, .int 0])) := ⟨_, rfl⟩
  have hP : va_P G vwCl (va_pl (((L ++ [qn]) ++ [qm]) ++ [q_6]) f_7) H := by rw [ef_7]; exact hP
  have hD : va_D (pw_A L s.heap.size) (va_pl (((L ++ [qn]) ++ [qm]) ++ [q_6]) f_7) := by rw [ef_7]; exact hD
  have hf_7_q : f_7 q = .inr (3, [.ref qn, .ref qm, .ref q_6, .null, .int 0, .int 0, .int 0, .int 0]) := by rw [ef_7]; exact va_up_self _ _ _
  have hf_7_qn := (show f_7 qn = f_5 qn by rw [ef_7]; exact va_up_ne _ _ (fun z => n_qn (z ▸ hq0))).trans hf_5_qn
  have hf_7_qm := (show f_7 qm = f_5 qm by rw [ef_7]; exact va_up_ne _ _ (fun z => n_qm (z ▸ hq0))).trans hf_5_qm
  have hf_7_q_6 := (show f_7 q_6 = f_5 q_6 by rw [ef_7]; exact va_up_ne _ _ (fun z => n_q_6 (z ▸ hq0))).trans hf_5_q_6
  refine lv_aload_n hx hb dX3_init_30 rfl (lv_at hl 0 rfl) ?_
  refine pw_new (ci := 2) (C := RX2) (T := TX2) (N := 2) (fs := [.null, .int 0]) hx hb hts inX2 tyX2 tyX2_ok hown (hts _ mw_18) (hts _ mw_19) (hts _ mw_2) hK hP hD hS hA rfl (by decide) (Nat.le_of_ble_eq_true rfl) (Nat.le_of_ble_eq_true rfl) dX3_init_31 (fun qp H hqp hP hD hS => ?_)
  refine W.widen (k := 4) (n := 60) (Nat.le_refl _) (Nat.le_of_ble_eq_true rfl) ?_
  obtain ⟨f_8, ef_8⟩ : ∃ zz : Nat → va_E, zz = va_up f_7 qp (.inr (2, [.null, .int 0])) := ⟨_, rfl⟩
  have hP : va_P G vwCl (va_pl ((((L ++ [qn]) ++ [qm]) ++ [q_6]) ++ [qp]) f_8) H := by rw [ef_8]; exact hP
  have hD : va_D (pw_A L s.heap.size) (va_pl ((((L ++ [qn]) ++ [qm]) ++ [q_6]) ++ [qp]) f_8) := by rw [ef_8]; exact hD
  have mf_8_q : q ∈ ((((L ++ [qn]) ++ [qm]) ++ [q_6]) ++ [qp]) := List.mem_append_left _ mf_5_q
  have hf_8_q := (show f_8 q = f_7 q by rw [ef_8]; exact va_up_ne _ _ (fun h => hqp (h ▸ mf_5_q))).trans hf_7_q
  have mf_8_qn : qn ∈ ((((L ++ [qn]) ++ [qm]) ++ [q_6]) ++ [qp]) := List.mem_append_left _ mf_5_qn
  have hf_8_qn := (show f_8 qn = f_7 qn by rw [ef_8]; exact va_up_ne _ _ (fun h => hqp (h ▸ mf_5_qn))).trans hf_7_qn
  have mf_8_qm : qm ∈ ((((L ++ [qn]) ++ [qm]) ++ [q_6]) ++ [qp]) := List.mem_append_left _ mf_5_qm
  have hf_8_qm := (show f_8 qm = f_7 qm by rw [ef_8]; exact va_up_ne _ _ (fun h => hqp (h ▸ mf_5_qm))).trans hf_7_qm
  have mf_8_q_6 : q_6 ∈ ((((L ++ [qn]) ++ [qm]) ++ [q_6]) ++ [qp]) := List.mem_append_left _ mf_5_q_6
  have hf_8_q_6 := (show f_8 q_6 = f_7 q_6 by rw [ef_8]; exact va_up_ne _ _ (fun h => hqp (h ▸ mf_5_q_6))).trans hf_7_q_6
  have mf_8_qp : qp ∈ ((((L ++ [qn]) ++ [qm]) ++ [q_6]) ++ [qp]) := List.mem_append_right _ (List.mem_singleton.mpr rfl)
  have hf_8_qp : f_8 qp = .inr (2, [.null, .int 0]) := by rw [ef_8]; exact va_up_self _ _ _
  have n_qp : qp ∉ L := fun z => hqp (List.mem_append_left _ (List.mem_append_left _ (List.mem_append_left _ (z))))
  refine lv_dup hx hb dX3_init_34 rfl ?_
  refine pc_callIN (As := []) (rest := [.ref qp, .ref q]) ⟨hx, hb, hml, hown, hts⟩ (k_P_init l G cs ((((L ++ [qn]) ++ [qm]) ++ [q_6]) ++ [qp]) f_8 _ qp mf_8_qp hf_8_qp) ⟨va_cnB 0 hts (wg_I mw_22) rfl rfl rfl hX.2.2 (hts _ mw_2) (by decide +kernel) ⟨Nat.le_of_ble_eq_true rfl, Nat.le_of_ble_eq_true rfl⟩, rfl, hts _ mw_21⟩ hK hP hD hS hA px_T (fun _ _ _ => trivial) rfl hl.1 rfl (lv_room (Nat.le_of_ble_eq_true rfl)) dX3_init_35 ⟨Nat.le_of_ble_eq_true rfl, Nat.le_of_ble_eq_true rfl⟩ (fun L1 f1 H locs hpp hP hD hS => ?_)
  obtain ⟨qw, hnw, hsub, hkeep, hPP⟩ := hpp
  have hkeep : ∀ a, a ∈ ((((L ++ [qn]) ++ [qm]) ++ [q_6]) ++ [qp]) → a ≠ qp → f1 a = f_8 a := hkeep
  have mm_q : q ∈ L1 := hsub _ mf_8_q
  have ee_q := (hkeep q mf_8_q (fun z => hqp (z ▸ mf_5_q))).trans hf_8_q
  have mm_qn : qn ∈ L1 := hsub _ mf_8_qn
  have ee_qn := (hkeep qn mf_8_qn (fun z => hqp (z ▸ mf_5_qn))).trans hf_8_qn
  have mm_qm : qm ∈ L1 := hsub _ mf_8_qm
  have ee_qm := (hkeep qm mf_8_qm (fun z => hqp (z ▸ mf_5_qm))).trans hf_8_qm
  have mm_q_6 : q_6 ∈ L1 := hsub _ mf_8_q_6
  have ee_q_6 := (hkeep q_6 mf_8_q_6 (fun z => hqp (z ▸ mf_5_q_6))).trans hf_8_q_6
  refine pw_putF (ty := .object "PaperStates$Paper") (ci := 3) (v := .ref qp) (C := RX3) (T := TX3) (N := 8) hx hb hts inX3 tyX3 tyX3_ok nmX3 hown hK hP hD hS mm_q ee_q rfl 3 (by decide) (hts _ mw_36) (fun _ h9 => h9) rfl hin rfl (by decide +kernel) rfl rfl (Nat.le_of_ble_eq_true rfl) dX3_init_38 (fun H locs hP hD hS => ?_)
  obtain ⟨f_9, ef_9⟩ : ∃ zz : Nat → va_E, zz = va_up f1 q (.inr (3, [.ref qn, .ref qm, .ref q_6, .ref qp, .int 0, .int 0, .int 0, .int 0])) := ⟨_, rfl⟩
  have hP : va_P G vwCl (va_pl L1 f_9) H := by rw [ef_9]; exact hP
  have hD : va_D (pw_A L s.heap.size) (va_pl L1 f_9) := by rw [ef_9]; exact hD
  have hf_9_q : f_9 q = .inr (3, [.ref qn, .ref qm, .ref q_6, .ref qp, .int 0, .int 0, .int 0, .int 0]) := by rw [ef_9]; exact va_up_self _ _ _
  have hf_9_qn := (show f_9 qn = f1 qn by rw [ef_9]; exact va_up_ne _ _ (fun z => n_qn (z ▸ hq0))).trans ee_qn
  have hf_9_qm := (show f_9 qm = f1 qm by rw [ef_9]; exact va_up_ne _ _ (fun z => n_qm (z ▸ hq0))).trans ee_qm
  have hf_9_q_6 := (show f_9 q_6 = f1 q_6 by rw [ef_9]; exact va_up_ne _ _ (fun z => n_q_6 (z ▸ hq0))).trans ee_q_6
  refine lv_aload_n hx hb dX3_init_41 rfl (lv_at hl 0 rfl) ?_
  refine lv_sipush (v := 365) hx hb dX3_init_42 (by decide) ?_
  refine pw_put (ty := .int) (ci := 3) (v := .int 365) (C := RX3) (T := TX3) (N := 8) hx hb hts inX3 tyX3 tyX3_ok nmX3 hown hK hP hD hS mm_q hf_9_q rfl 7 (by decide) (hts _ mw_40) (fun _ h9 => h9) rfl (by decide +kernel) rfl rfl (Nat.le_of_ble_eq_true rfl) dX3_init_45 (fun H locs hP hD hS => ?_)
  obtain ⟨f_10, ef_10⟩ : ∃ zz : Nat → va_E, zz = va_up f_9 q (.inr (3, [.ref qn, .ref qm, .ref q_6, .ref qp, .int 0, .int 0, .int 0, .int 365])) := ⟨_, rfl⟩
  have hP : va_P G vwCl (va_pl L1 f_10) H := by rw [ef_10]; exact hP
  have hD : va_D (pw_A L s.heap.size) (va_pl L1 f_10) := by rw [ef_10]; exact hD
  have hf_10_q : f_10 q = .inr (3, [.ref qn, .ref qm, .ref q_6, .ref qp, .int 0, .int 0, .int 0, .int 365]) := by rw [ef_10]; exact va_up_self _ _ _
  have hf_10_qn := (show f_10 qn = f_9 qn by rw [ef_10]; exact va_up_ne _ _ (fun z => n_qn (z ▸ hq0))).trans hf_9_qn
  have hf_10_qm := (show f_10 qm = f_9 qm by rw [ef_10]; exact va_up_ne _ _ (fun z => n_qm (z ▸ hq0))).trans hf_9_qm
  have hf_10_q_6 := (show f_10 q_6 = f_9 q_6 by rw [ef_10]; exact va_up_ne _ _ (fun z => n_q_6 (z ▸ hq0))).trans hf_9_q_6
  have hqw : qw ∉ L := fun z => hnw (List.mem_append_left _ (List.mem_append_left _ (List.mem_append_left _ (List.mem_append_left _ (z)))))
  have kq : ∀ x, x ≠ q → f_10 x = f1 x := fun x z => by rw [ef_10, va_up_ne _ _ z, ef_9, va_up_ne _ _ z]
  have n01 : q ≠ qn := fun z => n_qn (z ▸ hq0)
  have n02 : q ≠ qm := fun z => n_qm (z ▸ hq0)
  have n03 : q ≠ q_6 := fun z => n_q_6 (z ▸ hq0)
  have n04 : q ≠ qp := fun z => n_qp (z ▸ hq0)
  have n05 : q ≠ qw := fun z => hqw (z ▸ hq0)
  have n12 : qn ≠ qm := fun z => hqm (by rw [← z]; simp)
  have n13 : qn ≠ q_6 := fun z => hq_6 (by rw [← z]; simp)
  have n14 : qn ≠ qp := fun z => hqp (by rw [← z]; simp)
  have n15 : qn ≠ qw := fun z => hnw (by rw [← z]; simp)
  have n23 : qm ≠ q_6 := fun z => hq_6 (by rw [← z]; simp)
  have n24 : qm ≠ qp := fun z => hqp (by rw [← z]; simp)
  have n25 : qm ≠ qw := fun z => hnw (by rw [← z]; simp)
  have n34 : q_6 ≠ qp := fun z => hqp (by rw [← z]; simp)
  have n35 : q_6 ≠ qw := fun z => hnw (by rw [← z]; simp)
  have n45 : qp ≠ qw := fun z => hnw (by rw [← z]; simp)
  obtain ⟨⟨pm1, pm2⟩, pe1, pe2⟩ := hPP
  have c6 : ∀ r, ps_use 0 0 r → r = 0 ∨ r = 1 ∨ r = 2 ∨ r = 3 ∨ r = 4 ∨ r = 5 := fun r hr => by unfold ps_use at hr; omega
  refine pc_retv hx hb hr hlocks hP hD hS dX3_init_48 ⟨fun r => if r = 0 then q else if r = 1 then qn else if r = 2 then qm else if r = 3 then q_6 else if r = 4 then qp else qw, rfl, ⟨⟨Nat.zero_le _, Nat.zero_le _⟩, fun r hr => ?_, fun r r' hr hr' e => ?_, ?_, ?_, ?_, ?_, ⟨⟨⟨pm1, pm2⟩, ?_, ?_⟩, Nat.zero_le _⟩, fun i hi => absurd hi (Nat.not_lt_zero _), fun j hj => absurd hj (Nat.not_lt_zero _)⟩⟩
  · rcases c6 r hr with rfl | rfl | rfl | rfl | rfl | rfl
    · exact mm_q
    · exact mm_qn
    · exact mm_qm
    · exact mm_q_6
    · exact pm1
    · exact pm2
  · rcases c6 r hr with rfl | rfl | rfl | rfl | rfl | rfl <;> rcases c6 r' hr' with rfl | rfl | rfl | rfl | rfl | rfl <;> first
      | rfl
      | exact absurd e n01
      | exact absurd e.symm n01
      | exact absurd e n02
      | exact absurd e.symm n02
      | exact absurd e n03
      | exact absurd e.symm n03
      | exact absurd e n04
      | exact absurd e.symm n04
      | exact absurd e n05
      | exact absurd e.symm n05
      | exact absurd e n12
      | exact absurd e.symm n12
      | exact absurd e n13
      | exact absurd e.symm n13
      | exact absurd e n14
      | exact absurd e.symm n14
      | exact absurd e n15
      | exact absurd e.symm n15
      | exact absurd e n23
      | exact absurd e.symm n23
      | exact absurd e n24
      | exact absurd e.symm n24
      | exact absurd e n25
      | exact absurd e.symm n25
      | exact absurd e n34
      | exact absurd e.symm n34
      | exact absurd e n35
      | exact absurd e.symm n35
      | exact absurd e n45
      | exact absurd e.symm n45
  · exact hf_10_q
  · rw [ps_g0]; exact (kq qn (Ne.symm n01)).trans ee_qn
  · rw [ps_g0]; exact (kq qm (Ne.symm n02)).trans ee_qm
  · exact (kq q_6 (Ne.symm n03)).trans ee_q_6
  · exact (kq qp (Ne.symm n04)).trans pe1
  · exact (kq qw (Ne.symm n05)).trans pe2
