/-! The class: the printed paper. Laid by wip/gen/cprint.py. -/
theorem i2l_n {x : Int32} (h : ¬ x < 0) : x.toInt64 = lN x.toNatClampNeg := by
  obtain ⟨j, hj, rfl⟩ := nI_of h
  rw [nI_clamp hj, nI_l hj]
theorem nn_63 {x : Int32} (h : ¬ x < 0) : x.toNatClampNeg < 2 ^ 63 := by
  obtain ⟨j, hj, rfl⟩ := nI_of h
  rw [nI_clamp hj]
  exact Nat.lt_trans hj (by decide)
theorem st_nn (an : Nat → Int32) (to t : Int32) : ¬ sp_state an to t < 0 := by
  obtain ⟨s, hs, e⟩ := state_lt an to t
  rw [e]
  exact nI_pos (by omega)
theorem tyl_h {cs : Nat → ClassId} {L : List Nat} {f : Nat → va_E} {ad : Nat → Nat} {t lm : Int32} {nN nM : Nat} {ns : Nat → NS} {ms : Nat → MS} {rt : Nat → Int32} {pg : sp_P} (h : PS cs L f ad t lm nN nM ns ms rt pg) : ad 4 ≠ ad 5 := h.ne (pu_lo (by decide)) (pu_lo (by decide)) (by decide)

set_option maxHeartbeats 4000000 in
set_option maxRecDepth 100000 in
theorem k_C_wHead (l : Launch) (G : va_G) (cs : Nat → ClassId) (L : List Nat) (f : Nat → va_E) (sz : Nat) (ad : Nat → Nat) (t lm : Int32) (nN nM : Nat) (ns : Nat → NS) (ms : Nat → MS) (rt : Nat → Int32) (pg : sp_P) (i : Nat) (h0 : PS cs L f ad t lm nN nM ns ms rt pg) (hi : i < nN) (hpn : (ns i).1 = lN (ns i).1.toNatClampNeg ∧ (ns i).1.toNatClampNeg < 2 ^ 63 ∧ ¬ (ns i).2.1 < 0 ∧ ¬ (ns i).2.2.1 < 0) : Met l yX3_writeHead (Cond.code yX3_writeHead cX3_writeHead 3 none :: wg) ({ frames := 2, cells := 0, slots := 0, locals := 48 }) (pc_P [.ref (ad 0), .int (nI i), .ref (ad (8 + 4 * i))] G vwCl (tyl cs) L f sz (fun _ => True)) (va_Qv (fun u => u = (L, pp_f cs f (ad 4) (ad 5) (sp_adds pg (tC_head t i (ns i))))) (pc_B G vwCl L sz) (pw_A L sz)) 0 0 (pw_A L sz) := by
  refine Met.ofW (cc := cX3_writeHead) (maxL := 3) (ret := none) (by decide) rfl ?_
  intro p e s m args below meth c s₁ B hml hv
  obtain ⟨rfl, hsz, hP, hK, hD0, hX⟩ := hv
  have hx := B.exec
  have hb := B.bytes
  have hr := B.returns
  have hts0 := atoms_spec (ws := (Cond.code yX3_writeHead cX3_writeHead 3 none :: wg)) B.pre
  have hts := fun (w : Cond) (h : w ∈ wg) => hts0 w (List.mem_cons_of_mem _ h)
  have hown : s.vm.findClass RX3 = some m.cls := findClass_of_methodNamed B.named
  have hlocks := B.notSynchronized
  subst hsz
  have hD := pw_selfD (sz := s.heap.size) hD0
  have hA : ∀ q : Nat, s.heap.size ≤ q → pw_A L s.heap.size q := fun q h => Or.inr h
  have hS : va_S (pw_A L s.heap.size) s.heap s.heap [] := va_S.rf
  have hl := lv_entry ([.ref (ad 0), .int (nI i), .ref (ad (8 + 4 * i))]) (n := 3) (Nat.le_of_ble_eq_true rfl)
  rw [lg_entry_eq]
  generalize (lg_sl ([.ref (ad 0), .int (nI i), .ref (ad (8 + 4 * i))]) ++ List.replicate (3 - (lg_sl ([.ref (ad 0), .int (nI i), .ref (ad (8 + 4 * i))])).length) Slot.unset).toArray = ls at hl ⊢
  have hl : lv_has ls 3 [(0, .ref (ad 0)), (1, .int (nI i)), (2, .ref (ad (8 + 4 * i)))] := hl
  have hN6 := h0.nN6
  have hM12 := h0.nM12
  have m0 := h0.mem (pu_lo (r := 0) (by decide))
  have e0 := h0.e0
  have m1 := h0.mem (pu_lo (r := 1) (by decide))
  have e1 := h0.e1
  have m2 := h0.mem (pu_lo (r := 2) (by decide))
  have e2 := h0.e2
  have m3 := h0.mem (pu_lo (r := 3) (by decide))
  have e3 := h0.e3
  have hne := tyl_h h0
  refine lv_aload_n hx hb dX3_writeHead_0 rfl (lv_at hl 0 rfl) ?_
  refine pw_get (ci := 3) (C := RX3) (T := TX3) (N := 8) hx hb hts inX3 hown hK hP (h0.mem (pu_lo (by decide))) h0.e0 rfl 3 (by decide) (hts _ mw_36) (fun _ h9 => h9) rfl dX3_writeHead_1 ?_
  refine lv_iload_n hx hb dX3_writeHead_4 rfl (lv_at hl 1 rfl) ?_
  refine lv_i2l hx hb dX3_writeHead_5 rfl ?_
  have en6 : (nI i).toInt64 = lN i := nI_l (by omega)
  rw [en6]
  refine pc_callVv (As := [.long (lN i)]) (rest := []) ⟨hx, hb, hml, hown, hts⟩ (k_P_num l G cs L f _ (ad 4) (ad 5) pg.1 pg.2 i h0.pp h0.p8 (by omega)) (cwV 1 hts (wg_V mw_295 mw_296 mw_297 mw_2 mw_298) rfl rfl rfl (by decide +kernel) ⟨Nat.le_of_ble_eq_true rfl, Nat.le_of_ble_eq_true rfl⟩) hK hP hD hS hA h0.pp.1.1 h0.pp.2.1 rfl px_T (fun _ _ _ => trivial) rfl hl.1 rfl (lv_room (Nat.le_of_ble_eq_true rfl)) dX3_writeHead_6 ⟨Nat.le_of_ble_eq_true rfl, Nat.le_of_ble_eq_true rfl⟩ (fun L1 f1 H locs hr_1 hP hD hS => ?_)
  obtain ⟨hL1, hf1⟩ := Prod.mk.inj hr_1
  rw [hL1, hf1] at hP hD
  obtain ⟨p1, ep1⟩ : ∃ z : sp_P, z = sp_adds pg (tx_n i) := ⟨_, rfl⟩
  have ed1 : sp_dig i 10 false (pg.1, pg.2) = p1 := by rw [ep1]; exact sp_dig_tx _ 10 false _
  rw [ed1] at hP hD
  have h81 : p1.1 ≤ 208 := by rw [ep1]; exact sp_adds_le _ _ h0.p8
  have hq1 := h0.paper p1 h81
  refine lv_aload_n hx hb dX3_writeHead_9 rfl (lv_at hl 0 rfl) ?_
  refine pw_get (ci := 3) (C := RX3) (T := TX3) (N := 8) hx hb hts inX3 hown hK hP (hq1.mem (pu_lo (by decide))) hq1.e0 rfl 3 (by decide) (hts _ mw_36) (fun _ h9 => h9) rfl dX3_writeHead_10 ?_
  refine lv_bipush (v := 32) hx hb dX3_writeHead_13 (by decide) ?_
  refine pc_callVv (As := [.int 32]) (rest := []) ⟨hx, hb, hml, hown, hts⟩ (k_P_add l G cs L (pp_f cs f (ad 4) (ad 5) p1) _ (ad 4) (ad 5) p1.1 p1.2 32 hq1.pp hq1.p8) (cwV 1 hts (wg_V mw_306 mw_303 mw_304 mw_2 mw_305) rfl rfl rfl (by decide +kernel) ⟨Nat.le_of_ble_eq_true rfl, Nat.le_of_ble_eq_true rfl⟩) hK hP hD hS hA hq1.pp.1.1 hq1.pp.2.1 rfl px_T (fun _ _ _ => trivial) rfl hl.1 rfl (lv_room (Nat.le_of_ble_eq_true rfl)) dX3_writeHead_15 ⟨Nat.le_of_ble_eq_true rfl, Nat.le_of_ble_eq_true rfl⟩ (fun L1 f1 H locs hr_2 hP hD hS => ?_)
  obtain ⟨hL1, hf1⟩ := Prod.mk.inj hr_2
  rw [hL1, hf1] at hP hD
  rw [pp_pp hne] at hP hD
  obtain ⟨p2, ep2⟩ : ∃ z : sp_P, z = sp_add p1 32 := ⟨_, rfl⟩
  have ed2 : sp_add (p1.1, p1.2) 32 = p2 := by rw [ep2]
  rw [ed2] at hP hD
  have h82 : p2.1 ≤ 208 := by rw [ep2]; exact sp_add_le _ _ hq1.p8
  have hq2 := h0.paper p2 h82
  refine lv_aload_n hx hb dX3_writeHead_18 rfl (lv_at hl 0 rfl) ?_
  refine pw_get (ci := 3) (C := RX3) (T := TX3) (N := 8) hx hb hts inX3 hown hK hP (hq2.mem (pu_lo (by decide))) hq2.e0 rfl 3 (by decide) (hts _ mw_36) (fun _ h9 => h9) rfl dX3_writeHead_19 ?_
  refine lv_aload_n hx hb dX3_writeHead_22 rfl (lv_at hl 2 rfl) ?_
  refine pw_get (ci := 1) (C := RX1) (T := TX1) (N := 7) hx hb hts inX1 hown hK hP (hq2.nt hi).1.1 (hq2.nt hi).2.1.1 rfl 0 (by decide) (hts _ mw_82) (fun _ h9 => h9) rfl dX3_writeHead_23 ?_
  have en26 : (ns i).1 = lN ((ns i).1.toNatClampNeg) := hpn.1
  rw [en26]
  refine pc_callVv (As := [.long (lN ((ns i).1.toNatClampNeg))]) (rest := []) ⟨hx, hb, hml, hown, hts⟩ (k_P_num l G cs L (pp_f cs f (ad 4) (ad 5) p2) _ (ad 4) (ad 5) p2.1 p2.2 ((ns i).1.toNatClampNeg) hq2.pp hq2.p8 hpn.2.1) (cwV 1 hts (wg_V mw_295 mw_296 mw_297 mw_2 mw_298) rfl rfl rfl (by decide +kernel) ⟨Nat.le_of_ble_eq_true rfl, Nat.le_of_ble_eq_true rfl⟩) hK hP hD hS hA hq2.pp.1.1 hq2.pp.2.1 rfl px_T (fun _ _ _ => trivial) rfl hl.1 rfl (lv_room (Nat.le_of_ble_eq_true rfl)) dX3_writeHead_26 ⟨Nat.le_of_ble_eq_true rfl, Nat.le_of_ble_eq_true rfl⟩ (fun L1 f1 H locs hr_3 hP hD hS => ?_)
  obtain ⟨hL1, hf1⟩ := Prod.mk.inj hr_3
  rw [hL1, hf1] at hP hD
  rw [pp_pp hne] at hP hD
  obtain ⟨p3, ep3⟩ : ∃ z : sp_P, z = sp_adds p2 (tx_n ((ns i).1.toNatClampNeg)) := ⟨_, rfl⟩
  have ed3 : sp_dig ((ns i).1.toNatClampNeg) 10 false (p2.1, p2.2) = p3 := by rw [ep3]; exact sp_dig_tx _ 10 false _
  rw [ed3] at hP hD
  have h83 : p3.1 ≤ 208 := by rw [ep3]; exact sp_adds_le _ _ hq2.p8
  have hq3 := h0.paper p3 h83
  refine lv_aload_n hx hb dX3_writeHead_29 rfl (lv_at hl 0 rfl) ?_
  refine pw_get (ci := 3) (C := RX3) (T := TX3) (N := 8) hx hb hts inX3 hown hK hP (hq3.mem (pu_lo (by decide))) hq3.e0 rfl 3 (by decide) (hts _ mw_36) (fun _ h9 => h9) rfl dX3_writeHead_30 ?_
  refine lv_bipush (v := 32) hx hb dX3_writeHead_33 (by decide) ?_
  refine pc_callVv (As := [.int 32]) (rest := []) ⟨hx, hb, hml, hown, hts⟩ (k_P_add l G cs L (pp_f cs f (ad 4) (ad 5) p3) _ (ad 4) (ad 5) p3.1 p3.2 32 hq3.pp hq3.p8) (cwV 1 hts (wg_V mw_306 mw_303 mw_304 mw_2 mw_305) rfl rfl rfl (by decide +kernel) ⟨Nat.le_of_ble_eq_true rfl, Nat.le_of_ble_eq_true rfl⟩) hK hP hD hS hA hq3.pp.1.1 hq3.pp.2.1 rfl px_T (fun _ _ _ => trivial) rfl hl.1 rfl (lv_room (Nat.le_of_ble_eq_true rfl)) dX3_writeHead_35 ⟨Nat.le_of_ble_eq_true rfl, Nat.le_of_ble_eq_true rfl⟩ (fun L1 f1 H locs hr_4 hP hD hS => ?_)
  obtain ⟨hL1, hf1⟩ := Prod.mk.inj hr_4
  rw [hL1, hf1] at hP hD
  rw [pp_pp hne] at hP hD
  obtain ⟨p4, ep4⟩ : ∃ z : sp_P, z = sp_add p3 32 := ⟨_, rfl⟩
  have ed4 : sp_add (p3.1, p3.2) 32 = p4 := by rw [ep4]
  rw [ed4] at hP hD
  have h84 : p4.1 ≤ 208 := by rw [ep4]; exact sp_add_le _ _ hq3.p8
  have hq4 := h0.paper p4 h84
  refine lv_aload_n hx hb dX3_writeHead_38 rfl (lv_at hl 0 rfl) ?_
  refine pw_get (ci := 3) (C := RX3) (T := TX3) (N := 8) hx hb hts inX3 hown hK hP (hq4.mem (pu_lo (by decide))) hq4.e0 rfl 3 (by decide) (hts _ mw_36) (fun _ h9 => h9) rfl dX3_writeHead_39 ?_
  refine lv_aload_n hx hb dX3_writeHead_42 rfl (lv_at hl 2 rfl) ?_
  refine pw_get (ci := 1) (C := RX1) (T := TX1) (N := 7) hx hb hts inX1 hown hK hP (hq4.nt hi).1.1 (hq4.nt hi).2.1.1 rfl 1 (by decide) (hts _ mw_84) (fun _ h9 => h9) rfl dX3_writeHead_43 ?_
  refine lv_i2l hx hb dX3_writeHead_46 rfl ?_
  have en47 : ((ns i).2.1).toInt64 = lN ((ns i).2.1.toNatClampNeg) := i2l_n hpn.2.2.1
  rw [en47]
  refine pc_callVv (As := [.long (lN ((ns i).2.1.toNatClampNeg))]) (rest := []) ⟨hx, hb, hml, hown, hts⟩ (k_P_num l G cs L (pp_f cs f (ad 4) (ad 5) p4) _ (ad 4) (ad 5) p4.1 p4.2 ((ns i).2.1.toNatClampNeg) hq4.pp hq4.p8 (nn_63 hpn.2.2.1)) (cwV 1 hts (wg_V mw_295 mw_296 mw_297 mw_2 mw_298) rfl rfl rfl (by decide +kernel) ⟨Nat.le_of_ble_eq_true rfl, Nat.le_of_ble_eq_true rfl⟩) hK hP hD hS hA hq4.pp.1.1 hq4.pp.2.1 rfl px_T (fun _ _ _ => trivial) rfl hl.1 rfl (lv_room (Nat.le_of_ble_eq_true rfl)) dX3_writeHead_47 ⟨Nat.le_of_ble_eq_true rfl, Nat.le_of_ble_eq_true rfl⟩ (fun L1 f1 H locs hr_5 hP hD hS => ?_)
  obtain ⟨hL1, hf1⟩ := Prod.mk.inj hr_5
  rw [hL1, hf1] at hP hD
  rw [pp_pp hne] at hP hD
  obtain ⟨p5, ep5⟩ : ∃ z : sp_P, z = sp_adds p4 (tx_n ((ns i).2.1.toNatClampNeg)) := ⟨_, rfl⟩
  have ed5 : sp_dig ((ns i).2.1.toNatClampNeg) 10 false (p4.1, p4.2) = p5 := by rw [ep5]; exact sp_dig_tx _ 10 false _
  rw [ed5] at hP hD
  have h85 : p5.1 ≤ 208 := by rw [ep5]; exact sp_adds_le _ _ hq4.p8
  have hq5 := h0.paper p5 h85
  refine lv_aload_n hx hb dX3_writeHead_50 rfl (lv_at hl 0 rfl) ?_
  refine pw_get (ci := 3) (C := RX3) (T := TX3) (N := 8) hx hb hts inX3 hown hK hP (hq5.mem (pu_lo (by decide))) hq5.e0 rfl 3 (by decide) (hts _ mw_36) (fun _ h9 => h9) rfl dX3_writeHead_51 ?_
  refine lv_bipush (v := 32) hx hb dX3_writeHead_54 (by decide) ?_
  refine pc_callVv (As := [.int 32]) (rest := []) ⟨hx, hb, hml, hown, hts⟩ (k_P_add l G cs L (pp_f cs f (ad 4) (ad 5) p5) _ (ad 4) (ad 5) p5.1 p5.2 32 hq5.pp hq5.p8) (cwV 1 hts (wg_V mw_306 mw_303 mw_304 mw_2 mw_305) rfl rfl rfl (by decide +kernel) ⟨Nat.le_of_ble_eq_true rfl, Nat.le_of_ble_eq_true rfl⟩) hK hP hD hS hA hq5.pp.1.1 hq5.pp.2.1 rfl px_T (fun _ _ _ => trivial) rfl hl.1 rfl (lv_room (Nat.le_of_ble_eq_true rfl)) dX3_writeHead_56 ⟨Nat.le_of_ble_eq_true rfl, Nat.le_of_ble_eq_true rfl⟩ (fun L1 f1 H locs hr_6 hP hD hS => ?_)
  obtain ⟨hL1, hf1⟩ := Prod.mk.inj hr_6
  rw [hL1, hf1] at hP hD
  rw [pp_pp hne] at hP hD
  obtain ⟨p6, ep6⟩ : ∃ z : sp_P, z = sp_add p5 32 := ⟨_, rfl⟩
  have ed6 : sp_add (p5.1, p5.2) 32 = p6 := by rw [ep6]
  rw [ed6] at hP hD
  have h86 : p6.1 ≤ 208 := by rw [ep6]; exact sp_add_le _ _ hq5.p8
  have hq6 := h0.paper p6 h86
  refine lv_aload_n hx hb dX3_writeHead_59 rfl (lv_at hl 0 rfl) ?_
  refine pw_get (ci := 3) (C := RX3) (T := TX3) (N := 8) hx hb hts inX3 hown hK hP (hq6.mem (pu_lo (by decide))) hq6.e0 rfl 3 (by decide) (hts _ mw_36) (fun _ h9 => h9) rfl dX3_writeHead_60 ?_
  refine lv_aload_n hx hb dX3_writeHead_63 rfl (lv_at hl 2 rfl) ?_
  refine pw_get (ci := 1) (C := RX1) (T := TX1) (N := 7) hx hb hts inX1 hown hK hP (hq6.nt hi).1.1 (hq6.nt hi).2.1.1 rfl 2 (by decide) (hts _ mw_86) (fun _ h9 => h9) rfl dX3_writeHead_64 ?_
  refine lv_i2l hx hb dX3_writeHead_67 rfl ?_
  have en68 : ((ns i).2.2.1).toInt64 = lN ((ns i).2.2.1.toNatClampNeg) := i2l_n hpn.2.2.2
  rw [en68]
  refine pc_callVv (As := [.long (lN ((ns i).2.2.1.toNatClampNeg))]) (rest := []) ⟨hx, hb, hml, hown, hts⟩ (k_P_num l G cs L (pp_f cs f (ad 4) (ad 5) p6) _ (ad 4) (ad 5) p6.1 p6.2 ((ns i).2.2.1.toNatClampNeg) hq6.pp hq6.p8 (nn_63 hpn.2.2.2)) (cwV 1 hts (wg_V mw_295 mw_296 mw_297 mw_2 mw_298) rfl rfl rfl (by decide +kernel) ⟨Nat.le_of_ble_eq_true rfl, Nat.le_of_ble_eq_true rfl⟩) hK hP hD hS hA hq6.pp.1.1 hq6.pp.2.1 rfl px_T (fun _ _ _ => trivial) rfl hl.1 rfl (lv_room (Nat.le_of_ble_eq_true rfl)) dX3_writeHead_68 ⟨Nat.le_of_ble_eq_true rfl, Nat.le_of_ble_eq_true rfl⟩ (fun L1 f1 H locs hr_7 hP hD hS => ?_)
  obtain ⟨hL1, hf1⟩ := Prod.mk.inj hr_7
  rw [hL1, hf1] at hP hD
  rw [pp_pp hne] at hP hD
  obtain ⟨p7, ep7⟩ : ∃ z : sp_P, z = sp_adds p6 (tx_n ((ns i).2.2.1.toNatClampNeg)) := ⟨_, rfl⟩
  have ed7 : sp_dig ((ns i).2.2.1.toNatClampNeg) 10 false (p6.1, p6.2) = p7 := by rw [ep7]; exact sp_dig_tx _ 10 false _
  rw [ed7] at hP hD
  have h87 : p7.1 ≤ 208 := by rw [ep7]; exact sp_adds_le _ _ hq6.p8
  have hq7 := h0.paper p7 h87
  refine lv_aload_n hx hb dX3_writeHead_71 rfl (lv_at hl 0 rfl) ?_
  refine pw_get (ci := 3) (C := RX3) (T := TX3) (N := 8) hx hb hts inX3 hown hK hP (hq7.mem (pu_lo (by decide))) hq7.e0 rfl 3 (by decide) (hts _ mw_36) (fun _ h9 => h9) rfl dX3_writeHead_72 ?_
  refine lv_bipush (v := 32) hx hb dX3_writeHead_75 (by decide) ?_
  refine pc_callVv (As := [.int 32]) (rest := []) ⟨hx, hb, hml, hown, hts⟩ (k_P_add l G cs L (pp_f cs f (ad 4) (ad 5) p7) _ (ad 4) (ad 5) p7.1 p7.2 32 hq7.pp hq7.p8) (cwV 1 hts (wg_V mw_306 mw_303 mw_304 mw_2 mw_305) rfl rfl rfl (by decide +kernel) ⟨Nat.le_of_ble_eq_true rfl, Nat.le_of_ble_eq_true rfl⟩) hK hP hD hS hA hq7.pp.1.1 hq7.pp.2.1 rfl px_T (fun _ _ _ => trivial) rfl hl.1 rfl (lv_room (Nat.le_of_ble_eq_true rfl)) dX3_writeHead_77 ⟨Nat.le_of_ble_eq_true rfl, Nat.le_of_ble_eq_true rfl⟩ (fun L1 f1 H locs hr_8 hP hD hS => ?_)
  obtain ⟨hL1, hf1⟩ := Prod.mk.inj hr_8
  rw [hL1, hf1] at hP hD
  rw [pp_pp hne] at hP hD
  obtain ⟨p8, ep8⟩ : ∃ z : sp_P, z = sp_add p7 32 := ⟨_, rfl⟩
  have ed8 : sp_add (p7.1, p7.2) 32 = p8 := by rw [ep8]
  rw [ed8] at hP hD
  have h88 : p8.1 ≤ 208 := by rw [ep8]; exact sp_add_le _ _ hq7.p8
  have hq8 := h0.paper p8 h88
  refine lv_aload_n hx hb dX3_writeHead_80 rfl (lv_at hl 0 rfl) ?_
  refine pw_get (ci := 3) (C := RX3) (T := TX3) (N := 8) hx hb hts inX3 hown hK hP (hq8.mem (pu_lo (by decide))) hq8.e0 rfl 3 (by decide) (hts _ mw_36) (fun _ h9 => h9) rfl dX3_writeHead_81 ?_
  refine lv_aload_n hx hb dX3_writeHead_84 rfl (lv_at hl 2 rfl) ?_
  refine lv_aload_n hx hb dX3_writeHead_85 rfl (lv_at hl 0 rfl) ?_
  refine pw_get (ci := 3) (C := RX3) (T := TX3) (N := 8) hx hb hts inX3 hown hK hP (hq8.mem (pu_lo (by decide))) hq8.e0 rfl 6 (by decide) (hts _ mw_39) (fun _ h9 => h9) rfl dX3_writeHead_86 ?_
  refine pr_callVi (As := [.int t]) (rest := [.ref (ad 4)]) ⟨hx, hb, hml, hown, hts⟩ (k_N_stateOn l G cs L (pp_f cs f (ad 4) (ad 5) p8) (ad (8 + 4 * i)) (ad (9 + 4 * i)) (ad (10 + 4 * i)) (ad (11 + 4 * i)) (ns i).1 (ns i).2.1 (ns i).2.2.1 (ns i).2.2.2.1 (ns i).2.2.2.2.1 (ns i).2.2.2.2.2.1 (ns i).2.2.2.2.2.2 t (hq8.nt hi)) (cwV 1 hts (wg_V mw_127 mw_128 mw_129 mw_4 mw_130) rfl rfl rfl (by decide +kernel) ⟨Nat.le_of_ble_eq_true rfl, Nat.le_of_ble_eq_true rfl⟩) hK hP (hq8.nt hi).1.1 (hq8.nt hi).2.1.1 rfl px_T (fun _ _ _ => trivial) rfl hl.1 rfl (lv_room (Nat.le_of_ble_eq_true rfl)) dX3_writeHead_89 ⟨Nat.le_of_ble_eq_true rfl, Nat.le_of_ble_eq_true rfl⟩ (fun r_9 hr_9 => ?_)
  subst hr_9
  refine lv_i2l hx hb dX3_writeHead_92 rfl ?_
  have en93 : (sp_state (ns i).2.2.2.1 (ns i).2.2.1 t).toInt64 = lN ((sp_state (ns i).2.2.2.1 (ns i).2.2.1 t).toNatClampNeg) := i2l_n (st_nn _ _ _)
  rw [en93]
  refine pc_callVv (As := [.long (lN ((sp_state (ns i).2.2.2.1 (ns i).2.2.1 t).toNatClampNeg))]) (rest := []) ⟨hx, hb, hml, hown, hts⟩ (k_P_num l G cs L (pp_f cs f (ad 4) (ad 5) p8) _ (ad 4) (ad 5) p8.1 p8.2 ((sp_state (ns i).2.2.2.1 (ns i).2.2.1 t).toNatClampNeg) hq8.pp hq8.p8 (nn_63 (st_nn _ _ _))) (cwV 1 hts (wg_V mw_295 mw_296 mw_297 mw_2 mw_298) rfl rfl rfl (by decide +kernel) ⟨Nat.le_of_ble_eq_true rfl, Nat.le_of_ble_eq_true rfl⟩) hK hP hD hS hA hq8.pp.1.1 hq8.pp.2.1 rfl px_T (fun _ _ _ => trivial) rfl hl.1 rfl (lv_room (Nat.le_of_ble_eq_true rfl)) dX3_writeHead_93 ⟨Nat.le_of_ble_eq_true rfl, Nat.le_of_ble_eq_true rfl⟩ (fun L1 f1 H locs hr_10 hP hD hS => ?_)
  obtain ⟨hL1, hf1⟩ := Prod.mk.inj hr_10
  rw [hL1, hf1] at hP hD
  rw [pp_pp hne] at hP hD
  obtain ⟨p9, ep9⟩ : ∃ z : sp_P, z = sp_adds p8 (tx_n ((sp_state (ns i).2.2.2.1 (ns i).2.2.1 t).toNatClampNeg)) := ⟨_, rfl⟩
  have ed9 : sp_dig ((sp_state (ns i).2.2.2.1 (ns i).2.2.1 t).toNatClampNeg) 10 false (p8.1, p8.2) = p9 := by rw [ep9]; exact sp_dig_tx _ 10 false _
  rw [ed9] at hP hD
  have h89 : p9.1 ≤ 208 := by rw [ep9]; exact sp_adds_le _ _ hq8.p8
  have hq9 := h0.paper p9 h89
  have eH : p9 = sp_adds pg (tC_head t i (ns i)) := by
    unfold tC_head tx_head
    rw [sp_adds_app, sp_adds_app, sp_adds_app, sp_adds_app, ep9, ep8, ep7, ep6, ep5, ep4, ep3, ep2, ep1]
    rfl
  exact pc_retv hx hb hr hlocks hP hD hS dX3_writeHead_96 (by rw [eH])

set_option maxHeartbeats 4000000 in
set_option maxRecDepth 100000 in
theorem k_C_wMove (l : Launch) (G : va_G) (cs : Nat → ClassId) (L : List Nat) (f : Nat → va_E) (sz : Nat) (ad : Nat → Nat) (t lm : Int32) (nN nM : Nat) (ns : Nat → NS) (ms : Nat → MS) (rt : Nat → Int32) (pg : sp_P) (j : Nat) (tL tC : Nat) (h0 : PS cs L f ad t lm nN nM ns ms rt pg) (hj : j < nM) (hpm : (ms j).2.1 = lN (ms j).2.1.toNatClampNeg ∧ (ms j).2.1.toNatClampNeg < 2 ^ 63) : Met l yX3_writeMove (Cond.code yX3_writeMove cX3_writeMove 3 none :: wg) ({ frames := 2, cells := 0, slots := 0, locals := 48 }) (pc_P [.ref (ad 0), .int (nI j), .ref (ad (32 + 2 * j))] G vwCl (tyl cs) L f sz (fun U => SX tL tC (pw_A L sz) U U.heap)) (va_Qv (fun u => u = (L, pp_f cs f (ad 4) (ad 5) (sp_adds pg (tx_move j (ms j).2.1.toNatClampNeg (sp_letter (ms j).2.2.2.2.2.1))))) (pc_B G vwCl L sz) (pw_A L sz)) 0 0 (pw_A L sz) := by
  refine Met.ofW (cc := cX3_writeMove) (maxL := 3) (ret := none) (by decide) rfl ?_
  intro p e s m args below meth c s₁ B hml hv
  obtain ⟨rfl, hsz, hP, hK, hD0, hX⟩ := hv
  have hx := B.exec
  have hb := B.bytes
  have hr := B.returns
  have hts0 := atoms_spec (ws := (Cond.code yX3_writeMove cX3_writeMove 3 none :: wg)) B.pre
  have hts := fun (w : Cond) (h : w ∈ wg) => hts0 w (List.mem_cons_of_mem _ h)
  have hown : s.vm.findClass RX3 = some m.cls := findClass_of_methodNamed B.named
  have hlocks := B.notSynchronized
  subst hsz
  have hD := pw_selfD (sz := s.heap.size) hD0
  have hA : ∀ q : Nat, s.heap.size ≤ q → pw_A L s.heap.size q := fun q h => Or.inr h
  have hS : va_S (pw_A L s.heap.size) s.heap s.heap [] := va_S.rf
  have hl := lv_entry ([.ref (ad 0), .int (nI j), .ref (ad (32 + 2 * j))]) (n := 3) (Nat.le_of_ble_eq_true rfl)
  rw [lg_entry_eq]
  generalize (lg_sl ([.ref (ad 0), .int (nI j), .ref (ad (32 + 2 * j))]) ++ List.replicate (3 - (lg_sl ([.ref (ad 0), .int (nI j), .ref (ad (32 + 2 * j))])).length) Slot.unset).toArray = ls at hl ⊢
  have hl : lv_has ls 3 [(0, .ref (ad 0)), (1, .int (nI j)), (2, .ref (ad (32 + 2 * j)))] := hl
  have hN6 := h0.nN6
  have hM12 := h0.nM12
  have m0 := h0.mem (pu_lo (r := 0) (by decide))
  have e0 := h0.e0
  have m1 := h0.mem (pu_lo (r := 1) (by decide))
  have e1 := h0.e1
  have m2 := h0.mem (pu_lo (r := 2) (by decide))
  have e2 := h0.e2
  have m3 := h0.mem (pu_lo (r := 3) (by decide))
  have e3 := h0.e3
  have hne := tyl_h h0
  refine lv_aload_n hx hb dX3_writeMove_0 rfl (lv_at hl 0 rfl) ?_
  refine pw_get (ci := 3) (C := RX3) (T := TX3) (N := 8) hx hb hts inX3 hown hK hP (h0.mem (pu_lo (by decide))) h0.e0 rfl 3 (by decide) (hts _ mw_36) (fun _ h9 => h9) rfl dX3_writeMove_1 ?_
  refine lv_bipush (v := 44) hx hb dX3_writeMove_4 (by decide) ?_
  refine pc_callVv (As := [.int 44]) (rest := []) ⟨hx, hb, hml, hown, hts⟩ (k_P_add l G cs L f _ (ad 4) (ad 5) pg.1 pg.2 44 h0.pp h0.p8) (cwV 1 hts (wg_V mw_306 mw_303 mw_304 mw_2 mw_305) rfl rfl rfl (by decide +kernel) ⟨Nat.le_of_ble_eq_true rfl, Nat.le_of_ble_eq_true rfl⟩) hK hP hD hS hA h0.pp.1.1 h0.pp.2.1 rfl px_T (fun _ _ _ => trivial) rfl hl.1 rfl (lv_room (Nat.le_of_ble_eq_true rfl)) dX3_writeMove_6 ⟨Nat.le_of_ble_eq_true rfl, Nat.le_of_ble_eq_true rfl⟩ (fun L1 f1 H locs hr_1 hP hD hS => ?_)
  obtain ⟨hL1, hf1⟩ := Prod.mk.inj hr_1
  rw [hL1, hf1] at hP hD
  obtain ⟨p1, ep1⟩ : ∃ z : sp_P, z = sp_add pg 44 := ⟨_, rfl⟩
  have ed1 : sp_add (pg.1, pg.2) 44 = p1 := by rw [ep1]
  rw [ed1] at hP hD
  have h81 : p1.1 ≤ 208 := by rw [ep1]; exact sp_add_le _ _ h0.p8
  have hq1 := h0.paper p1 h81
  refine lv_aload_n hx hb dX3_writeMove_9 rfl (lv_at hl 0 rfl) ?_
  refine pw_get (ci := 3) (C := RX3) (T := TX3) (N := 8) hx hb hts inX3 hown hK hP (hq1.mem (pu_lo (by decide))) hq1.e0 rfl 3 (by decide) (hts _ mw_36) (fun _ h9 => h9) rfl dX3_writeMove_10 ?_
  refine lv_iload_n hx hb dX3_writeMove_13 rfl (lv_at hl 1 rfl) ?_
  refine lv_i2l hx hb dX3_writeMove_14 rfl ?_
  have en15 : (nI j).toInt64 = lN j := nI_l (by omega)
  rw [en15]
  refine pc_callVv (As := [.long (lN j)]) (rest := []) ⟨hx, hb, hml, hown, hts⟩ (k_P_num l G cs L (pp_f cs f (ad 4) (ad 5) p1) _ (ad 4) (ad 5) p1.1 p1.2 j hq1.pp hq1.p8 (by omega)) (cwV 1 hts (wg_V mw_295 mw_296 mw_297 mw_2 mw_298) rfl rfl rfl (by decide +kernel) ⟨Nat.le_of_ble_eq_true rfl, Nat.le_of_ble_eq_true rfl⟩) hK hP hD hS hA hq1.pp.1.1 hq1.pp.2.1 rfl px_T (fun _ _ _ => trivial) rfl hl.1 rfl (lv_room (Nat.le_of_ble_eq_true rfl)) dX3_writeMove_15 ⟨Nat.le_of_ble_eq_true rfl, Nat.le_of_ble_eq_true rfl⟩ (fun L1 f1 H locs hr_2 hP hD hS => ?_)
  obtain ⟨hL1, hf1⟩ := Prod.mk.inj hr_2
  rw [hL1, hf1] at hP hD
  rw [pp_pp hne] at hP hD
  obtain ⟨p2, ep2⟩ : ∃ z : sp_P, z = sp_adds p1 (tx_n j) := ⟨_, rfl⟩
  have ed2 : sp_dig j 10 false (p1.1, p1.2) = p2 := by rw [ep2]; exact sp_dig_tx _ 10 false _
  rw [ed2] at hP hD
  have h82 : p2.1 ≤ 208 := by rw [ep2]; exact sp_adds_le _ _ hq1.p8
  have hq2 := h0.paper p2 h82
  refine lv_aload_n hx hb dX3_writeMove_18 rfl (lv_at hl 0 rfl) ?_
  refine pw_get (ci := 3) (C := RX3) (T := TX3) (N := 8) hx hb hts inX3 hown hK hP (hq2.mem (pu_lo (by decide))) hq2.e0 rfl 3 (by decide) (hts _ mw_36) (fun _ h9 => h9) rfl dX3_writeMove_19 ?_
  refine lv_bipush (v := 58) hx hb dX3_writeMove_22 (by decide) ?_
  refine pc_callVv (As := [.int 58]) (rest := []) ⟨hx, hb, hml, hown, hts⟩ (k_P_add l G cs L (pp_f cs f (ad 4) (ad 5) p2) _ (ad 4) (ad 5) p2.1 p2.2 58 hq2.pp hq2.p8) (cwV 1 hts (wg_V mw_306 mw_303 mw_304 mw_2 mw_305) rfl rfl rfl (by decide +kernel) ⟨Nat.le_of_ble_eq_true rfl, Nat.le_of_ble_eq_true rfl⟩) hK hP hD hS hA hq2.pp.1.1 hq2.pp.2.1 rfl px_T (fun _ _ _ => trivial) rfl hl.1 rfl (lv_room (Nat.le_of_ble_eq_true rfl)) dX3_writeMove_24 ⟨Nat.le_of_ble_eq_true rfl, Nat.le_of_ble_eq_true rfl⟩ (fun L1 f1 H locs hr_3 hP hD hS => ?_)
  obtain ⟨hL1, hf1⟩ := Prod.mk.inj hr_3
  rw [hL1, hf1] at hP hD
  rw [pp_pp hne] at hP hD
  obtain ⟨p3, ep3⟩ : ∃ z : sp_P, z = sp_add p2 58 := ⟨_, rfl⟩
  have ed3 : sp_add (p2.1, p2.2) 58 = p3 := by rw [ep3]
  rw [ed3] at hP hD
  have h83 : p3.1 ≤ 208 := by rw [ep3]; exact sp_add_le _ _ hq2.p8
  have hq3 := h0.paper p3 h83
  refine lv_aload_n hx hb dX3_writeMove_27 rfl (lv_at hl 0 rfl) ?_
  refine pw_get (ci := 3) (C := RX3) (T := TX3) (N := 8) hx hb hts inX3 hown hK hP (hq3.mem (pu_lo (by decide))) hq3.e0 rfl 3 (by decide) (hts _ mw_36) (fun _ h9 => h9) rfl dX3_writeMove_28 ?_
  refine lv_aload_n hx hb dX3_writeMove_31 rfl (lv_at hl 2 rfl) ?_
  refine pw_get (ci := 0) (C := RX0) (T := TX0) (N := 8) hx hb hts inX0 hown hK hP (hq3.mv hj).1.1.1 (hq3.mv hj).1.2.1 rfl 1 (by decide) (hts _ mw_163) (fun _ h9 => h9) rfl dX3_writeMove_32 ?_
  have en35 : (ms j).2.1 = lN ((ms j).2.1.toNatClampNeg) := hpm.1
  rw [en35]
  refine pc_callVv (As := [.long (lN ((ms j).2.1.toNatClampNeg))]) (rest := []) ⟨hx, hb, hml, hown, hts⟩ (k_P_num l G cs L (pp_f cs f (ad 4) (ad 5) p3) _ (ad 4) (ad 5) p3.1 p3.2 ((ms j).2.1.toNatClampNeg) hq3.pp hq3.p8 hpm.2) (cwV 1 hts (wg_V mw_295 mw_296 mw_297 mw_2 mw_298) rfl rfl rfl (by decide +kernel) ⟨Nat.le_of_ble_eq_true rfl, Nat.le_of_ble_eq_true rfl⟩) hK hP hD hS hA hq3.pp.1.1 hq3.pp.2.1 rfl px_T (fun _ _ _ => trivial) rfl hl.1 rfl (lv_room (Nat.le_of_ble_eq_true rfl)) dX3_writeMove_35 ⟨Nat.le_of_ble_eq_true rfl, Nat.le_of_ble_eq_true rfl⟩ (fun L1 f1 H locs hr_4 hP hD hS => ?_)
  obtain ⟨hL1, hf1⟩ := Prod.mk.inj hr_4
  rw [hL1, hf1] at hP hD
  rw [pp_pp hne] at hP hD
  obtain ⟨p4, ep4⟩ : ∃ z : sp_P, z = sp_adds p3 (tx_n ((ms j).2.1.toNatClampNeg)) := ⟨_, rfl⟩
  have ed4 : sp_dig ((ms j).2.1.toNatClampNeg) 10 false (p3.1, p3.2) = p4 := by rw [ep4]; exact sp_dig_tx _ 10 false _
  rw [ed4] at hP hD
  have h84 : p4.1 ≤ 208 := by rw [ep4]; exact sp_adds_le _ _ hq3.p8
  have hq4 := h0.paper p4 h84
  refine lv_aload_n hx hb dX3_writeMove_38 rfl (lv_at hl 0 rfl) ?_
  refine pw_get (ci := 3) (C := RX3) (T := TX3) (N := 8) hx hb hts inX3 hown hK hP (hq4.mem (pu_lo (by decide))) hq4.e0 rfl 3 (by decide) (hts _ mw_36) (fun _ h9 => h9) rfl dX3_writeMove_39 ?_
  refine lv_aload_n hx hb dX3_writeMove_42 rfl (lv_at hl 2 rfl) ?_
  refine pr_callVi (As := []) (rest := [.ref (ad 4)]) ⟨hx, hb, hml, hown, hts⟩ (k_M_letter l G cs L (pp_f cs f (ad 4) (ad 5) p4) (ad (32 + 2 * j)) (ad (33 + 2 * j)) (ms j).1 (ms j).2.1 (ms j).2.2.1 (ms j).2.2.2.1 (ms j).2.2.2.2.1 (ms j).2.2.2.2.2.1 (ms j).2.2.2.2.2.2.1 (ms j).2.2.2.2.2.2.2 tL tC (hq4.mv hj).1) (cwV 0 hts (wg_V mw_311 mw_312 mw_313 mw_5 mw_314) rfl rfl rfl (by decide +kernel) ⟨Nat.le_of_ble_eq_true rfl, Nat.le_of_ble_eq_true rfl⟩) hK hP (hq4.mv hj).1.1.1 (hq4.mv hj).1.2.1 rfl SX.px (SX.use hX hS (fun _ h => h.elim)) rfl hl.1 rfl (lv_room (Nat.le_of_ble_eq_true rfl)) dX3_writeMove_43 ⟨Nat.le_of_ble_eq_true rfl, Nat.le_of_ble_eq_true rfl⟩ (fun r_5 hr_5 => ?_)
  subst hr_5
  refine pc_callVv (As := [.int (sp_letter (ms j).2.2.2.2.2.1)]) (rest := []) ⟨hx, hb, hml, hown, hts⟩ (k_P_add l G cs L (pp_f cs f (ad 4) (ad 5) p4) _ (ad 4) (ad 5) p4.1 p4.2 (sp_letter (ms j).2.2.2.2.2.1) hq4.pp hq4.p8) (cwV 1 hts (wg_V mw_306 mw_303 mw_304 mw_2 mw_305) rfl rfl rfl (by decide +kernel) ⟨Nat.le_of_ble_eq_true rfl, Nat.le_of_ble_eq_true rfl⟩) hK hP hD hS hA hq4.pp.1.1 hq4.pp.2.1 rfl px_T (fun _ _ _ => trivial) rfl hl.1 rfl (lv_room (Nat.le_of_ble_eq_true rfl)) dX3_writeMove_46 ⟨Nat.le_of_ble_eq_true rfl, Nat.le_of_ble_eq_true rfl⟩ (fun L1 f1 H locs hr_6 hP hD hS => ?_)
  obtain ⟨hL1, hf1⟩ := Prod.mk.inj hr_6
  rw [hL1, hf1] at hP hD
  rw [pp_pp hne] at hP hD
  obtain ⟨p5, ep5⟩ : ∃ z : sp_P, z = sp_add p4 (sp_letter (ms j).2.2.2.2.2.1) := ⟨_, rfl⟩
  have ed5 : sp_add (p4.1, p4.2) (sp_letter (ms j).2.2.2.2.2.1) = p5 := by rw [ep5]
  rw [ed5] at hP hD
  have h85 : p5.1 ≤ 208 := by rw [ep5]; exact sp_add_le _ _ hq4.p8
  have hq5 := h0.paper p5 h85
  have eH : p5 = sp_adds pg (tx_move j (ms j).2.1.toNatClampNeg (sp_letter (ms j).2.2.2.2.2.1)) := by
    unfold tx_move
    rw [sp_adds_app, sp_adds_app, ep5, ep4, ep3, ep2, ep1]
    rfl
  exact pc_retv hx hb hr hlocks hP hD hS dX3_writeMove_49 (by rw [eH, lN_cl hpm.2])

set_option maxHeartbeats 4000000 in
set_option maxRecDepth 100000 in
theorem k_C_print (l : Launch) (G : va_G) (cs : Nat → ClassId) (L : List Nat) (f : Nat → va_E) (sz : Nat) (ad : Nat → Nat) (t lm : Int32) (nN nM : Nat) (ns : Nat → NS) (ms : Nat → MS) (rt : Nat → Int32) (pg : sp_P) (n_ k_ : Int32) (tL tC : Nat) (h0 : PS cs L f ad t lm nN nM ns ms rt pg) (hpn : ∀ i, i < nN → (ns i).1 = lN (ns i).1.toNatClampNeg ∧ (ns i).1.toNatClampNeg < 2 ^ 63 ∧ ¬ (ns i).2.1 < 0 ∧ ¬ (ns i).2.2.1 < 0) (hpm : ∀ j, j < nM → (ms j).2.1 = lN (ms j).2.1.toNatClampNeg ∧ (ms j).2.1.toNatClampNeg < 2 ^ 63) : Met l yX3_print (Cond.code yX3_print cX3_print 6 (some FieldType.int) :: wg) ({ frames := 3, cells := 0, slots := 0, locals := 70 }) (pc_P [.ref (ad 0), .int n_, .int k_] G vwCl (tyl cs) L f sz (fun U => SX tL tC (pw_A L sz) U U.heap)) (va_Qi (fun r u => ∃ ad' pg', ad' 0 = ad 0 ∧ r = sC_print t nN nM ns ms pg.2 n_ k_ ∧ PS cs u.1 u.2 ad' t lm nN nM ns ms rt pg') (pc_B G vwCl L sz) (pw_A L sz)) 0 0 (pw_A L sz) := by
  refine Met.ofW (cc := cX3_print) (maxL := 6) (ret := (some FieldType.int)) (by decide) rfl ?_
  intro p e s m args below meth c s₁ B hml hv
  obtain ⟨rfl, hsz, hP, hK, hD0, hX⟩ := hv
  have hx := B.exec
  have hb := B.bytes
  have hr := B.returns
  have hts0 := atoms_spec (ws := (Cond.code yX3_print cX3_print 6 (some FieldType.int) :: wg)) B.pre
  have hts := fun (w : Cond) (h : w ∈ wg) => hts0 w (List.mem_cons_of_mem _ h)
  have hown : s.vm.findClass RX3 = some m.cls := findClass_of_methodNamed B.named
  have hlocks := B.notSynchronized
  subst hsz
  have hD := pw_selfD (sz := s.heap.size) hD0
  have hA : ∀ q : Nat, s.heap.size ≤ q → pw_A L s.heap.size q := fun q h => Or.inr h
  have hS : va_S (pw_A L s.heap.size) s.heap s.heap [] := va_S.rf
  have hl := lv_entry ([.ref (ad 0), .int n_, .int k_]) (n := 6) (Nat.le_of_ble_eq_true rfl)
  rw [lg_entry_eq]
  generalize (lg_sl ([.ref (ad 0), .int n_, .int k_]) ++ List.replicate (6 - (lg_sl ([.ref (ad 0), .int n_, .int k_])).length) Slot.unset).toArray = ls at hl ⊢
  have hl : lv_has ls 6 [(0, .ref (ad 0)), (1, .int n_), (2, .int k_)] := hl
  have hN6 := h0.nN6
  have hM12 := h0.nM12
  have m0 := h0.mem (pu_lo (r := 0) (by decide))
  have e0 := h0.e0
  have m1 := h0.mem (pu_lo (r := 1) (by decide))
  have e1 := h0.e1
  have m2 := h0.mem (pu_lo (r := 2) (by decide))
  have e2 := h0.e2
  have m3 := h0.mem (pu_lo (r := 3) (by decide))
  have e3 := h0.e3
  refine lv_aload_n hx hb dX3_print_0 rfl (lv_at hl 0 rfl) ?_
  refine lv_iload_n hx hb dX3_print_1 rfl (lv_at hl 1 rfl) ?_
  refine pr_callVq (As := [.int n_]) (rest := []) ⟨hx, hb, hml, hown, hts⟩ (k_C_nAt l G cs L f ad t lm nN nM ns ms rt pg n_ h0) (cwV 1 hts (wg_V mw_63 mw_65 ms_0 mw_1 mw_66) rfl rfl rfl (by decide +kernel) ⟨Nat.le_of_ble_eq_true rfl, Nat.le_of_ble_eq_true rfl⟩) hK hP m0 e0 rfl px_T (fun _ _ _ => trivial) rfl hl.1 rfl (lv_room (Nat.le_of_ble_eq_true rfl)) dX3_print_2 ⟨Nat.le_of_ble_eq_true rfl, Nat.le_of_ble_eq_true rfl⟩ (fun r_1 hr_1 => ?_)
  rcases ix_cases (m := nN) (by omega) n_ with ⟨hxi, hnoi⟩ | ⟨i, hi, eni, hxi, hci, hdi⟩
  · obtain rfl : r_1 = none := by rw [hr_1, hxi]; rfl
    refine W.eq (g2 := F0 m 5 ls [.null]) rfl ?_
    refine lv_astore_nN (lv' := [(3, .null), (0, .ref (ad 0)), (1, .int n_), (2, .int k_)]) hx hb dX3_print_5 rfl hl (by decide) rfl (fun ls hl => ?_)
    refine lv_aload_nN hx hb dX3_print_6 rfl (lv_at hl 0 rfl) ?_
    refine lv_ifnullN (tgt := 14) hx hb dX3_print_7 (by decide) ?_
    refine lv_iconst (v := (-1)) hx hb dX3_print_14 (by decide) ?_
    exact pc_reti hx hb hr hlocks hP hD hS dX3_print_15 ⟨ad, pg, rfl, by simp [sC_print, hxi], h0⟩
  · obtain rfl : r_1 = some (ad (8 + 4 * i)) := by rw [hr_1, hxi]; rfl
    refine W.eq (g2 := F0 m 5 ls [.ref (ad (8 + 4 * i))]) rfl ?_
    refine lv_astore_n (lv' := [(3, .ref (ad (8 + 4 * i))), (0, .ref (ad 0)), (1, .int n_), (2, .int k_)]) hx hb dX3_print_5 rfl hl (by decide) rfl (fun ls hl => ?_)
    refine lv_aload_n hx hb dX3_print_6 rfl (lv_at hl 0 rfl) ?_
    refine lv_ifnull hx hb dX3_print_7 ?_
    refine lv_iload_n hx hb dX3_print_10 rfl (lv_at hl 3 rfl) ?_
    refine lv_if_ge (tgt := 16) hx hb dX3_print_11 (by decide) (fun c_11 => ?_) (fun c_11 => ?_)
    · have d_11 : ¬ k_ < 0 := Int32.not_lt.mpr c_11
      subst eni
      have hne := tyl_h h0
      refine lv_aload_n hx hb dX3_print_16 rfl (lv_at hl 1 rfl) ?_
      refine pw_get (ci := 3) (C := RX3) (T := TX3) (N := 8) hx hb hts inX3 hown hK hP (h0.mem (pu_lo (by decide))) h0.e0 rfl 3 (by decide) (hts _ mw_36) (fun _ h9 => h9) rfl dX3_print_17 ?_
      refine pc_callVv (As := []) (rest := []) ⟨hx, hb, hml, hown, hts⟩ (k_P_clear l G cs L f _ (ad 4) (ad 5) pg.1 pg.2 h0.pp) (cwV 0 hts (wg_V mw_287 mw_288 mw_289 mw_2 mw_290) rfl rfl rfl (by decide +kernel) ⟨Nat.le_of_ble_eq_true rfl, Nat.le_of_ble_eq_true rfl⟩) hK hP hD hS hA h0.pp.1.1 h0.pp.2.1 rfl px_T (fun _ _ _ => trivial) rfl hl.1 rfl (lv_room (Nat.le_of_ble_eq_true rfl)) dX3_print_20 ⟨Nat.le_of_ble_eq_true rfl, Nat.le_of_ble_eq_true rfl⟩ (fun L1 f1 H locs hr_2 hP hD hS => ?_)
      obtain ⟨hL1, hf1⟩ := Prod.mk.inj hr_2
      rw [hL1, hf1, pp_clr h0.pp] at hP hD
      obtain ⟨pz, epz⟩ : ∃ z : sp_P, z = (0, pg.2) := ⟨_, rfl⟩
      rw [← epz] at hP hD
      have hz := h0.paper pz (by rw [epz]; exact Nat.zero_le 208)
      refine lv_aload_n hx hb dX3_print_23 rfl (lv_at hl 1 rfl) ?_
      refine lv_iload_n hx hb dX3_print_24 rfl (lv_at hl 2 rfl) ?_
      refine lv_aload_n hx hb dX3_print_25 rfl (lv_at hl 0 rfl) ?_
      refine pc_callVv (As := [.int (nI i), .ref (ad (8 + 4 * i))]) (rest := []) ⟨hx, hb, hml, hown, hts⟩ (k_C_wHead l G cs L (pp_f cs f (ad 4) (ad 5) pz) _ ad t lm nN nM ns ms rt pz i hz hi (hpn i hi)) (cwV 2 hts (wg_V mw_291 mw_293 ms_8 mw_1 mw_294) rfl rfl rfl (by decide +kernel) ⟨Nat.le_of_ble_eq_true rfl, Nat.le_of_ble_eq_true rfl⟩) hK hP hD hS hA (hz.mem (pu_lo (by decide))) hz.e0 rfl px_T (fun _ _ _ => trivial) rfl hl.1 rfl (lv_room (Nat.le_of_ble_eq_true rfl)) dX3_print_26 ⟨Nat.le_of_ble_eq_true rfl, Nat.le_of_ble_eq_true rfl⟩ (fun L1 f1 H locs hr_3 hP hD hS => ?_)
      obtain ⟨hL1, hf1⟩ := Prod.mk.inj hr_3
      rw [hL1, hf1, pp_pp hne, epz] at hP hD
      refine lv_iconst (v := 0) hx hb dX3_print_29 (by decide) ?_
      refine lv_istore (lv' := [(4, .int 0), (3, .ref (ad (8 + 4 * i))), (0, .ref (ad 0)), (1, .int (nI i)), (2, .int k_)]) hx hb dX3_print_30 hl (by decide) rfl (fun ls hl => ?_)
      have e00 : sp_adds (0, pg.2) (tC_head t i (ns i)) = (sp_adds (0, pg.2) (tC_head t i (ns i) ++ tC_moves ms (nI i) 0)) := by
        show _ = sp_adds (0, pg.2) (tC_head t i (ns i) ++ [])
        rw [List.append_nil]
      rw [e00] at hP hD
      refine pc_loop (σ := Nat) (nL := 6) (fun k => nM - k) (fun k => k ≤ nM) (fun k => (L, pp_f cs f (ad 4) (ad 5) (sp_adds (0, pg.2) (tC_head t i (ns i) ++ tC_moves ms (nI i) k)))) (fun k => [(4, .int (nI k)), (0, .ref (ad 0)), (1, .int (nI i)), (2, .int k_)]) ?_ 0 (Nat.zero_le _) hP hD hS ls (lv_sub hl [0, 2, 3, 4] rfl)
      intro k hk ih H locs ls hP hD hS hl
      obtain ⟨pk, ep⟩ : ∃ z : sp_P, z = (sp_adds (0, pg.2) (tC_head t i (ns i) ++ tC_moves ms (nI i) k)) := ⟨_, rfl⟩
      have hP : va_P G vwCl (va_pl L (pp_f cs f (ad 4) (ad 5) pk)) H := by rw [ep]; exact hP
      have hD : va_D (pw_A L s.heap.size) (va_pl L (pp_f cs f (ad 4) (ad 5) pk)) := by rw [ep]; exact hD
      have hq := h0.paper pk (by rw [ep]; exact sp_adds_le _ _ (Nat.zero_le 208))
      refine lv_iload hx hb dX3_print_32 (lv_at hl 0 rfl) ?_
      refine lv_aload_n hx hb dX3_print_34 rfl (lv_at hl 1 rfl) ?_
      refine pw_get (ci := 3) (C := RX3) (T := TX3) (N := 8) hx hb hts inX3 hown hK hP (hq.mem (pu_lo (by decide))) hq.e0 rfl 5 (by decide) (hts _ mw_38) (fun _ h9 => h9) rfl dX3_print_35 ?_
      refine lv_icmp_ge (tgt := 77) hx hb dX3_print_38 (by decide) (fun c_38 => ?_) (fun c_38 => ?_)
      · have hk2 : k = nM := Nat.le_antisymm hk (nI_of_le c_38 (by omega))
        rw [hk2] at ep
        refine lv_aload_n hx hb dX3_print_77 rfl (lv_at hl 1 rfl) ?_
        refine pw_get (ci := 3) (C := RX3) (T := TX3) (N := 8) hx hb hts inX3 hown hK hP (hq.mem (pu_lo (by decide))) hq.e0 rfl 3 (by decide) (hts _ mw_36) (fun _ h9 => h9) rfl dX3_print_78 ?_
        refine lv_iload_n hx hb dX3_print_81 rfl (lv_at hl 3 rfl) ?_
        refine pr_callVi (As := [.int k_]) (rest := []) ⟨hx, hb, hml, hown, hts⟩ (k_P_byte l G cs L (pp_f cs f (ad 4) (ad 5) pk) (ad 4) (ad 5) pk.1 pk.2 k_ hq.pp hq.p8) (cwV 1 hts (wg_V mw_317 mw_318 mw_319 mw_2 mw_320) rfl rfl rfl (by decide +kernel) ⟨Nat.le_of_ble_eq_true rfl, Nat.le_of_ble_eq_true rfl⟩) hK hP hq.pp.1.1 hq.pp.2.1 rfl px_T (fun _ _ _ => trivial) rfl hl.1 rfl (lv_room (Nat.le_of_ble_eq_true rfl)) dX3_print_82 ⟨Nat.le_of_ble_eq_true rfl, Nat.le_of_ble_eq_true rfl⟩ (fun r_4 hr_4 => ?_)
        subst hr_4
        exact pc_reti hx hb hr hlocks hP hD hS dX3_print_85 ⟨ad, pk, rfl, by rw [ep]; simp [sC_print, tC_text, hxi, d_11], hq⟩
      · have hk2 : k < nM := nI_of_ge c_38 (by omega)
        refine lv_aload_n hx hb dX3_print_41 rfl (lv_at hl 1 rfl) ?_
        refine lv_iload hx hb dX3_print_42 (lv_at hl 0 rfl) ?_
        refine pr_callVq (As := [.int (nI k)]) (rest := []) ⟨hx, hb, hml, hown, hts⟩ (k_C_mAt l G cs L (pp_f cs f (ad 4) (ad 5) pk) ad t lm nN nM ns ms rt pk (nI k) hq) (cwV 1 hts (wg_V mw_147 mw_149 ms_3 mw_1 mw_150) rfl rfl rfl (by decide +kernel) ⟨Nat.le_of_ble_eq_true rfl, Nat.le_of_ble_eq_true rfl⟩) hK hP (hq.mem (pu_lo (by decide))) hq.e0 rfl px_T (fun _ _ _ => trivial) rfl hl.1 rfl (lv_room (Nat.le_of_ble_eq_true rfl)) dX3_print_44 ⟨Nat.le_of_ble_eq_true rfl, Nat.le_of_ble_eq_true rfl⟩ (fun r_5 hr_5 => ?_)
        obtain rfl : r_5 = some (ad (32 + 2 * k)) := by rw [hr_5, ix_nI hk2 (by omega)]; rfl
        refine W.eq (g2 := F0 m 47 ls [.ref (ad (32 + 2 * k))]) rfl ?_
        refine lv_astore (lv' := [(5, .ref (ad (32 + 2 * k))), (4, .int (nI k)), (0, .ref (ad 0)), (1, .int (nI i)), (2, .int k_)]) hx hb dX3_print_47 hl (by decide) rfl (fun ls hl => ?_)
        refine lv_aload hx hb dX3_print_49 (lv_at hl 0 rfl) ?_
        refine lv_ifnull hx hb dX3_print_51 ?_
        refine lv_aload hx hb dX3_print_54 (lv_at hl 0 rfl) ?_
        refine pw_get (ci := 0) (C := RX0) (T := TX0) (N := 8) hx hb hts inX0 hown hK hP (hq.mv hk2).1.1.1 (hq.mv hk2).1.2.1 rfl 0 (by decide) (hts _ mw_161) (fun _ h9 => h9) rfl dX3_print_56 ?_
        refine lv_iload_n hx hb dX3_print_59 rfl (lv_at hl 3 rfl) ?_
        refine lv_icmp_ne (tgt := 71) hx hb dX3_print_60 (by decide) (fun c_60 => ?_) (fun c_60 => ?_)
        · obtain ⟨z_6, ez_6⟩ : ∃ z : Int32, z = (nI k) + 1 := ⟨_, rfl⟩
          refine lv_iinc (v := z_6) (lv' := [(4, .int z_6), (5, .ref (ad (32 + 2 * k))), (0, .ref (ad 0)), (1, .int (nI i)), (2, .int k_)]) hx hb dX3_print_71 hl (k := 1) rfl (by rw [ez_6]; rfl) (by decide) rfl (fun ls hl => ?_)
          refine lv_goto (tgt := 32) hx hb dX3_print_74 (by decide) ?_
          obtain rfl : z_6 = nI (k + 1) := by rw [ez_6]; exact nI_1 k
          have em : tC_moves ms (nI i) k = tC_moves ms (nI i) (k + 1) := by simp [tC_moves, c_60]
          rw [ep, em] at hP hD
          exact ih (k + 1) (by show k + 1 ≤ nM; omega) (by show nM - (k + 1) < nM - k; omega) H locs ls hP hD hS (lv_sub hl [0, 2, 3, 4] rfl)
        · refine lv_aload_n hx hb dX3_print_63 rfl (lv_at hl 2 rfl) ?_
          refine lv_iload hx hb dX3_print_64 (lv_at hl 1 rfl) ?_
          refine lv_aload hx hb dX3_print_66 (lv_at hl 0 rfl) ?_
          refine pc_callVv (As := [.int (nI k), .ref (ad (32 + 2 * k))]) (rest := []) ⟨hx, hb, hml, hown, hts⟩ (k_C_wMove l G cs L (pp_f cs f (ad 4) (ad 5) pk) _ ad t lm nN nM ns ms rt pk k tL tC hq hk2 (hpm k hk2)) (cwV 2 hts (wg_V mw_307 mw_309 ms_9 mw_1 mw_310) rfl rfl rfl (by decide +kernel) ⟨Nat.le_of_ble_eq_true rfl, Nat.le_of_ble_eq_true rfl⟩) hK hP hD hS hA (hq.mem (pu_lo (by decide))) hq.e0 rfl SX.px (SX.use hX hS (pw_free hD hS hA)) rfl hl.1 rfl (lv_room (Nat.le_of_ble_eq_true rfl)) dX3_print_68 ⟨Nat.le_of_ble_eq_true rfl, Nat.le_of_ble_eq_true rfl⟩ (fun L1 f1 H locs hr_7 hP hD hS => ?_)
          obtain ⟨hL1, hf1⟩ := Prod.mk.inj hr_7
          rw [hL1, hf1, pp_pp hne, ep] at hP hD
          obtain ⟨z_8, ez_8⟩ : ∃ z : Int32, z = (nI k) + 1 := ⟨_, rfl⟩
          refine lv_iinc (v := z_8) (lv' := [(4, .int z_8), (5, .ref (ad (32 + 2 * k))), (0, .ref (ad 0)), (1, .int (nI i)), (2, .int k_)]) hx hb dX3_print_71 hl (k := 1) rfl (by rw [ez_8]; rfl) (by decide) rfl (fun ls hl => ?_)
          refine lv_goto (tgt := 32) hx hb dX3_print_74 (by decide) ?_
          obtain rfl : z_8 = nI (k + 1) := by rw [ez_8]; exact nI_1 k
          have em : sp_adds (sp_adds (0, pg.2) (tC_head t i (ns i) ++ tC_moves ms (nI i) k)) (tx_move k (ms k).2.1.toNatClampNeg (sp_letter (ms k).2.2.2.2.2.1)) = (sp_adds (0, pg.2) (tC_head t i (ns i) ++ tC_moves ms (nI i) (k + 1))) := by
            have em : tC_moves ms (nI i) (k + 1) = tC_moves ms (nI i) k ++ tx_move k (ms k).2.1.toNatClampNeg (sp_letter (ms k).2.2.2.2.2.1) := by simp [tC_moves, c_60]
            rw [em, ← List.append_assoc, sp_adds_app (b := tx_move _ _ _)]
          rw [em] at hP hD
          exact ih (k + 1) (by show k + 1 ≤ nM; omega) (by show nM - (k + 1) < nM - k; omega) H locs ls hP hD hS (lv_sub hl [0, 2, 3, 4] rfl)
    · have d_11 : k_ < 0 := Int32.not_le.mp c_11
      refine lv_iconst (v := (-1)) hx hb dX3_print_14 (by decide) ?_
      exact pc_reti hx hb hr hlocks hP hD hS dX3_print_15 ⟨ad, pg, rfl, by simp [sC_print, hxi, d_11], h0⟩
