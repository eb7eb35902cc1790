/-! The class: methods that write (2): day, notice, move. Laid by wip/gen/cwrites2.py. -/
theorem pw_astqN {p : Program} {l : Launch} {e : Env} {R : Room} {s : State} {m : MethodId} {args : Array Value} {below : List Frame} {meth : Method} {c : Code} {H : Heap} {locs : List Loc} {cells slots : Nat} {Q : State → Prop} {cc : ByteArray} {pc : Nat} {ls : Array Slot} {rest : List Value} {D : va_G} {cl : List vw_C} {A : Nat → Prop} {a : Nat} {tys : List (ClassId × FieldType)} {H0 : Heap} {L : List Nat} {f : Nat → va_E} (hexec : p.tables.exec = Jvm.exec) (hb : c.code = cc) (hK : va_K D cl tys s) (hP : va_P D cl (va_pl L f) H) (hD : va_D A (va_pl L f)) (hS : va_S A H0 H locs) (hm : a ∈ L) (t0 ci : Nat) {cA : ClassId} {r : vw_C} {n k v : Nat} {vs : List Value} {g : Nat → Option Nat} (he : f a = .inl (cA, n, .inr (.inr (.inr (.inr g))))) (ht : tys[t0]? = some (cA, .object r.1)) (hm2 : v ∈ L) (hv : f v = .inr (ci, vs)) (hc : cl[ci]? = some r) (hk : k < n) (hn : n < 2 ^ 31) (hdg : decode cc pc = .ok (.aastore, 1))
    (kk : ∀ (H1 : Heap) (locs1 : List Loc), va_P D cl (va_pl L (va_up f a (.inl (cA, n, .inr (.inr (.inr (.inr (va_up g k (some v))))))))) H1 → va_D A (va_pl L (va_up f a (.inl (cA, n, .inr (.inr (.inr (.inr (va_up g k (some v))))))))) → va_S A H0 H1 locs1 → W p l e R s m args below meth c H1 locs1 cells slots Q (F0 m (pc + 1) ls rest)) : W p l e R s m args below meth c H locs cells slots Q (F0 m pc ls (.ref v :: .int (nI k) :: .ref a :: rest)) := by
  refine pw_astq hexec hb hK hP hD hS hm t0 ci he ht hm2 hv hc (vp_in_nI hk hn) hdg (fun H1 locs1 hP1 hD1 hS1 => ?_)
  rw [nI_clamp (by omega)] at hP1 hD1
  exact kk H1 locs1 hP1 hD1 hS1
theorem pp_clr {cs : Nat → ClassId} {L : List Nat} {f : Nat → va_E} {q q1 n : Nat} {g : Nat → Int32} (h : PP cs L f q q1 n g) : va_up f q (.inr (2, [.ref q1, .int (nI 0)])) = pp_f cs f q q1 (0, g) := by
  have e : va_up f q1 (.inl (cs 1, 208, .inl g)) = f := by rw [← h.2.2]; exact va_up_same f q1
  unfold pp_f
  rw [e]

set_option maxHeartbeats 4000000 in
set_option maxRecDepth 100000 in
theorem k_C_day (l : Launch) (G : va_G) (cs : Nat → ClassId) (L : List Nat) (f : Nat → va_E) (sz : Nat) (ad : Nat → Nat) (t lm : Int32) (nN nM : Nat) (ns : Nat → NS) (ms : Nat → MS) (rt : Nat → Int32) (pg : sp_P) (a_ : Int32) (h0 : PS cs L f ad t lm nN nM ns ms rt pg) : Met l yX3_day (Cond.code yX3_day cX3_day 5 (some FieldType.int) :: wg) ({ frames := 1, cells := 0, slots := 0, locals := 23 }) (pc_P [.ref (ad 0), .int a_] G vwCl (tyl cs) L f sz (fun _ => True)) (va_Qi (fun r u => ∃ ad' pg', ad' 0 = ad 0 ∧ r = (sC_day (t, lm, nN, nM, ns, ms, rt) a_).1 ∧ PSx cs u.1 u.2 ad' (sC_day (t, lm, nN, nM, ns, ms, rt) a_).2 pg') (pc_B G vwCl L sz) (pw_A L sz)) 0 0 (pw_A L sz) := by
  refine Met.ofW (cc := cX3_day) (maxL := 5) (ret := (some FieldType.int)) (by decide) rfl ?_
  intro p e s m args below meth c s₁ B hml hv
  obtain ⟨rfl, hsz, hP, hK, hD0, hX⟩ := hv
  have hx := B.exec
  have hb := B.bytes
  have hr := B.returns
  have hts0 := atoms_spec (ws := (Cond.code yX3_day cX3_day 5 (some FieldType.int) :: wg)) B.pre
  have hts := fun (w : Cond) (h : w ∈ wg) => hts0 w (List.mem_cons_of_mem _ h)
  have hown : s.vm.findClass RX3 = some m.cls := findClass_of_methodNamed B.named
  have hlocks := B.notSynchronized
  subst hsz
  have hD := pw_selfD (sz := s.heap.size) hD0
  have hA : ∀ q : Nat, s.heap.size ≤ q → pw_A L s.heap.size q := fun q h => Or.inr h
  have hS : va_S (pw_A L s.heap.size) s.heap s.heap [] := va_S.rf
  have hl := lv_entry ([.ref (ad 0), .int a_]) (n := 5) (Nat.le_of_ble_eq_true rfl)
  rw [lg_entry_eq]
  generalize (lg_sl ([.ref (ad 0), .int a_]) ++ List.replicate (5 - (lg_sl ([.ref (ad 0), .int a_])).length) Slot.unset).toArray = ls at hl ⊢
  have hl : lv_has ls 5 [(0, .ref (ad 0)), (1, .int a_)] := hl
  have hN6 := h0.nN6
  have hM12 := h0.nM12
  have m0 := h0.mem (pu_lo (r := 0) (by decide))
  have e0 := h0.e0
  have m1 := h0.mem (pu_lo (r := 1) (by decide))
  have e1 := h0.e1
  have m2 := h0.mem (pu_lo (r := 2) (by decide))
  have e2 := h0.e2
  have m3 := h0.mem (pu_lo (r := 3) (by decide))
  have e3 := h0.e3
  refine lv_iload_n hx hb dX3_day_0 rfl (lv_at hl 1 rfl) ?_
  refine lv_aload_n hx hb dX3_day_1 rfl (lv_at hl 0 rfl) ?_
  refine pw_get (ci := 3) (C := RX3) (T := TX3) (N := 8) hx hb hts inX3 hown hK hP m0 e0 rfl 6 (by decide) (hts _ mw_39) (fun _ h9 => h9) rfl dX3_day_2 ?_
  refine lv_icmp_lt (tgt := 14) hx hb dX3_day_5 (by decide) (fun c_5 => ?_) (fun c_5 => ?_)
  · refine lv_iconst (v := (-1)) hx hb dX3_day_14 (by decide) ?_
    have hsp : sC_day (t, lm, nN, nM, ns, ms, rt) a_ = ((-1), (t, lm, nN, nM, ns, ms, rt)) := by simp [sC_day, c_5]
    exact pc_reti hx hb hr hlocks hP hD hS dX3_day_15 ⟨ad, pg, rfl, by rw [hsp], by rw [hsp]; exact h0⟩
  · refine lv_iload_n hx hb dX3_day_8 rfl (lv_at hl 1 rfl) ?_
    refine lv_ldc hx hb hown (hts _ mw_62) dX3_day_9 ?_
    refine lv_icmp_le (tgt := 16) hx hb dX3_day_11 (by decide) (fun c_11 => ?_) (fun c_11 => ?_)
    · refine lv_aload_n hx hb dX3_day_16 rfl (lv_at hl 0 rfl) ?_
      refine lv_iload_n hx hb dX3_day_17 rfl (lv_at hl 1 rfl) ?_
      refine pw_put (ty := .int) (ci := 3) (v := .int a_) (C := RX3) (T := TX3) (N := 8) hx hb hts inX3 tyX3 tyX3_ok nmX3 hown hK hP hD hS m0 e0 rfl 6 (by decide) (hts _ mw_39) (fun _ h9 => h9) rfl (by decide +kernel) rfl rfl (Nat.le_of_ble_eq_true rfl) dX3_day_18 (fun H locs hP hD hS => ?_)
      obtain ⟨f_1, ef_1⟩ : ∃ zz : Nat → va_E, zz = va_up f (ad 0) (.inr (3, [.ref (ad 1), .ref (ad 2), .ref (ad 3), .ref (ad 4), .int (nI nN), .int (nI nM), .int a_, .int lm])) := ⟨_, rfl⟩
      have hP : va_P G vwCl (va_pl L f_1) H := by rw [ef_1]; exact hP
      have hD : va_D (pw_A L s.heap.size) (va_pl L f_1) := by rw [ef_1]; exact hD
      have hf_1_ad_0 : f_1 (ad 0) = .inr (3, [.ref (ad 1), .ref (ad 2), .ref (ad 3), .ref (ad 4), .int (nI nN), .int (nI nM), .int a_, .int lm]) := by rw [ef_1]; exact va_up_self _ _ _
      refine lv_iconst (v := 0) hx hb dX3_day_21 (by decide) ?_
      refine lv_istore_n (lv' := [(2, .int 0), (0, .ref (ad 0)), (1, .int a_)]) hx hb dX3_day_22 rfl hl (by decide) rfl (fun ls hl => ?_)
      refine lv_iconst (v := 0) hx hb dX3_day_23 (by decide) ?_
      refine lv_istore_n (lv' := [(3, .int 0), (2, .int 0), (0, .ref (ad 0)), (1, .int a_)]) hx hb dX3_day_24 rfl hl (by decide) rfl (fun ls hl => ?_)
      have hp1 := h0.main a_ lm
      have efm : f_1 = va_up f (ad 0) (ps_0 ad a_ lm nN nM) := ef_1
      rw [← efm] at hp1
      refine pc_loop (σ := Nat × (Nat → va_E)) (nL := 5) (fun x => nN - x.1) (fun x => x.1 ≤ nN ∧ PS cs L x.2 ad a_ lm nN nM (sC_dn a_ ns x.1).2 ms rt pg) (fun x => (L, x.2)) (fun x => [(3, .int (nI x.1)), (2, .int (sC_dn a_ ns x.1).1), (0, .ref (ad 0)), (1, .int a_)]) ?_ (0, f_1) ⟨Nat.zero_le _, hp1⟩ hP hD hS ls (lv_sub hl [0, 1, 2, 3] rfl)
      rintro ⟨k, fq⟩ ⟨hk, hq⟩ ih H locs ls hP hD hS hl
      have hk : k ≤ nN := hk
      have hq : PS cs L fq ad a_ lm nN nM (sC_dn a_ ns k).2 ms rt pg := hq
      have e0 := hq.e0
      refine lv_iload_n hx hb dX3_day_25 rfl (lv_at hl 0 rfl) ?_
      refine lv_aload_n hx hb dX3_day_26 rfl (lv_at hl 2 rfl) ?_
      refine pw_get (ci := 3) (C := RX3) (T := TX3) (N := 8) hx hb hts inX3 hown hK hP m0 e0 rfl 4 (by decide) (hts _ mw_37) (fun _ h9 => h9) rfl dX3_day_27 ?_
      refine lv_icmp_ge (tgt := 60) hx hb dX3_day_30 (by decide) (fun c_30 => ?_) (fun c_30 => ?_)
      · have hk2 : k = nN := Nat.le_antisymm hk (nI_of_le c_30 (by omega))
        rw [hk2] at hq
        refine lv_iload_n hx hb dX3_day_60 rfl (lv_at hl 1 rfl) ?_
        rw [hk2]
        have hsp : sC_day (t, lm, nN, nM, ns, ms, rt) a_ = ((sC_dn a_ ns nN).1, (a_, lm, nN, nM, (sC_dn a_ ns nN).2, ms, rt)) := by simp [sC_day, c_5, c_11]
        exact pc_reti hx hb hr hlocks hP hD hS dX3_day_61 ⟨ad, pg, rfl, by rw [hsp], by rw [hsp]; exact hq⟩
      · have hk2 : k < nN := nI_of_ge c_30 (by omega)
        refine lv_aload_n hx hb dX3_day_33 rfl (lv_at hl 2 rfl) ?_
        refine lv_iload_n hx hb dX3_day_34 rfl (lv_at hl 0 rfl) ?_
        obtain ⟨nk, enk⟩ : ∃ z, z = (sC_dn a_ ns k).2 := ⟨_, rfl⟩
        rw [← enk] at hq
        refine pr_callVq (As := [.int (nI k)]) (rest := []) ⟨hx, hb, hml, hown, hts⟩ (k_C_nAt l G cs L fq ad a_ lm nN nM nk ms rt pg (nI k) hq) (cwV 1 hts (wg_V mw_63 mw_65 ms_0 mw_1 mw_66) rfl rfl rfl (by decide +kernel) ⟨Nat.le_of_ble_eq_true rfl, Nat.le_of_ble_eq_true rfl⟩) hK hP m0 e0 rfl px_T (fun _ _ _ => trivial) rfl hl.1 rfl (lv_room (Nat.le_of_ble_eq_true rfl)) dX3_day_35 ⟨Nat.le_of_ble_eq_true rfl, Nat.le_of_ble_eq_true rfl⟩ (fun r_2 hr_2 => ?_)
        obtain rfl : r_2 = some (ad (8 + 4 * k)) := by rw [hr_2, ix_nI hk2 (by omega)]; rfl
        refine W.eq (g2 := F0 m 38 ls [.ref (ad (8 + 4 * k))]) rfl ?_
        refine lv_astore (lv' := [(4, .ref (ad (8 + 4 * k))), (3, .int (nI k)), (2, .int ((sC_dn a_ ns k).1)), (0, .ref (ad 0)), (1, .int a_)]) hx hb dX3_day_38 hl (by decide) rfl (fun ls hl => ?_)
        refine lv_aload hx hb dX3_day_40 (lv_at hl 0 rfl) ?_
        refine lv_ifnull hx hb dX3_day_42 ?_
        refine lv_iload_n hx hb dX3_day_45 rfl (lv_at hl 2 rfl) ?_
        refine lv_aload hx hb dX3_day_46 (lv_at hl 0 rfl) ?_
        refine lv_iload_n hx hb dX3_day_48 rfl (lv_at hl 4 rfl) ?_
        refine pc_callVi (As := [.int a_]) (rest := [.int ((sC_dn a_ ns k).1)]) ⟨hx, hb, hml, hown, hts⟩ (k_N_silent l G cs L fq _ (ad (8 + 4 * k)) (ad (9 + 4 * k)) (ad (10 + 4 * k)) (ad (11 + 4 * k)) (nk k).1 (nk k).2.1 (nk k).2.2.1 (nk k).2.2.2.1 (nk k).2.2.2.2.1 (nk k).2.2.2.2.2.1 (nk k).2.2.2.2.2.2 a_ (hq.nt hk2)) (cwV 1 hts (wg_V mw_67 mw_68 mw_69 mw_4 mw_70) rfl rfl rfl (by decide +kernel) ⟨Nat.le_of_ble_eq_true rfl, Nat.le_of_ble_eq_true rfl⟩) hK hP hD hS hA (hq.nt hk2).1.1 (hq.nt hk2).2.1.1 rfl px_T (fun _ _ _ => trivial) rfl hl.1 rfl (lv_room (Nat.le_of_ble_eq_true rfl)) dX3_day_49 ⟨Nat.le_of_ble_eq_true rfl, Nat.le_of_ble_eq_true rfl⟩ (fun r_3 L1 f1 H locs hr_3 hP hD hS => ?_)
        obtain ⟨hr1, hr2⟩ := Prod.mk.inj hr_3
        obtain ⟨hL1, hf1⟩ := Prod.mk.inj hr2
        rw [hL1, hf1] at hP hD
        subst hr1
        have hps := hq.sil hk2 a_
        refine lv_iadd hx hb dX3_day_52 ?_
        refine lv_istore_n (lv' := [(2, .int (((sC_dn a_ ns k).1) + (nI (sp_sil (nk k).2.2.2.2.1 (nk k).2.2.2.2.2.1 a_ (nk k).2.2.2.1 6).2))), (4, .ref (ad (8 + 4 * k))), (3, .int (nI k)), (0, .ref (ad 0)), (1, .int a_)]) hx hb dX3_day_53 rfl hl (by decide) rfl (fun ls hl => ?_)
        obtain ⟨z_4, ez_4⟩ : ∃ z : Int32, z = (nI k) + 1 := ⟨_, rfl⟩
        refine lv_iinc (v := z_4) (lv' := [(3, .int z_4), (2, .int (((sC_dn a_ ns k).1) + (nI (sp_sil (nk k).2.2.2.2.1 (nk k).2.2.2.2.2.1 a_ (nk k).2.2.2.1 6).2))), (4, .ref (ad (8 + 4 * k))), (0, .ref (ad 0)), (1, .int a_)]) hx hb dX3_day_54 hl (k := 2) rfl (by rw [ez_4]; rfl) (by decide) rfl (fun ls hl => ?_)
        refine lv_goto (tgt := 25) hx hb dX3_day_57 (by decide) ?_
        obtain rfl : z_4 = nI (k + 1) := by rw [ez_4]; exact nI_1 k
        have hsum : (sC_dn a_ ns (k + 1)).1 = ((sC_dn a_ ns k).1) + (nI (sp_sil (nk k).2.2.2.2.1 (nk k).2.2.2.2.2.1 a_ (nk k).2.2.2.1 6).2) := by simp only [sC_dn, ns_sil, enk]
        have hsu2 : (sC_dn a_ ns (k + 1)).2 = va_up nk k (ns_sil (nk k) a_).2 := by simp only [sC_dn, enk]
        rw [← hsum] at hl
        refine ih (k + 1, va_up fq (ad (9 + 4 * k)) (.inl (cs 0, 6, .inl (sp_sil (nk k).2.2.2.2.1 (nk k).2.2.2.2.2.1 a_ (nk k).2.2.2.1 6).1))) ⟨by show k + 1 ≤ nN; omega, ?_⟩ (by show nN - (k + 1) < nN - k; omega) H locs ls hP hD hS (lv_sub hl [0, 1, 3, 4] rfl)
        show PS cs L (va_up fq (ad (9 + 4 * k)) (.inl (cs 0, 6, .inl (sp_sil (nk k).2.2.2.2.1 (nk k).2.2.2.2.2.1 a_ (nk k).2.2.2.1 6).1))) ad a_ lm nN nM (sC_dn a_ ns (k + 1)).2 ms rt pg
        rw [hsu2]
        exact hps
    · refine lv_iconst (v := (-1)) hx hb dX3_day_14 (by decide) ?_
      have hsp : sC_day (t, lm, nN, nM, ns, ms, rt) a_ = ((-1), (t, lm, nN, nM, ns, ms, rt)) := by simp [sC_day, c_5, c_11]
      exact pc_reti hx hb hr hlocks hP hD hS dX3_day_15 ⟨ad, pg, rfl, by rw [hsp], by rw [hsp]; exact h0⟩

set_option maxHeartbeats 4000000 in
set_option maxRecDepth 100000 in
theorem k_C_notice (l : Launch) (G : va_G) (cs : Nat → ClassId) (L : List Nat) (f : Nat → va_E) (sz : Nat) (ad : Nat → Nat) (t lm : Int32) (nN nM : Nat) (ns : Nat → NS) (ms : Nat → MS) (rt : Nat → Int32) (pg : sp_P) (g_ : Int64) (f_ t_ : Int32) (h0 : PS cs L f ad t lm nN nM ns ms rt pg) : Met l yX3_notice (Cond.code yX3_notice cX3_notice 6 (some FieldType.int) :: wg) ({ frames := 2, cells := 4, slots := 25, locals := 36 }) (pc_P [.ref (ad 0), .long g_, .int f_, .int t_] G vwCl (tyl cs) L f sz (fun _ => True)) (va_Qi (fun r u => ∃ ad' pg', ad' 0 = ad 0 ∧ r = (sC_notice (t, lm, nN, nM, ns, ms, rt) g_ f_ t_).1 ∧ PSx cs u.1 u.2 ad' (sC_notice (t, lm, nN, nM, ns, ms, rt) g_ f_ t_).2 pg') (pc_B G vwCl L sz) (pw_A L sz)) 4 25 (pw_A L sz) := by
  refine Met.ofW (cc := cX3_notice) (maxL := 6) (ret := (some FieldType.int)) (by decide) rfl ?_
  intro p e s m args below meth c s₁ B hml hv
  obtain ⟨rfl, hsz, hP, hK, hD0, hX⟩ := hv
  have hx := B.exec
  have hb := B.bytes
  have hr := B.returns
  have hts0 := atoms_spec (ws := (Cond.code yX3_notice cX3_notice 6 (some FieldType.int) :: wg)) B.pre
  have hts := fun (w : Cond) (h : w ∈ wg) => hts0 w (List.mem_cons_of_mem _ h)
  have hown : s.vm.findClass RX3 = some m.cls := findClass_of_methodNamed B.named
  have hlocks := B.notSynchronized
  subst hsz
  have hD := pw_selfD (sz := s.heap.size) hD0
  have hA : ∀ q : Nat, s.heap.size ≤ q → pw_A L s.heap.size q := fun q h => Or.inr h
  have hS : va_S (pw_A L s.heap.size) s.heap s.heap [] := va_S.rf
  have hl := lv_entry ([.ref (ad 0), .long g_, .int f_, .int t_]) (n := 6) (Nat.le_of_ble_eq_true rfl)
  rw [lg_entry_eq]
  generalize (lg_sl ([.ref (ad 0), .long g_, .int f_, .int t_]) ++ List.replicate (6 - (lg_sl ([.ref (ad 0), .long g_, .int f_, .int t_])).length) Slot.unset).toArray = ls at hl ⊢
  have hl : lv_has ls 6 [(0, .ref (ad 0)), (1, .long g_), (3, .int f_), (4, .int t_)] := hl
  have hN6 := h0.nN6
  have hM12 := h0.nM12
  have m0 := h0.mem (pu_lo (r := 0) (by decide))
  have e0 := h0.e0
  have m1 := h0.mem (pu_lo (r := 1) (by decide))
  have e1 := h0.e1
  have m2 := h0.mem (pu_lo (r := 2) (by decide))
  have e2 := h0.e2
  have m3 := h0.mem (pu_lo (r := 3) (by decide))
  have e3 := h0.e3
  refine lv_aload_n hx hb dX3_notice_0 rfl (lv_at hl 0 rfl) ?_
  refine pw_get (ci := 3) (C := RX3) (T := TX3) (N := 8) hx hb hts inX3 hown hK hP m0 e0 rfl 4 (by decide) (hts _ mw_37) (fun _ h9 => h9) rfl dX3_notice_1 ?_
  refine lv_bipush (v := 6) hx hb dX3_notice_4 (by decide) ?_
  refine lv_icmp_ge (tgt := 23) hx hb dX3_notice_6 (by decide) (fun c_6 => ?_) (fun c_6 => ?_)
  · have d_6 : 6 ≤ nN := (nI_leI (a := 6) (b := nN) (by decide) (by omega)).mp c_6
    refine lv_iconst (v := (-1)) hx hb dX3_notice_23 (by decide) ?_
    refine W.widen (k := 4) (n := 25) (Nat.zero_le _) (Nat.zero_le _) ?_
    have hsp : sC_notice (t, lm, nN, nM, ns, ms, rt) g_ f_ t_ = ((-1), (t, lm, nN, nM, ns, ms, rt)) := by simp [sC_notice, d_6]
    exact pc_reti hx hb hr hlocks hP hD hS dX3_notice_24 ⟨ad, pg, rfl, by rw [hsp], by rw [hsp]; exact h0⟩
  · have d_6 : ¬ 6 ≤ nN := fun z => c_6 ((nI_leI (a := 6) (b := nN) (by decide) (by omega)).mpr z)
    refine lv_lload_n hx hb dX3_notice_9 rfl (lv_at hl 1 rfl) ?_
    refine lv_lconst (v := 1) hx hb dX3_notice_10 (by decide) ?_
    refine W.lcmp hx hb dX3_notice_11 ?_
    refine lv_if_lt (tgt := 23) hx hb dX3_notice_12 (by decide) (fun c_12 => ?_) (fun c_12 => ?_)
    · have c_12 := (lg_cmp_lt _ _).mp c_12
      refine lv_iconst (v := (-1)) hx hb dX3_notice_23 (by decide) ?_
      refine W.widen (k := 4) (n := 25) (Nat.zero_le _) (Nat.zero_le _) ?_
      have hsp : sC_notice (t, lm, nN, nM, ns, ms, rt) g_ f_ t_ = ((-1), (t, lm, nN, nM, ns, ms, rt)) := by simp [sC_notice, d_6, c_12]
      exact pc_reti hx hb hr hlocks hP hD hS dX3_notice_24 ⟨ad, pg, rfl, by rw [hsp], by rw [hsp]; exact h0⟩
    · have c_12 : ¬ g_ < 1 := fun h => c_12 ((lg_cmp_lt _ _).mpr h)
      refine lv_lload_n hx hb dX3_notice_15 rfl (lv_at hl 1 rfl) ?_
      refine lv_ldc2 hx hb hown (hts _ mw_75) dX3_notice_16 ?_
      refine W.lcmp hx hb dX3_notice_19 ?_
      refine lv_if_le (tgt := 25) hx hb dX3_notice_20 (by decide) (fun c_20 => ?_) (fun c_20 => ?_)
      · have c_20 := (lg_cmp_le _ _).mp c_20
        refine lv_iload_n hx hb dX3_notice_25 rfl (lv_at hl 2 rfl) ?_
        refine lv_if_lt (tgt := 42) hx hb dX3_notice_26 (by decide) (fun c_26 => ?_) (fun c_26 => ?_)
        · refine lv_iconst (v := (-1)) hx hb dX3_notice_42 (by decide) ?_
          refine W.widen (k := 4) (n := 25) (Nat.zero_le _) (Nat.zero_le _) ?_
          have hsp : sC_notice (t, lm, nN, nM, ns, ms, rt) g_ f_ t_ = ((-1), (t, lm, nN, nM, ns, ms, rt)) := by simp [sC_notice, d_6, c_12, c_20, c_26]
          exact pc_reti hx hb hr hlocks hP hD hS dX3_notice_43 ⟨ad, pg, rfl, by rw [hsp], by rw [hsp]; exact h0⟩
        · refine lv_iload hx hb dX3_notice_29 (lv_at hl 3 rfl) ?_
          refine lv_iload_n hx hb dX3_notice_31 rfl (lv_at hl 2 rfl) ?_
          refine lv_icmp_lt (tgt := 42) hx hb dX3_notice_32 (by decide) (fun c_32 => ?_) (fun c_32 => ?_)
          · refine lv_iconst (v := (-1)) hx hb dX3_notice_42 (by decide) ?_
            refine W.widen (k := 4) (n := 25) (Nat.zero_le _) (Nat.zero_le _) ?_
            have hsp : sC_notice (t, lm, nN, nM, ns, ms, rt) g_ f_ t_ = ((-1), (t, lm, nN, nM, ns, ms, rt)) := by simp [sC_notice, d_6, c_12, c_20, c_26, c_32]
            exact pc_reti hx hb hr hlocks hP hD hS dX3_notice_43 ⟨ad, pg, rfl, by rw [hsp], by rw [hsp]; exact h0⟩
          · refine lv_iload hx hb dX3_notice_35 (lv_at hl 3 rfl) ?_
            refine lv_ldc hx hb hown (hts _ mw_62) dX3_notice_37 ?_
            refine lv_icmp_le (tgt := 44) hx hb dX3_notice_39 (by decide) (fun c_39 => ?_) (fun c_39 => ?_)
            · refine lv_aload_n hx hb dX3_notice_44 rfl (lv_at hl 0 rfl) ?_
              refine pw_get (ci := 3) (C := RX3) (T := TX3) (N := 8) hx hb hts inX3 hown hK hP m0 e0 rfl 4 (by decide) (hts _ mw_37) (fun _ h9 => h9) rfl dX3_notice_45 ?_
              refine lv_istore (lv' := [(5, .int (nI nN)), (0, .ref (ad 0)), (1, .long g_), (3, .int f_), (4, .int t_)]) hx hb dX3_notice_48 hl (by decide) rfl (fun ls hl => ?_)
              refine lv_aload_n hx hb dX3_notice_50 rfl (lv_at hl 1 rfl) ?_
              refine pw_get (ci := 3) (C := RX3) (T := TX3) (N := 8) hx hb hts inX3 hown hK hP m0 e0 rfl 0 (by decide) (hts _ mw_33) (fun _ h9 => h9) rfl dX3_notice_51 ?_
              refine lv_iload hx hb dX3_notice_54 (lv_at hl 0 rfl) ?_
              refine pw_new (ci := 1) (C := RX1) (T := TX1) (N := 7) (fs := [.long 0, .int 0, .int 0, .null, .null, .null, .long 0]) hx hb hts inX1 tyX1 tyX1_ok hown (hts _ mw_14) (hts _ mw_76) (hts _ mw_4) hK hP hD hS hA rfl (by decide) (Nat.le_of_ble_eq_true rfl) (Nat.le_of_ble_eq_true rfl) dX3_notice_56 (fun q H hq hP hD hS => ?_)
              obtain ⟨f_1, ef_1⟩ : ∃ zz : Nat → va_E, zz = va_up f q (.inr (1, [.long 0, .int 0, .int 0, .null, .null, .null, .long 0])) := ⟨_, rfl⟩
              have hP : va_P G vwCl (va_pl (L ++ [q]) f_1) H := by rw [ef_1]; exact hP
              have hD : va_D (pw_A L s.heap.size) (va_pl (L ++ [q]) f_1) := by rw [ef_1]; exact hD
              have mf_1_ad_0 : ad 0 ∈ (L ++ [q]) := List.mem_append_left _ m0
              have hf_1_ad_0 := (show f_1 (ad 0) = f (ad 0) by rw [ef_1]; exact va_up_ne _ _ (fun h => hq (h ▸ m0))).trans e0
              have mf_1_ad_1 : ad 1 ∈ (L ++ [q]) := List.mem_append_left _ m1
              have hf_1_ad_1 := (show f_1 (ad 1) = f (ad 1) by rw [ef_1]; exact va_up_ne _ _ (fun h => hq (h ▸ m1))).trans e1
              have mf_1_q : q ∈ (L ++ [q]) := List.mem_append_right _ (List.mem_singleton.mpr rfl)
              have hf_1_q : f_1 q = .inr (1, [.long 0, .int 0, .int 0, .null, .null, .null, .long 0]) := by rw [ef_1]; exact va_up_self _ _ _
              refine lv_dup hx hb dX3_notice_59 rfl ?_
              refine lv_lload_n hx hb dX3_notice_60 rfl (lv_at hl 2 rfl) ?_
              refine lv_iload_n hx hb dX3_notice_61 rfl (lv_at hl 3 rfl) ?_
              refine lv_iload hx hb dX3_notice_62 (lv_at hl 4 rfl) ?_
              refine pc_callI (As := [.long g_, .int f_, .int t_]) (rest := [.ref q, .int (nI nN), .ref (ad 1)]) ⟨hx, hb, hml, hown, hts⟩ (k_N_init l G cs (L ++ [q]) f_1 _ q g_ f_ t_ mf_1_q hf_1_q) (cwI 3 hts (wg_I mw_79) rfl rfl rfl (hts _ mw_4) (hts _ mw_77) (hts _ mw_78) rfl (by decide +kernel) ⟨Nat.le_of_ble_eq_true rfl, Nat.le_of_ble_eq_true rfl⟩) hK hP hD hS hA px_T (fun _ _ _ => trivial) rfl hl.1 rfl (lv_room (Nat.le_of_ble_eq_true rfl)) dX3_notice_64 ⟨Nat.le_of_ble_eq_true rfl, Nat.le_of_ble_eq_true rfl⟩ (fun L1 f1 H locs hr_2 hP hD hS => ?_)
              obtain ⟨q1, q2, q3, hn1, hn2, hn3, hsub, hkeep, hN⟩ := hr_2
              have hkeep : ∀ a, a ∈ (L ++ [q]) → a ≠ q → f1 a = f_1 a := hkeep
              have mmad_0 : ad 0 ∈ L1 := hsub _ mf_1_ad_0
              have eead_0 := (hkeep (ad 0) mf_1_ad_0 (fun z => hq (z ▸ m0))).trans hf_1_ad_0
              have mmad_1 : ad 1 ∈ L1 := hsub _ mf_1_ad_1
              have eead_1 := (hkeep (ad 1) mf_1_ad_1 (fun z => hq (z ▸ m1))).trans hf_1_ad_1
              refine pw_astqN (k := nN) (r := (RX1, TX1, 7)) hx hb hK hP hD hS mmad_1 4 1 eead_1 rfl hN.1.1 hN.2.1.1 rfl (by omega) (by decide) dX3_notice_67 (fun H locs hP hD hS => ?_)
              obtain ⟨fA, efA⟩ : ∃ zz : Nat → va_E, zz = va_up f1 (ad 1) (.inl (cs 4, 6, .inr (.inr (.inr (.inr (va_up (ps_g ad 8 4 nN) nN (some q))))))) := ⟨_, rfl⟩
              have hP : va_P G vwCl (va_pl L1 fA) H := by rw [efA]; exact hP
              have hD : va_D (pw_A L s.heap.size) (va_pl L1 fA) := by rw [efA]; exact hD
              have e00 := (show fA (ad 0) = f1 (ad 0) by rw [efA]; exact va_up_ne _ _ (h0.ne (pu_lo (by decide)) (pu_lo (by decide)) (by decide))).trans eead_0
              refine lv_aload_n hx hb dX3_notice_68 rfl (lv_at hl 1 rfl) ?_
              refine lv_dup hx hb dX3_notice_69 rfl ?_
              refine pw_get (ci := 3) (C := RX3) (T := TX3) (N := 8) hx hb hts inX3 hown hK hP mmad_0 e00 rfl 4 (by decide) (hts _ mw_37) (fun _ h9 => h9) rfl dX3_notice_70 ?_
              refine lv_iconst (v := 1) hx hb dX3_notice_73 (by decide) ?_
              refine lv_iadd hx hb dX3_notice_74 ?_
              have eix75 : nI nN + 1 = nI (nN + 1) := nI_1 nN
              rw [eix75]
              refine pw_put (ty := .int) (ci := 3) (v := .int (nI (nN + 1))) (C := RX3) (T := TX3) (N := 8) hx hb hts inX3 tyX3 tyX3_ok nmX3 hown hK hP hD hS mmad_0 e00 rfl 4 (by decide) (hts _ mw_37) (fun _ h9 => h9) rfl (by decide +kernel) rfl rfl (Nat.le_of_ble_eq_true rfl) dX3_notice_75 (fun H locs hP hD hS => ?_)
              obtain ⟨f_3, ef_3⟩ : ∃ zz : Nat → va_E, zz = va_up fA (ad 0) (.inr (3, [.ref (ad 1), .ref (ad 2), .ref (ad 3), .ref (ad 4), .int (nI (nN + 1)), .int (nI nM), .int t, .int lm])) := ⟨_, rfl⟩
              have hP : va_P G vwCl (va_pl L1 f_3) H := by rw [ef_3]; exact hP
              have hD : va_D (pw_A L s.heap.size) (va_pl L1 f_3) := by rw [ef_3]; exact hD
              have hf_3_ad_0 : f_3 (ad 0) = .inr (3, [.ref (ad 1), .ref (ad 2), .ref (ad 3), .ref (ad 4), .int (nI (nN + 1)), .int (nI nM), .int t, .int lm]) := by rw [ef_3]; exact va_up_self _ _ _
              refine lv_iload hx hb dX3_notice_78 (lv_at hl 0 rfl) ?_
              have a0 : ∀ x, x ∉ L → x ≠ ad 0 ∧ x ≠ ad 1 := fun x hx0 => ⟨fun z => hx0 (z ▸ m0), fun z => hx0 (z ▸ m1)⟩
              have hq1 : q1 ∉ L := fun z => hn1 (List.mem_append_left _ z)
              have hq2 : q2 ∉ L := fun z => hn2 (List.mem_append_left _ z)
              have hq3 : q3 ∉ L := fun z => hn3 (List.mem_append_left _ z)
              have kp : ∀ x, x ≠ ad 0 → x ≠ ad 1 → f_3 x = f1 x := fun x z0 z1 => by rw [ef_3, va_up_ne _ _ z0, efA, va_up_ne _ _ z1]
              have hsubL : ∀ a ∈ L, a ∈ L1 := fun a ha => hsub a (List.mem_append_left _ ha)
              have hNz : NT cs L1 f_3 q q1 q2 q3 g_ f_ t_ (fun _ => 0) (fun _ => 0) (fun _ => 0) 0 := by
                obtain ⟨w1, ⟨w2, w3, w4, w5⟩, w6⟩ := hN
                exact ⟨w1, ⟨(kp _ (a0 _ hq).1 (a0 _ hq).2).trans w2, (kp _ (a0 _ hq1).1 (a0 _ hq1).2).trans w3, (kp _ (a0 _ hq2).1 (a0 _ hq2).2).trans w4, (kp _ (a0 _ hq3).1 (a0 _ hq3).2).trans w5⟩, w6⟩
              obtain ⟨ad', had, hps⟩ := h0.more (n' := (g_, f_, t_, fun _ => 0, fun _ => 0, fun _ => 0, 0)) (by omega) hsubL ⟨⟨hq, hq1, hq2, hq3⟩, fun z => hn1 (z ▸ List.mem_append_right _ (List.mem_singleton.mpr rfl)), fun z => hn2 (z ▸ List.mem_append_right _ (List.mem_singleton.mpr rfl)), fun z => hn3 (z ▸ List.mem_append_right _ (List.mem_singleton.mpr rfl))⟩ hNz
                (fun r hr h1 => by
                  rw [kp _ (h0.ne hr (pu_lo (by decide)) (by omega)) (h0.ne hr (pu_lo (by decide)) (by omega)), hkeep _ (List.mem_append_left _ (h0.mem hr)) (fun z => hq (z ▸ h0.mem hr)), ef_1]
                  exact va_up_ne _ _ (fun z => hq (z ▸ h0.mem hr)))
                (by rw [ef_3]; exact va_up_self _ _ _)
                (by rw [ef_3, va_up_ne _ _ (h0.ne (pu_lo (by decide)) (pu_lo (by decide)) (by decide)), efA]; exact va_up_self _ _ _)
              have hsp : sC_notice (t, lm, nN, nM, ns, ms, rt) g_ f_ t_ = (nI nN, (t, lm, nN + 1, nM, va_up ns nN (g_, f_, t_, fun _ => 0, fun _ => 0, fun _ => 0, 0), ms, rt)) := by simp [sC_notice, d_6, c_12, c_20, c_26, c_32, c_39]
              exact pc_reti hx hb hr hlocks hP hD hS dX3_notice_80 ⟨ad', pg, had, by rw [hsp], by rw [hsp]; exact hps⟩
            · refine lv_iconst (v := (-1)) hx hb dX3_notice_42 (by decide) ?_
              refine W.widen (k := 4) (n := 25) (Nat.zero_le _) (Nat.zero_le _) ?_
              have hsp : sC_notice (t, lm, nN, nM, ns, ms, rt) g_ f_ t_ = ((-1), (t, lm, nN, nM, ns, ms, rt)) := by simp [sC_notice, d_6, c_12, c_20, c_26, c_32, c_39]
              exact pc_reti hx hb hr hlocks hP hD hS dX3_notice_43 ⟨ad, pg, rfl, by rw [hsp], by rw [hsp]; exact h0⟩
      · have c_20 : ¬ g_ ≤ 1000000000 := fun h => c_20 ((lg_cmp_le _ _).mpr h)
        refine lv_iconst (v := (-1)) hx hb dX3_notice_23 (by decide) ?_
        refine W.widen (k := 4) (n := 25) (Nat.zero_le _) (Nat.zero_le _) ?_
        have hsp : sC_notice (t, lm, nN, nM, ns, ms, rt) g_ f_ t_ = ((-1), (t, lm, nN, nM, ns, ms, rt)) := by simp [sC_notice, d_6, c_12, c_20]
        exact pc_reti hx hb hr hlocks hP hD hS dX3_notice_24 ⟨ad, pg, rfl, by rw [hsp], by rw [hsp]; exact h0⟩

set_option maxHeartbeats 4000000 in
set_option maxRecDepth 100000 in
theorem k_C_move (l : Launch) (G : va_G) (cs : Nat → ClassId) (L : List Nat) (f : Nat → va_E) (sz : Nat) (ad : Nat → Nat) (t lm : Int32) (nN nM : Nat) (ns : Nat → NS) (ms : Nat → MS) (rt : Nat → Int32) (pg : sp_P) (n_ : Int32) (g_ : Int64) (d_ : Int32) (h0 : PS cs L f ad t lm nN nM ns ms rt pg) : Met l yX3_move (Cond.code yX3_move cX3_move 7 (some FieldType.int) :: wg) ({ frames := 2, cells := 2, slots := 14, locals := 46 }) (pc_P [.ref (ad 0), .int n_, .long g_, .int d_] G vwCl (tyl cs) L f sz (fun _ => True)) (va_Qi (fun r u => ∃ ad' pg', ad' 0 = ad 0 ∧ r = (sC_move (t, lm, nN, nM, ns, ms, rt) n_ g_ d_).1 ∧ PSx cs u.1 u.2 ad' (sC_move (t, lm, nN, nM, ns, ms, rt) n_ g_ d_).2 pg') (pc_B G vwCl L sz) (pw_A L sz)) 2 14 (pw_A L sz) := by
  refine Met.ofW (cc := cX3_move) (maxL := 7) (ret := (some FieldType.int)) (by decide) rfl ?_
  intro p e s m args below meth c s₁ B hml hv
  obtain ⟨rfl, hsz, hP, hK, hD0, hX⟩ := hv
  have hx := B.exec
  have hb := B.bytes
  have hr := B.returns
  have hts0 := atoms_spec (ws := (Cond.code yX3_move cX3_move 7 (some FieldType.int) :: wg)) B.pre
  have hts := fun (w : Cond) (h : w ∈ wg) => hts0 w (List.mem_cons_of_mem _ h)
  have hown : s.vm.findClass RX3 = some m.cls := findClass_of_methodNamed B.named
  have hlocks := B.notSynchronized
  subst hsz
  have hD := pw_selfD (sz := s.heap.size) hD0
  have hA : ∀ q : Nat, s.heap.size ≤ q → pw_A L s.heap.size q := fun q h => Or.inr h
  have hS : va_S (pw_A L s.heap.size) s.heap s.heap [] := va_S.rf
  have hl := lv_entry ([.ref (ad 0), .int n_, .long g_, .int d_]) (n := 7) (Nat.le_of_ble_eq_true rfl)
  rw [lg_entry_eq]
  generalize (lg_sl ([.ref (ad 0), .int n_, .long g_, .int d_]) ++ List.replicate (7 - (lg_sl ([.ref (ad 0), .int n_, .long g_, .int d_])).length) Slot.unset).toArray = ls at hl ⊢
  have hl : lv_has ls 7 [(0, .ref (ad 0)), (1, .int n_), (2, .long g_), (4, .int d_)] := hl
  have hN6 := h0.nN6
  have hM12 := h0.nM12
  have m0 := h0.mem (pu_lo (r := 0) (by decide))
  have e0 := h0.e0
  have m1 := h0.mem (pu_lo (r := 1) (by decide))
  have e1 := h0.e1
  have m2 := h0.mem (pu_lo (r := 2) (by decide))
  have e2 := h0.e2
  have m3 := h0.mem (pu_lo (r := 3) (by decide))
  have e3 := h0.e3
  refine lv_aload_n hx hb dX3_move_0 rfl (lv_at hl 0 rfl) ?_
  refine lv_iload_n hx hb dX3_move_1 rfl (lv_at hl 1 rfl) ?_
  refine pr_callVq (As := [.int n_]) (rest := []) ⟨hx, hb, hml, hown, hts⟩ (k_C_nAt l G cs L f ad t lm nN nM ns ms rt pg n_ h0) (cwV 1 hts (wg_V mw_63 mw_65 ms_0 mw_1 mw_66) rfl rfl rfl (by decide +kernel) ⟨Nat.le_of_ble_eq_true rfl, Nat.le_of_ble_eq_true rfl⟩) hK hP m0 e0 rfl px_T (fun _ _ _ => trivial) rfl hl.1 rfl (lv_room (Nat.le_of_ble_eq_true rfl)) dX3_move_2 ⟨Nat.le_of_ble_eq_true rfl, Nat.le_of_ble_eq_true rfl⟩ (fun r_1 hr_1 => ?_)
  rcases ix_cases (m := nN) (by omega) n_ with ⟨hxi, hnoi⟩ | ⟨i, hi, eni, hxi, hci, hdi⟩
  · obtain rfl : r_1 = none := by rw [hr_1, hxi]; rfl
    refine W.eq (g2 := F0 m 5 ls [.null]) rfl ?_
    refine lv_astoreN (lv' := [(5, .null), (0, .ref (ad 0)), (1, .int n_), (2, .long g_), (4, .int d_)]) hx hb dX3_move_5 hl (by decide) rfl (fun ls hl => ?_)
    refine lv_aloadN hx hb dX3_move_7 (lv_at hl 0 rfl) ?_
    refine lv_ifnullN (tgt := 27) hx hb dX3_move_9 (by decide) ?_
    refine lv_iconst (v := (-1)) hx hb dX3_move_27 (by decide) ?_
    refine W.widen (k := 2) (n := 14) (Nat.zero_le _) (Nat.zero_le _) ?_
    have hsp : sC_move (t, lm, nN, nM, ns, ms, rt) n_ g_ d_ = ((-1), (t, lm, nN, nM, ns, ms, rt)) := by simp [sC_move, hxi]
    exact pc_reti hx hb hr hlocks hP hD hS dX3_move_28 ⟨ad, pg, rfl, by rw [hsp], by rw [hsp]; exact h0⟩
  · obtain rfl : r_1 = some (ad (8 + 4 * i)) := by rw [hr_1, hxi]; rfl
    refine W.eq (g2 := F0 m 5 ls [.ref (ad (8 + 4 * i))]) rfl ?_
    refine lv_astore (lv' := [(5, .ref (ad (8 + 4 * i))), (0, .ref (ad 0)), (1, .int n_), (2, .long g_), (4, .int d_)]) hx hb dX3_move_5 hl (by decide) rfl (fun ls hl => ?_)
    refine lv_aload hx hb dX3_move_7 (lv_at hl 0 rfl) ?_
    refine lv_ifnull hx hb dX3_move_9 ?_
    refine lv_aload_n hx hb dX3_move_12 rfl (lv_at hl 1 rfl) ?_
    refine pw_get (ci := 3) (C := RX3) (T := TX3) (N := 8) hx hb hts inX3 hown hK hP m0 e0 rfl 5 (by decide) (hts _ mw_38) (fun _ h9 => h9) rfl dX3_move_13 ?_
    refine lv_bipush (v := 12) hx hb dX3_move_16 (by decide) ?_
    refine lv_icmp_ge (tgt := 27) hx hb dX3_move_18 (by decide) (fun c_18 => ?_) (fun c_18 => ?_)
    · have d_18 : 12 ≤ nM := (nI_leI (a := 12) (b := nM) (by decide) (by omega)).mp c_18
      refine lv_iconst (v := (-1)) hx hb dX3_move_27 (by decide) ?_
      refine W.widen (k := 2) (n := 14) (Nat.zero_le _) (Nat.zero_le _) ?_
      have hsp : sC_move (t, lm, nN, nM, ns, ms, rt) n_ g_ d_ = ((-1), (t, lm, nN, nM, ns, ms, rt)) := by simp [sC_move, hxi, d_18]
      exact pc_reti hx hb hr hlocks hP hD hS dX3_move_28 ⟨ad, pg, rfl, by rw [hsp], by rw [hsp]; exact h0⟩
    · have d_18 : ¬ 12 ≤ nM := fun z => c_18 ((nI_leI (a := 12) (b := nM) (by decide) (by omega)).mpr z)
      refine lv_lload_n hx hb dX3_move_21 rfl (lv_at hl 3 rfl) ?_
      refine lv_lconst (v := 1) hx hb dX3_move_22 (by decide) ?_
      refine W.lcmp hx hb dX3_move_23 ?_
      refine lv_if_ge (tgt := 29) hx hb dX3_move_24 (by decide) (fun c_24 => ?_) (fun c_24 => ?_)
      · have c_24 := (lg_cmp_ge _ _).mp c_24
        refine lv_aload hx hb dX3_move_29 (lv_at hl 0 rfl) ?_
        refine lv_iload hx hb dX3_move_31 (lv_at hl 4 rfl) ?_
        refine pr_callVi (As := [.int d_]) (rest := []) ⟨hx, hb, hml, hown, hts⟩ (k_N_covers l G cs L f (ad (8 + 4 * i)) (ad (9 + 4 * i)) (ad (10 + 4 * i)) (ad (11 + 4 * i)) (ns i).1 (ns i).2.1 (ns i).2.2.1 (ns i).2.2.2.1 (ns i).2.2.2.2.1 (ns i).2.2.2.2.2.1 (ns i).2.2.2.2.2.2 d_ (h0.nt hi)) (cwV 1 hts (wg_V mw_139 mw_140 mw_141 mw_4 mw_142) rfl rfl rfl (by decide +kernel) ⟨Nat.le_of_ble_eq_true rfl, Nat.le_of_ble_eq_true rfl⟩) hK hP (h0.nt hi).1.1 (h0.nt hi).2.1.1 rfl px_T (fun _ _ _ => trivial) rfl hl.1 rfl (lv_room (Nat.le_of_ble_eq_true rfl)) dX3_move_33 ⟨Nat.le_of_ble_eq_true rfl, Nat.le_of_ble_eq_true rfl⟩ (fun r_2 hr_2 => ?_)
        subst hr_2
        refine lv_if_eq (tgt := 50) hx hb dX3_move_36 (by decide) (fun c_36 => ?_) (fun c_36 => ?_)
        · refine lv_iconst (v := (-1)) hx hb dX3_move_50 (by decide) ?_
          refine W.widen (k := 2) (n := 14) (Nat.zero_le _) (Nat.zero_le _) ?_
          have hsp : sC_move (t, lm, nN, nM, ns, ms, rt) n_ g_ d_ = ((-1), (t, lm, nN, nM, ns, ms, rt)) := by simp [sC_move, hxi, d_18, c_24, c_36]
          exact pc_reti hx hb hr hlocks hP hD hS dX3_move_51 ⟨ad, pg, rfl, by rw [hsp], by rw [hsp]; exact h0⟩
        · refine lv_iload hx hb dX3_move_39 (lv_at hl 4 rfl) ?_
          refine lv_aload_n hx hb dX3_move_41 rfl (lv_at hl 1 rfl) ?_
          refine pw_get (ci := 3) (C := RX3) (T := TX3) (N := 8) hx hb hts inX3 hown hK hP m0 e0 rfl 6 (by decide) (hts _ mw_39) (fun _ h9 => h9) rfl dX3_move_42 ?_
          refine lv_iconst (v := 3) hx hb dX3_move_45 (by decide) ?_
          refine lv_iadd hx hb dX3_move_46 ?_
          refine lv_icmp_ge (tgt := 52) hx hb dX3_move_47 (by decide) (fun c_47 => ?_) (fun c_47 => ?_)
          · refine lv_aload hx hb dX3_move_52 (lv_at hl 0 rfl) ?_
            refine lv_aload_n hx hb dX3_move_54 rfl (lv_at hl 1 rfl) ?_
            refine pw_get (ci := 3) (C := RX3) (T := TX3) (N := 8) hx hb hts inX3 hown hK hP m0 e0 rfl 6 (by decide) (hts _ mw_39) (fun _ h9 => h9) rfl dX3_move_55 ?_
            refine pr_callVi (As := [.int t]) (rest := []) ⟨hx, hb, hml, hown, hts⟩ (k_N_stateOn l G cs L f (ad (8 + 4 * i)) (ad (9 + 4 * i)) (ad (10 + 4 * i)) (ad (11 + 4 * i)) (ns i).1 (ns i).2.1 (ns i).2.2.1 (ns i).2.2.2.1 (ns i).2.2.2.2.1 (ns i).2.2.2.2.2.1 (ns i).2.2.2.2.2.2 t (h0.nt hi)) (cwV 1 hts (wg_V mw_127 mw_128 mw_129 mw_4 mw_130) rfl rfl rfl (by decide +kernel) ⟨Nat.le_of_ble_eq_true rfl, Nat.le_of_ble_eq_true rfl⟩) hK hP (h0.nt hi).1.1 (h0.nt hi).2.1.1 rfl px_T (fun _ _ _ => trivial) rfl hl.1 rfl (lv_room (Nat.le_of_ble_eq_true rfl)) dX3_move_58 ⟨Nat.le_of_ble_eq_true rfl, Nat.le_of_ble_eq_true rfl⟩ (fun r_3 hr_3 => ?_)
            subst hr_3
            refine lv_iconst (v := 1) hx hb dX3_move_61 (by decide) ?_
            refine lv_icmp_eq (tgt := 68) hx hb dX3_move_62 (by decide) (fun c_62 => ?_) (fun c_62 => ?_)
            · refine lv_lload_n hx hb dX3_move_68 rfl (lv_at hl 3 rfl) ?_
              refine lv_aload hx hb dX3_move_69 (lv_at hl 0 rfl) ?_
              refine pw_get (ci := 1) (C := RX1) (T := TX1) (N := 7) hx hb hts inX1 hown hK hP (h0.nt hi).1.1 (h0.nt hi).2.1.1 rfl 0 (by decide) (hts _ mw_82) (fun _ h9 => h9) rfl dX3_move_71 ?_
              refine lv_aload_n hx hb dX3_move_74 rfl (lv_at hl 1 rfl) ?_
              refine lv_iload_n hx hb dX3_move_75 rfl (lv_at hl 2 rfl) ?_
              refine pr_callVl (As := [.int n_]) (rest := [.long ((ns i).1), .long g_]) ⟨hx, hb, hml, hown, hts⟩ (k_C_gim l G cs L f ad t lm nN nM ns ms rt pg n_ h0) (cwV 1 hts (wg_V mw_143 mw_145 ms_2 mw_1 mw_146) rfl rfl rfl (by decide +kernel) ⟨Nat.le_of_ble_eq_true rfl, Nat.le_of_ble_eq_true rfl⟩) hK hP m0 e0 rfl px_T (fun _ _ _ => trivial) rfl hl.1 rfl (lv_room (Nat.le_of_ble_eq_true rfl)) dX3_move_76 ⟨Nat.le_of_ble_eq_true rfl, Nat.le_of_ble_eq_true rfl⟩ (fun r_4 hr_4 => ?_)
              subst hr_4
              refine lv_lsub hx hb dX3_move_79 ?_
              refine W.lcmp hx hb dX3_move_80 ?_
              refine lv_if_le (tgt := 87) hx hb dX3_move_81 (by decide) (fun c_81 => ?_) (fun c_81 => ?_)
              · have c_81 := (lg_cmp_le _ _).mp c_81
                refine lv_aload_n hx hb dX3_move_87 rfl (lv_at hl 1 rfl) ?_
                refine pw_get (ci := 3) (C := RX3) (T := TX3) (N := 8) hx hb hts inX3 hown hK hP m0 e0 rfl 5 (by decide) (hts _ mw_38) (fun _ h9 => h9) rfl dX3_move_88 ?_
                refine lv_istore (lv' := [(6, .int (nI nM)), (5, .ref (ad (8 + 4 * i))), (0, .ref (ad 0)), (1, .int n_), (2, .long g_), (4, .int d_)]) hx hb dX3_move_91 hl (by decide) rfl (fun ls hl => ?_)
                refine lv_aload_n hx hb dX3_move_93 rfl (lv_at hl 2 rfl) ?_
                refine pw_get (ci := 3) (C := RX3) (T := TX3) (N := 8) hx hb hts inX3 hown hK hP m0 e0 rfl 1 (by decide) (hts _ mw_34) (fun _ h9 => h9) rfl dX3_move_94 ?_
                refine lv_iload hx hb dX3_move_97 (lv_at hl 0 rfl) ?_
                refine pw_new (ci := 0) (C := RX0) (T := TX0) (N := 8) (fs := [.int 0, .long 0, .int 0, .null, .int 0, .int 0, .int 0, .int 0]) hx hb hts inX0 tyX0 tyX0_ok hown (hts _ mw_16) (hts _ mw_155) (hts _ mw_5) hK hP hD hS hA rfl (by decide) (Nat.le_of_ble_eq_true rfl) (Nat.le_of_ble_eq_true rfl) dX3_move_99 (fun q H hq hP hD hS => ?_)
                obtain ⟨f_5, ef_5⟩ : ∃ zz : Nat → va_E, zz = va_up f q (.inr (0, [.int 0, .long 0, .int 0, .null, .int 0, .int 0, .int 0, .int 0])) := ⟨_, rfl⟩
                have hP : va_P G vwCl (va_pl (L ++ [q]) f_5) H := by rw [ef_5]; exact hP
                have hD : va_D (pw_A L s.heap.size) (va_pl (L ++ [q]) f_5) := by rw [ef_5]; exact hD
                have mf_5_ad_0 : ad 0 ∈ (L ++ [q]) := List.mem_append_left _ m0
                have hf_5_ad_0 := (show f_5 (ad 0) = f (ad 0) by rw [ef_5]; exact va_up_ne _ _ (fun h => hq (h ▸ m0))).trans e0
                have mf_5_ad_2 : ad 2 ∈ (L ++ [q]) := List.mem_append_left _ m2
                have hf_5_ad_2 := (show f_5 (ad 2) = f (ad 2) by rw [ef_5]; exact va_up_ne _ _ (fun h => hq (h ▸ m2))).trans e2
                have mf_5_q : q ∈ (L ++ [q]) := List.mem_append_right _ (List.mem_singleton.mpr rfl)
                have hf_5_q : f_5 q = .inr (0, [.int 0, .long 0, .int 0, .null, .int 0, .int 0, .int 0, .int 0]) := by rw [ef_5]; exact va_up_self _ _ _
                refine lv_dup hx hb dX3_move_102 rfl ?_
                refine lv_iload_n hx hb dX3_move_103 rfl (lv_at hl 3 rfl) ?_
                refine lv_lload_n hx hb dX3_move_104 rfl (lv_at hl 4 rfl) ?_
                refine lv_iload hx hb dX3_move_105 (lv_at hl 5 rfl) ?_
                refine lv_aload_n hx hb dX3_move_107 rfl (lv_at hl 2 rfl) ?_
                refine pw_get (ci := 3) (C := RX3) (T := TX3) (N := 8) hx hb hts inX3 hown hK hP mf_5_ad_0 hf_5_ad_0 rfl 6 (by decide) (hts _ mw_39) (fun _ h9 => h9) rfl dX3_move_108 ?_
                refine pc_callI (As := [.int n_, .long g_, .int d_, .int t]) (rest := [.ref q, .int (nI nM), .ref (ad 2)]) ⟨hx, hb, hml, hown, hts⟩ (k_M_init l G cs (L ++ [q]) f_5 _ q n_ g_ d_ t mf_5_q hf_5_q) (cwI 4 hts (wg_I mw_158) rfl rfl rfl (hts _ mw_5) (hts _ mw_156) (hts _ mw_157) rfl (by decide +kernel) ⟨Nat.le_of_ble_eq_true rfl, Nat.le_of_ble_eq_true rfl⟩) hK hP hD hS hA px_T (fun _ _ _ => trivial) rfl hl.1 rfl (lv_room (Nat.le_of_ble_eq_true rfl)) dX3_move_111 ⟨Nat.le_of_ble_eq_true rfl, Nat.le_of_ble_eq_true rfl⟩ (fun L1 f1 H locs hr_6 hP hD hS => ?_)
                obtain ⟨q1, hn1, hsub, hkeep, hN⟩ := hr_6
                have hkeep : ∀ a, a ∈ (L ++ [q]) → a ≠ q → f1 a = f_5 a := hkeep
                have mmad_0 : ad 0 ∈ L1 := hsub _ mf_5_ad_0
                have eead_0 := (hkeep (ad 0) mf_5_ad_0 (fun z => hq (z ▸ m0))).trans hf_5_ad_0
                have mmad_2 : ad 2 ∈ L1 := hsub _ mf_5_ad_2
                have eead_2 := (hkeep (ad 2) mf_5_ad_2 (fun z => hq (z ▸ m2))).trans hf_5_ad_2
                refine pw_astqN (k := nM) (r := (RX0, TX0, 8)) hx hb hK hP hD hS mmad_2 5 0 eead_2 rfl hN.1.1 hN.2.1 rfl (by omega) (by decide) dX3_move_114 (fun H locs hP hD hS => ?_)
                obtain ⟨fA, efA⟩ : ∃ zz : Nat → va_E, zz = va_up f1 (ad 2) (.inl (cs 5, 12, .inr (.inr (.inr (.inr (va_up (ps_g ad 32 2 nM) nM (some q))))))) := ⟨_, rfl⟩
                have hP : va_P G vwCl (va_pl L1 fA) H := by rw [efA]; exact hP
                have hD : va_D (pw_A L s.heap.size) (va_pl L1 fA) := by rw [efA]; exact hD
                have e00 := (show fA (ad 0) = f1 (ad 0) by rw [efA]; exact va_up_ne _ _ (h0.ne (pu_lo (by decide)) (pu_lo (by decide)) (by decide))).trans eead_0
                refine lv_aload_n hx hb dX3_move_115 rfl (lv_at hl 2 rfl) ?_
                refine lv_dup hx hb dX3_move_116 rfl ?_
                refine pw_get (ci := 3) (C := RX3) (T := TX3) (N := 8) hx hb hts inX3 hown hK hP mmad_0 e00 rfl 5 (by decide) (hts _ mw_38) (fun _ h9 => h9) rfl dX3_move_117 ?_
                refine lv_iconst (v := 1) hx hb dX3_move_120 (by decide) ?_
                refine lv_iadd hx hb dX3_move_121 ?_
                have eix122 : nI nM + 1 = nI (nM + 1) := nI_1 nM
                rw [eix122]
                refine pw_put (ty := .int) (ci := 3) (v := .int (nI (nM + 1))) (C := RX3) (T := TX3) (N := 8) hx hb hts inX3 tyX3 tyX3_ok nmX3 hown hK hP hD hS mmad_0 e00 rfl 5 (by decide) (hts _ mw_38) (fun _ h9 => h9) rfl (by decide +kernel) rfl rfl (Nat.le_of_ble_eq_true rfl) dX3_move_122 (fun H locs hP hD hS => ?_)
                obtain ⟨f_7, ef_7⟩ : ∃ zz : Nat → va_E, zz = va_up fA (ad 0) (.inr (3, [.ref (ad 1), .ref (ad 2), .ref (ad 3), .ref (ad 4), .int (nI nN), .int (nI (nM + 1)), .int t, .int lm])) := ⟨_, rfl⟩
                have hP : va_P G vwCl (va_pl L1 f_7) H := by rw [ef_7]; exact hP
                have hD : va_D (pw_A L s.heap.size) (va_pl L1 f_7) := by rw [ef_7]; exact hD
                have hf_7_ad_0 : f_7 (ad 0) = .inr (3, [.ref (ad 1), .ref (ad 2), .ref (ad 3), .ref (ad 4), .int (nI nN), .int (nI (nM + 1)), .int t, .int lm]) := by rw [ef_7]; exact va_up_self _ _ _
                refine lv_iload hx hb dX3_move_125 (lv_at hl 0 rfl) ?_
                have a0 : ∀ x, x ∉ L → x ≠ ad 0 ∧ x ≠ ad 2 := fun x hx0 => ⟨fun z => hx0 (z ▸ m0), fun z => hx0 (z ▸ m2)⟩
                have hq1 : q1 ∉ L := fun z => hn1 (List.mem_append_left _ z)
                have kp : ∀ x, x ≠ ad 0 → x ≠ ad 2 → f_7 x = f1 x := fun x z0 z1 => by rw [ef_7, va_up_ne _ _ z0, efA, va_up_ne _ _ z1]
                have hsubL : ∀ a ∈ L, a ∈ L1 := fun a ha => hsub a (List.mem_append_left _ ha)
                have hNz : MV cs L1 f_7 q q1 n_ g_ d_ (fun _ => 0) 0 0 t 0 := by
                  obtain ⟨w1, w2, w3⟩ := hN
                  exact ⟨w1, (kp _ (a0 _ hq).1 (a0 _ hq).2).trans w2, (kp _ (a0 _ hq1).1 (a0 _ hq1).2).trans w3⟩
                obtain ⟨ad', had, hps⟩ := h0.moreM (m' := (n_, g_, d_, fun _ => 0, 0, 0, t, 0)) (by omega) hsubL ⟨hq, hq1, fun z => hn1 (z ▸ List.mem_append_right _ (List.mem_singleton.mpr rfl))⟩ (Nat.zero_le 6) hNz
                  (fun r hr h1 h2 => by
                    rw [kp _ (h0.ne hr (pu_lo (by decide)) (by omega)) (h0.ne hr (pu_lo (by decide)) (by omega)), hkeep _ (List.mem_append_left _ (h0.mem hr)) (fun z => hq (z ▸ h0.mem hr)), ef_5]
                    exact va_up_ne _ _ (fun z => hq (z ▸ h0.mem hr)))
                  (by rw [ef_7]; exact va_up_self _ _ _)
                  (by rw [ef_7, va_up_ne _ _ (h0.ne (pu_lo (by decide)) (pu_lo (by decide)) (by decide)), efA]; exact va_up_self _ _ _)
                have hsp : sC_move (t, lm, nN, nM, ns, ms, rt) n_ g_ d_ = (nI nM, (t, lm, nN, nM + 1, ns, va_up ms nM (n_, g_, d_, fun _ => 0, 0, 0, t, 0), rt)) := by simp [sC_move, hxi, d_18, c_24, c_36, c_47, c_62, c_81]
                exact pc_reti hx hb hr hlocks hP hD hS dX3_move_127 ⟨ad', pg, had, by rw [hsp], by rw [hsp]; exact hps⟩
              · have c_81 : ¬ g_ ≤ (((ns i).1) - (sC_gim ms n_ nM)) := fun h => c_81 ((lg_cmp_le _ _).mpr h)
                refine lv_bipush (v := (-3)) hx hb dX3_move_84 (by decide) ?_
                refine W.widen (k := 2) (n := 14) (Nat.zero_le _) (Nat.zero_le _) ?_
                have hsp : sC_move (t, lm, nN, nM, ns, ms, rt) n_ g_ d_ = ((-3), (t, lm, nN, nM, ns, ms, rt)) := by simp [sC_move, hxi, d_18, c_24, c_36, c_47, c_62, c_81]
                exact pc_reti hx hb hr hlocks hP hD hS dX3_move_86 ⟨ad, pg, rfl, by rw [hsp], by rw [hsp]; exact h0⟩
            · refine lv_bipush (v := (-2)) hx hb dX3_move_65 (by decide) ?_
              refine W.widen (k := 2) (n := 14) (Nat.zero_le _) (Nat.zero_le _) ?_
              have hsp : sC_move (t, lm, nN, nM, ns, ms, rt) n_ g_ d_ = ((-2), (t, lm, nN, nM, ns, ms, rt)) := by simp [sC_move, hxi, d_18, c_24, c_36, c_47, c_62]
              exact pc_reti hx hb hr hlocks hP hD hS dX3_move_67 ⟨ad, pg, rfl, by rw [hsp], by rw [hsp]; exact h0⟩
          · refine lv_iconst (v := (-1)) hx hb dX3_move_50 (by decide) ?_
            refine W.widen (k := 2) (n := 14) (Nat.zero_le _) (Nat.zero_le _) ?_
            have hsp : sC_move (t, lm, nN, nM, ns, ms, rt) n_ g_ d_ = ((-1), (t, lm, nN, nM, ns, ms, rt)) := by simp [sC_move, hxi, d_18, c_24, c_36, c_47]
            exact pc_reti hx hb hr hlocks hP hD hS dX3_move_51 ⟨ad, pg, rfl, by rw [hsp], by rw [hsp]; exact h0⟩
      · have c_24 : ¬ 1 ≤ g_ := fun h => c_24 ((lg_cmp_ge _ _).mpr h)
        refine lv_iconst (v := (-1)) hx hb dX3_move_27 (by decide) ?_
        refine W.widen (k := 2) (n := 14) (Nat.zero_le _) (Nat.zero_le _) ?_
        have hsp : sC_move (t, lm, nN, nM, ns, ms, rt) n_ g_ d_ = ((-1), (t, lm, nN, nM, ns, ms, rt)) := by simp [sC_move, hxi, d_18, c_24]
        exact pc_reti hx hb hr hlocks hP hD hS dX3_move_28 ⟨ad, pg, rfl, by rw [hsp], by rw [hsp]; exact h0⟩
