/-! THE START: classes known, tables read, both objects made. Laid by wip/gen/lawstart.py. -/
theorem wk_arr {args : Array Value} {s : State} {ty : FieldType} (h : (Cond.arrayClass ty).before args s = true) : ∃ cA : ClassId, ArrOfT s cA ty ∧ s.vm.findClass ("[" ++ ty.toString) = some cA := by
  obtain ⟨c, k, comp, f1, f2, f3⟩ := Cond.arrayClass_spec h
  exact ⟨c, fun N z => ⟨(fun k h => by cases h), k, f2, comp, f3⟩, f1⟩
theorem wk_arq {s : State} {C : String} (h : va_AO C s) : ∃ cA : ClassId, ArrOfT s cA (.object C) ∧ va_RA s cA (.object C) := by
  obtain ⟨comp, c, k, f4, -, f2, f3, f1⟩ := Cond.arrayOver_spec h
  exact ⟨c, fun N z => ⟨(fun k h => by cases h), k, f2, comp, f3⟩, k, comp, f2, f3, f4, f1⟩
theorem wk_AO {args : Array Value} {s : State} (hts : ∀ w ∈ lw_tbl, w.before args s = true) : va_AO "PaperStates$Notice" s ∧ va_AO "PaperStates$Move" s := ⟨va_AO.of (hts (.arrayOver (.object "PaperStates$Notice")) (by decide +kernel)), va_AO.of (hts (.arrayOver (.object "PaperStates$Move")) (by decide +kernel))⟩
set_option maxHeartbeats 4000000 in
set_option maxRecDepth 100000 in
theorem wk_K {args : Array Value} {s : State} (hts0 : ∀ w ∈ lw_tbl, w.before args s = true) : ∃ (cs : Nat → ClassId) (G : va_G), va_K G vwCl (tyl cs) s := by
  have hts : ∀ w ∈ wg, w.before args s = true := fun w h => hts0 w (List.mem_filter.mp h).1
  obtain ⟨c0, iS0, hKn0⟩ := u_known (C := RX0) (T := TX0) (N := 8) (n := 8) hts inX0 (hts _ mw_155)
  obtain ⟨c1, iS1, hKn1⟩ := u_known (C := RX1) (T := TX1) (N := 7) (n := 7) hts inX1 (hts _ mw_76)
  obtain ⟨c2, iS2, hKn2⟩ := u_known (C := RX2) (T := TX2) (N := 2) (n := 2) hts inX2 (hts _ mw_19)
  obtain ⟨c3, iS3, hKn3⟩ := u_known (C := RX3) (T := TX3) (N := 8) (n := 8) hts inX3 (hts _ mw_7)
  obtain ⟨c4, iS4, hKn4⟩ := u_known (C := RX4) (T := TX4) (N := 23) (n := 23) hts inX4 (hts _ mw_322)
  obtain ⟨ti, ai, ni⟩ := wk_arr (hts _ mw_106)
  obtain ⟨tb, ab, nb⟩ := wk_arr (hts _ mw_32)
  obtain ⟨tz, az, nz⟩ := wk_arr (hts _ mw_31)
  obtain ⟨tl, al, nl⟩ := wk_arr (hts _ mw_397)
  obtain ⟨tn, an, nn⟩ := wk_arq (wk_AO hts0).1
  obtain ⟨tm, am, nm⟩ := wk_arq (wk_AO hts0).2
  refine ⟨fun k => if k = 0 then ti else if k = 1 then tb else if k = 2 then tz else if k = 3 then tl else if k = 4 then tn else tm, (fun k => if k = 0 then c0 else if k = 1 then c1 else if k = 2 then c2 else if k = 3 then c3 else c4, fun k => if k = 0 then iS0 else if k = 1 then iS1 else if k = 2 then iS2 else if k = 3 then iS3 else iS4), ?_, ?_⟩
  · intro k q hq
    match k, hq with
    | 0, hq => cases hq; exact hKn0
    | 1, hq => cases hq; exact hKn1
    | 2, hq => cases hq; exact hKn2
    | 3, hq => cases hq; exact hKn3
    | 4, hq => cases hq; exact hKn4
    | k + 5, hq => simp [vwCl] at hq
  · intro k q hq
    match k, hq with
    | 0, hq => cases hq; exact ⟨ai, ni⟩
    | 1, hq => cases hq; exact ⟨ab, nb⟩
    | 2, hq => cases hq; exact ⟨az, nz⟩
    | 3, hq => cases hq; exact ⟨al, nl⟩
    | 4, hq => cases hq; exact ⟨an, nn⟩
    | 5, hq => cases hq; exact ⟨am, nm⟩
    | k + 6, hq => simp [tyl] at hq
set_option maxHeartbeats 4000000 in
set_option maxRecDepth 100000 in
theorem wk_SX {args : Array Value} {s : State} (hts : ∀ w ∈ lw_tbl, w.before args s = true) (hgv : (Jvm.Cond.and given_1 narrow_1).before args s = true) : ∃ tL tC : Nat, SX tL tC (fun q : Nat => s.heap.size ≤ q) s s.heap := by
  have hs := flat_of_before _ hgv
  have hA : ∀ a : Nat, a < s.heap.size → ¬ (fun q : Nat => s.heap.size ≤ q) a := fun a h => Nat.not_le.mpr h
  have hmL : ∀ j, j < 30 → Cond.eq (.elem (Term.static "PaperStates" "LEADS" "[I") (.int (Int32.ofNat j))) (.int (sp_leads j)) ∈ flatC (Jvm.Cond.and given_1 narrow_1) := by decide +kernel
  obtain ⟨tL, eL, hTL⟩ := va_Tof (tm := (Term.static "PaperStates" "LEADS" "[I")) (ty := .int) (N := 30) (f := fun j => .int (sp_leads j)) (A := (fun q : Nat => s.heap.size ≤ q)) (by decide) (hs (.arrayOf (Term.static "PaperStates" "LEADS" "[I") .int) (by decide +kernel)) (va_eqt (hs (.eq (.length (Term.static "PaperStates" "LEADS" "[I")) (.int (Int32.ofNat 30))) (by decide +kernel))) (fun j hj => va_eqt (hs _ (hmL j hj))) hA
  have hmC : ∀ j, j < 6 → Cond.eq (.elem (Term.static "PaperStates" "STATE_LETTERS" "[C") (.int (Int32.ofNat j))) (.int (sp_lets j)) ∈ flatC (Jvm.Cond.and given_1 narrow_1) := by decide +kernel
  obtain ⟨tC, eC, hTC⟩ := va_Tof (tm := (Term.static "PaperStates" "STATE_LETTERS" "[C")) (ty := .char) (N := 6) (f := fun j => .int (sp_lets j)) (A := (fun q : Nat => s.heap.size ≤ q)) (by decide) (hs (.arrayOf (Term.static "PaperStates" "STATE_LETTERS" "[C") .char) (by decide +kernel)) (va_eqt (hs (.eq (.length (Term.static "PaperStates" "STATE_LETTERS" "[C")) (.int (Int32.ofNat 6))) (by decide +kernel))) (fun j hj => va_eqt (hs _ (hmC j hj))) hA
  exact ⟨tL, tC, va_Zref (hts (.laysStatic "PaperStates" "LEADS" "[I") (by decide +kernel)) (hts (.initialized "PaperStates") (by decide +kernel)) eL hA, hTL, va_Zref (hts (.laysStatic "PaperStates" "STATE_LETTERS" "[C") (by decide +kernel)) (hts (.initialized "PaperStates") (by decide +kernel)) eC hA, hTC, va_Nw.of rfl (hts (.fieldLinkNest "PaperStates$Move" 39 "PaperStates" "STATE_LETTERS" "[C" "PaperStates") (by decide +kernel))⟩
theorem va_pl_app (L M : List Nat) (f : Nat → va_E) : va_pl (L ++ M) f = va_pl L f ++ va_pl M f := List.map_append
theorem va_pl_cong {L : List Nat} {f g : Nat → va_E} (h : ∀ a ∈ L, f a = g a) : va_pl L f = va_pl L g := List.map_congr_left (fun a ha => by rw [h a ha])
/-- a pool is cut in two -/
theorem L2P.cut {D : va_G} {cl : List vw_C} {A : Nat → Prop} {L M : List Nat} {f : Nat → va_E} {H : Heap} (hP : va_P D cl (va_pl (L ++ M) f) H) (hD : va_D A (va_pl (L ++ M) f)) (hd : ∀ a ∈ L, a ∉ M) : L2P D cl A M f L f H := by
  rw [va_pl_app] at hP hD
  refine ⟨⟨fun k q hk => hP ((va_pl L f).length + k) q (by rw [List.getElem?_append_right (Nat.le_add_right _ _), Nat.add_sub_cancel_left]; exact hk), ⟨fun i j x y hi hj e => ?_, fun k q hk => hD.2 ((va_pl L f).length + k) q (by rw [List.getElem?_append_right (Nat.le_add_right _ _), Nat.add_sub_cancel_left]; exact hk)⟩⟩, ⟨fun k q hk => hP k q (by rw [List.getElem?_append_left (List.getElem?_eq_some_iff.mp hk).1]; exact hk), ⟨fun i j x y hi hj e => hD.1 i j x y (by rw [List.getElem?_append_left (List.getElem?_eq_some_iff.mp hi).1]; exact hi) (by rw [List.getElem?_append_left (List.getElem?_eq_some_iff.mp hj).1]; exact hj) e, fun k q hk => hD.2 k q (by rw [List.getElem?_append_left (List.getElem?_eq_some_iff.mp hk).1]; exact hk)⟩⟩, hd⟩
  have := hD.1 ((va_pl L f).length + i) ((va_pl L f).length + j) x y (by rw [List.getElem?_append_right (Nat.le_add_right _ _), Nat.add_sub_cancel_left]; exact hi) (by rw [List.getElem?_append_right (Nat.le_add_right _ _), Nat.add_sub_cancel_left]; exact hj) e
  omega
set_option maxHeartbeats 4000000 in
set_option maxRecDepth 100000 in
theorem whole_start {p : Program} {e : Env} {s : State} {m : MethodId} {below : List Frame} {meth : Method} {c : Code} (l : Launch) {b L : Nat} {xs : Nat → Int32} (hL : L ≤ 2560) (C0 : lw_At p s m meth c b L xs) : W p l e room_1 s m #[Value.ref b] below meth c s.heap [] 0 0 (lw_Z below #[Value.ref b] s) (entryFrame m ([Value.ref b] : List Value).toArray 4) := by
  obtain ⟨hx, hb, hr, hml, hown, hts0, hX, hbl, hlocks, hgv⟩ := id C0
  obtain ⟨cs, G, hK⟩ := wk_K hts0
  obtain ⟨tL, tC, hSX⟩ := wk_SX hts0 hgv
  have hts : ∀ w ∈ wg, w.before #[Value.ref b] s = true := fun w h => hts0 w (List.mem_filter.mp h).1
  have hown : s.vm.findClass RL = some m.cls := hown
  have hA : ∀ q : Nat, s.heap.size ≤ q → (fun q : Nat => s.heap.size ≤ q) q := fun _ h => h
  have hS : va_S (fun q : Nat => s.heap.size ≤ q) s.heap s.heap [] := va_S.rf
  obtain ⟨f0, ef0⟩ : ∃ f0 : Nat → va_E, f0 = fun _ => .inl (cs 0, 0, .inl (fun _ => 0)) := ⟨_, rfl⟩
  have hP : va_P G vwCl (va_pl [] f0) s.heap := fun k q h => by simp [va_pl] at h
  have hD : va_D (fun q : Nat => s.heap.size ≤ q) (va_pl [] f0) := ⟨fun i j p q h => by simp [va_pl] at h, fun k q h => by simp [va_pl] at h⟩
  have hl := lv_entry ([.ref b]) (n := 4) (Nat.le_of_ble_eq_true rfl)
  rw [lg_entry_eq]
  generalize (lg_sl ([.ref b]) ++ List.replicate (4 - (lg_sl ([.ref b])).length) Slot.unset).toArray = ls at hl ⊢
  have hl : lv_has ls 4 [(0, .ref b)] := hl
  refine pw_new (ci := 3) (C := RX3) (T := TX3) (N := 8) (fs := [.null, .null, .null, .null, .int 0, .int 0, .int 0, .int 0]) hx hb hts inX3 tyX3 tyX3_ok hown (hts _ mw_6) (hts _ mw_7) (hts _ mw_1) hK hP hD hS hA rfl (by decide) (Nat.le_of_ble_eq_true rfl) (Nat.le_of_ble_eq_true rfl) dL_law_0 (fun q1 H hq1 hP hD hS => ?_)
  refine lv_dup hx hb dL_law_3 rfl ?_
  have hcx : CX s := ⟨(wk_AO hts0).1, (wk_AO hts0).2, va_Nw.of rfl (hts0 (.methodLinkNest "PaperStates" 27 yX2_init "PaperStates") (by decide +kernel))⟩
  have hXc : ∀ U : State, U.heap = H → s.WarmedH U.vm → CX U := fun U _ hW => ⟨va_AO.moved hW.alike hcx.1, va_AO.moved hW.alike hcx.2.1, va_Nw.warmM hW hcx.2.2⟩
  refine pc_callI (As := []) (rest := [.ref q1]) ⟨hx, hb, hml, hown, hts⟩ (k_C_init l G cs ([] ++ [q1]) _ _ q1 (fun _ => (0, 0, 0, fun _ => 0, fun _ => 0, fun _ => 0, 0)) (fun _ => (0, 0, 0, fun _ => 0, 0, 0, 0, 0)) (List.mem_append_right _ (List.mem_singleton.mpr rfl)) (va_up_self _ _ _)) (cwI 0 hts (wg_I mw_10) rfl rfl rfl (hts _ mw_1) (hts _ mw_8) (hts _ mw_9) rfl (by decide +kernel) ⟨Nat.le_of_ble_eq_true rfl, Nat.le_of_ble_eq_true rfl⟩) hK hP hD hS hA CX.px hXc rfl hl.1 rfl (lv_room (Nat.le_of_ble_eq_true rfl)) dL_law_4 ⟨Nat.le_of_ble_eq_true rfl, Nat.le_of_ble_eq_true rfl⟩ (fun L1 f1 H locs hq hP hD hS => ?_)
  obtain ⟨a1, e1, hps⟩ := hq
  have hps : PS cs L1 f1 a1 0 365 0 0 (fun _ => (0, 0, 0, fun _ => 0, fun _ => 0, fun _ => 0, 0)) (fun _ => (0, 0, 0, fun _ => 0, 0, 0, 0, 0)) (fun _ => 0) (0, fun _ => 0) := hps
  refine lv_astore_n (lv' := [(1, .ref q1), (0, .ref b)]) hx hb dL_law_7 rfl hl (by decide) rfl (fun ls hl => ?_)
  refine pw_new (ci := 4) (C := RX4) (T := TX4) (N := 23) (fs := [.int 0, .int 0, .null, .null, .null, .null, .null, .null, .null, .null, .int 0, .null, .null, .null, .null, .null, .null, .null, .null, .null, .int 0, .int 0, .int 0]) hx hb hts inX4 tyX4 tyX4_ok hown (hts _ mw_321) (hts _ mw_322) (hts _ mw_3) hK hP hD hS hA rfl (by decide) (Nat.le_of_ble_eq_true rfl) (Nat.le_of_ble_eq_true rfl) dL_law_8 (fun q2 H hq2 hP hD hS => ?_)
  have h2 := L2P.cut hP hD (fun a ha hb2 => hq2 (List.mem_singleton.mp hb2 ▸ ha))
  obtain ⟨f2, ef2⟩ : ∃ z : Nat → va_E, z = va_up f1 q2 (.inr (4, [.int 0, .int 0, .null, .null, .null, .null, .null, .null, .null, .null, .int 0, .null, .null, .null, .null, .null, .null, .null, .null, .null, .int 0, .int 0, .int 0])) := ⟨_, rfl⟩
  have h2 : L2P G vwCl (fun q : Nat => s.heap.size ≤ q) [q2] f2 L1 f1 H := by
    have ec : va_pl L1 f2 = va_pl L1 f1 := va_pl_cong (fun a ha => by rw [ef2]; exact va_up_ne _ _ (fun z => hq2 (z ▸ ha)))
    rw [← ef2] at h2
    exact ⟨h2.1, ⟨by rw [← ec]; exact h2.2.1.1, by rw [← ec]; exact h2.2.1.2⟩, h2.2.2⟩
  refine lv_dup hx hb dL_law_11 rfl ?_
  refine pl_callI (As := []) (rest := [.ref q2]) ⟨hx, hb, hml, hown, hts⟩ (k_R_init l G cs [q2] f2 _ q2 (List.mem_singleton.mpr rfl) (by rw [ef2]; exact va_up_self _ _ _)) (cwI 0 hts (wg_I mw_325) rfl rfl rfl (hts _ mw_3) (hts _ mw_323) (hts _ mw_324) rfl (by decide +kernel) ⟨Nat.le_of_ble_eq_true rfl, Nat.le_of_ble_eq_true rfl⟩) hK h2 hS hA px_T (fun _ _ _ => trivial) rfl hl.1 rfl (lv_room (Nat.le_of_ble_eq_true rfl)) dL_law_12 ⟨Nat.le_of_ble_eq_true rfl, Nat.le_of_ble_eq_true rfl⟩ (fun L2 f2 H locs hq h2 hS => ?_)
  obtain ⟨a2, rs, lk, e2, hrs⟩ := hq
  have hrs : RS cs L2 f2 a2 0 365 0 0 rs lk (fun _ _ => 0) (fun _ _ => 0) := hrs
  refine lv_astore_n (lv' := [(2, .ref q2), (1, .ref q1), (0, .ref b)]) hx hb dL_law_15 rfl hl (by decide) rfl (fun ls hl => ?_)
  refine lv_iconst (v := 0) hx hb dL_law_16 (by decide) ?_
  refine lv_istore_n (lv' := [(3, .int 0), (2, .ref q2), (1, .ref q1), (0, .ref b)]) hx hb dL_law_17 rfl hl (by decide) rfl (fun ls hl => ?_)
  refine W.widen (k := 24) (n := 663) (by decide) (by decide) ?_
  exact law_loop hL C0 hK hSX 512 0 24 663 H locs ls (by omega) (Nat.zero_le _) (by decide) ⟨L1, f1, L2, f2, a1, a2, (0, 365, 0, 0, (fun _ => (0, 0, 0, fun _ => 0, fun _ => 0, fun _ => 0, 0)), (fun _ => (0, 0, 0, fun _ => 0, 0, 0, 0, 0)), fun _ => 0), (0, 365, 0, 0, fun _ _ => 0, fun _ _ => 0), (0, fun _ => 0), rs, lk, h2.swap, ⟨e1, e2⟩, hps, hrs, rx_new⟩ hS (lv_sub hl [3, 2, 1, 0] rfl)
