/-! The law: its cases 10 to 18. Laid by wip/gen/lawgen.py. -/
set_option maxHeartbeats 4000000 in
set_option maxRecDepth 100000 in
theorem law_c10 {p : Program} {l : Launch} {e : Env} {s : State} {m : MethodId} {below : List Frame} {meth : Method} {c : Code} {b L : Nat} {xs : Nat → Int32} (hL : L ≤ 2560) (C0 : lw_At p s m meth c b L xs) {cs : Nat → ClassId} {G : va_G} (hK : va_K G vwCl (tyl cs) s) {tL tC : Nat} (hSX : SX tL tC (fun q : Nat => s.heap.size ≤ q) s s.heap) {q1 q2 k : Nat} (hk : k + 5 ≤ L) {H : Heap} {locs : List Loc} {cells slots : Nat} (hc : cells + 4 ≤ 600000 ∧ slots + 25 ≤ 7302250) {ls : Array Slot} (hI : LI cs G (fun q : Nat => s.heap.size ≤ q) q1 q2 H) (hS : va_S (fun q : Nat => s.heap.size ≤ q) s.heap H locs) (hl : lv_has ls 4 [(0, .ref b), (1, .ref q1), (2, .ref q2), (3, .int (nI k))]) (K : ∀ (H : Heap) (locs : List Loc), LI cs G (fun q : Nat => s.heap.size ≤ q) q1 q2 H → va_S (fun q : Nat => s.heap.size ≤ q) s.heap H locs → W p l e room_1 s m #[Value.ref b] below meth c H locs (cells + 4) (slots + 25) (lw_Z below #[Value.ref b] s) (F0 m 875 ls [])) : W p l e room_1 s m #[Value.ref b] below meth c H locs cells slots (lw_Z below #[Value.ref b] s) (F0 m 576 ls []) := by
  obtain ⟨hx, hb, hr, hml, hown, hts, hX, hbl, hlocks, hgv⟩ := C0
  have hts : ∀ w ∈ wg, w.before #[Value.ref b] s = true := fun w h => hts w (List.mem_filter.mp h).1
  have hown : s.vm.findClass RL = some m.cls := hown
  have hA : ∀ q : Nat, s.heap.size ≤ q → (fun q : Nat => s.heap.size ≤ q) q := fun _ h => h
  have hbA : ¬ (fun q : Nat => s.heap.size ≤ q) b := Nat.not_le.mpr hbl
  obtain ⟨L1, f1, L2, f2, a1, a2, t, lm, nN, nM, ns, ms, rt, Ar, Br, pg, rs, lk, h2, ⟨e1, e2⟩, hps, hrs, hR⟩ := hI.unf
  subst e1
  subst e2
  have m1 := hps.mem (pu_lo (r := 0) (by decide))
  have he1 := hps.e0
  have m2 := hrs.mem 0 (by decide)
  have he2 := hrs.e0
  refine lv_aload_n hx hb dL_law_576 rfl (lv_at hl 1 rfl) ?_
  refine lv_aload_n hx hb dL_law_577 rfl (lv_at hl 0 rfl) ?_
  refine lv_iload_n hx hb dL_law_578 rfl (lv_at hl 3 rfl) ?_
  refine lv_iconst (v := 1) hx hb dL_law_579 (by decide) ?_
  refine lv_iadd hx hb dL_law_580 ?_
  rw [show (nI k) + 1 = nI (k + 1) from nI_add k 1]
  refine pl_sld (k := k + 1) hx hb hX hbl hbA hS (by omega) (by omega) dL_law_581 ?_
  refine lv_aload_n hx hb dL_law_582 rfl (lv_at hl 0 rfl) ?_
  refine lv_iload_n hx hb dL_law_583 rfl (lv_at hl 3 rfl) ?_
  refine lv_iconst (v := 2) hx hb dL_law_584 (by decide) ?_
  refine lv_iadd hx hb dL_law_585 ?_
  rw [show (nI k) + 2 = nI (k + 2) from nI_add k 2]
  refine pl_sld (k := k + 2) hx hb hX hbl hbA hS (by omega) (by omega) dL_law_586 ?_
  refine lv_aload_n hx hb dL_law_587 rfl (lv_at hl 0 rfl) ?_
  refine lv_iload_n hx hb dL_law_588 rfl (lv_at hl 3 rfl) ?_
  refine lv_iconst (v := 3) hx hb dL_law_589 (by decide) ?_
  refine lv_iadd hx hb dL_law_590 ?_
  rw [show (nI k) + 3 = nI (k + 3) from nI_add k 3]
  refine pl_sld (k := k + 3) hx hb hX hbl hbA hS (by omega) (by omega) dL_law_591 ?_
  refine pl_callVi (As := [.int (xs (k + 1)), .int (xs (k + 2)), .int (xs (k + 3))]) (rest := []) ⟨hx, hb, hml, hown, hts⟩ (k_C_mark l G cs L1 f1 _ a1 t lm nN nM ns ms rt pg (xs (k + 1)) (xs (k + 2)) (xs (k + 3)) hps) (cwV 3 hts (wg_V mw_229 mw_230 mw_231 mw_1 mw_232) rfl rfl rfl (by decide +kernel) ⟨Nat.le_of_ble_eq_true rfl, Nat.le_of_ble_eq_true rfl⟩) hK h2 hS hA m1 he1 rfl px_T (fun _ _ _ => trivial) rfl hl.1 rfl (lv_room (Nat.le_of_ble_eq_true rfl)) dL_law_592 ⟨show cells + 0 ≤ 600000 by omega, show slots + 0 ≤ 7302250 by omega⟩ (fun r1 L1' f1' H locs hq h2 hS => ?_)
  obtain ⟨a1', pg', ea, hr1, hps'⟩ := hq
  refine lv_aload_n hx hb dL_law_595 rfl (lv_at hl 2 rfl) ?_
  refine lv_aload_n hx hb dL_law_596 rfl (lv_at hl 0 rfl) ?_
  refine lv_iload_n hx hb dL_law_597 rfl (lv_at hl 3 rfl) ?_
  refine lv_iconst (v := 1) hx hb dL_law_598 (by decide) ?_
  refine lv_iadd hx hb dL_law_599 ?_
  rw [show (nI k) + 1 = nI (k + 1) from nI_add k 1]
  refine pl_sld (k := k + 1) hx hb hX hbl hbA hS (by omega) (by omega) dL_law_600 ?_
  refine lv_aload_n hx hb dL_law_601 rfl (lv_at hl 0 rfl) ?_
  refine lv_iload_n hx hb dL_law_602 rfl (lv_at hl 3 rfl) ?_
  refine lv_iconst (v := 2) hx hb dL_law_603 (by decide) ?_
  refine lv_iadd hx hb dL_law_604 ?_
  rw [show (nI k) + 2 = nI (k + 2) from nI_add k 2]
  refine pl_sld (k := k + 2) hx hb hX hbl hbA hS (by omega) (by omega) dL_law_605 ?_
  refine lv_aload_n hx hb dL_law_606 rfl (lv_at hl 0 rfl) ?_
  refine lv_iload_n hx hb dL_law_607 rfl (lv_at hl 3 rfl) ?_
  refine lv_iconst (v := 3) hx hb dL_law_608 (by decide) ?_
  refine lv_iadd hx hb dL_law_609 ?_
  rw [show (nI k) + 3 = nI (k + 3) from nI_add k 3]
  refine pl_sld (k := k + 3) hx hb hX hbl hbA hS (by omega) (by omega) dL_law_610 ?_
  refine pl_callVi (As := [.int (xs (k + 1)), .int (xs (k + 2)), .int (xs (k + 3))]) (rest := [.int r1]) ⟨hx, hb, hml, hown, hts⟩ (k_R_mark l G cs L2 f2 _ a2 t lm nN nM rs lk Ar Br (xs (k + 1)) (xs (k + 2)) (xs (k + 3)) hrs) (cwV 3 hts (wg_V mw_475 mw_476 mw_477 mw_3 mw_478) rfl rfl rfl (by decide +kernel) ⟨Nat.le_of_ble_eq_true rfl, Nat.le_of_ble_eq_true rfl⟩) hK h2.swap hS hA m2 he2 rfl px_T (fun _ _ _ => trivial) rfl hl.1 rfl (lv_room (Nat.le_of_ble_eq_true rfl)) dL_law_611 ⟨show cells + 0 + 0 ≤ 600000 by omega, show slots + 0 + 0 ≤ 7302250 by omega⟩ (fun r2 L2' f2' H locs hq h2 hS => ?_)
  obtain ⟨eL, hr2, rs', lk', hrs'⟩ := hq
  refine lv_icmp_eq (tgt := 875) hx hb dL_law_614 (by decide) (fun c_1 => ?_) (fun c_1 => absurd (by rw [hr1, hr2]; exact (ag_mark (RX.mk lm hR) (xs (k + 1)) (xs (k + 2)) (xs (k + 3))).1) c_1)
  refine W.widen (k := cells + 4) (n := slots + 25) (by omega) (by omega) ?_
  exact K _ _ ⟨L1', f1', L2', f2', a1', a2, _, _, pg', rs', lk', h2.swap, ⟨ea, rfl⟩, hps', hrs', (ag_mark (RX.mk lm hR) (xs (k + 1)) (xs (k + 2)) (xs (k + 3))).2⟩ hS

set_option maxHeartbeats 4000000 in
set_option maxRecDepth 100000 in
theorem law_c11 {p : Program} {l : Launch} {e : Env} {s : State} {m : MethodId} {below : List Frame} {meth : Method} {c : Code} {b L : Nat} {xs : Nat → Int32} (hL : L ≤ 2560) (C0 : lw_At p s m meth c b L xs) {cs : Nat → ClassId} {G : va_G} (hK : va_K G vwCl (tyl cs) s) {tL tC : Nat} (hSX : SX tL tC (fun q : Nat => s.heap.size ≤ q) s s.heap) {q1 q2 k : Nat} (hk : k + 5 ≤ L) {H : Heap} {locs : List Loc} {cells slots : Nat} (hc : cells + 4 ≤ 600000 ∧ slots + 25 ≤ 7302250) {ls : Array Slot} (hI : LI cs G (fun q : Nat => s.heap.size ≤ q) q1 q2 H) (hS : va_S (fun q : Nat => s.heap.size ≤ q) s.heap H locs) (hl : lv_has ls 4 [(0, .ref b), (1, .ref q1), (2, .ref q2), (3, .int (nI k))]) (K : ∀ (H : Heap) (locs : List Loc), LI cs G (fun q : Nat => s.heap.size ≤ q) q1 q2 H → va_S (fun q : Nat => s.heap.size ≤ q) s.heap H locs → W p l e room_1 s m #[Value.ref b] below meth c H locs (cells + 4) (slots + 25) (lw_Z below #[Value.ref b] s) (F0 m 875 ls [])) : W p l e room_1 s m #[Value.ref b] below meth c H locs cells slots (lw_Z below #[Value.ref b] s) (F0 m 619 ls []) := by
  obtain ⟨hx, hb, hr, hml, hown, hts, hX, hbl, hlocks, hgv⟩ := C0
  have hts : ∀ w ∈ wg, w.before #[Value.ref b] s = true := fun w h => hts w (List.mem_filter.mp h).1
  have hown : s.vm.findClass RL = some m.cls := hown
  have hA : ∀ q : Nat, s.heap.size ≤ q → (fun q : Nat => s.heap.size ≤ q) q := fun _ h => h
  have hbA : ¬ (fun q : Nat => s.heap.size ≤ q) b := Nat.not_le.mpr hbl
  obtain ⟨L1, f1, L2, f2, a1, a2, t, lm, nN, nM, ns, ms, rt, Ar, Br, pg, rs, lk, h2, ⟨e1, e2⟩, hps, hrs, hR⟩ := hI.unf
  subst e1
  subst e2
  have m1 := hps.mem (pu_lo (r := 0) (by decide))
  have he1 := hps.e0
  have m2 := hrs.mem 0 (by decide)
  have he2 := hrs.e0
  refine lv_aload_n hx hb dL_law_619 rfl (lv_at hl 1 rfl) ?_
  refine lv_aload_n hx hb dL_law_620 rfl (lv_at hl 0 rfl) ?_
  refine lv_iload_n hx hb dL_law_621 rfl (lv_at hl 3 rfl) ?_
  refine lv_iconst (v := 1) hx hb dL_law_622 (by decide) ?_
  refine lv_iadd hx hb dL_law_623 ?_
  rw [show (nI k) + 1 = nI (k + 1) from nI_add k 1]
  refine pl_sld (k := k + 1) hx hb hX hbl hbA hS (by omega) (by omega) dL_law_624 ?_
  refine pr_callVl (As := [.int (xs (k + 1))]) (rest := []) ⟨hx, hb, hml, hown, hts⟩ (k_C_left l G cs L1 f1 a1 t lm nN nM ns ms rt pg (xs (k + 1)) hps) (cwV 1 hts (wg_V mw_233 mw_234 mw_235 mw_1 mw_236) rfl rfl rfl (by decide +kernel) ⟨Nat.le_of_ble_eq_true rfl, Nat.le_of_ble_eq_true rfl⟩) hK h2.1.1 m1 he1 rfl px_T (fun _ _ _ => trivial) rfl hl.1 rfl (lv_room (Nat.le_of_ble_eq_true rfl)) dL_law_625 ⟨show cells + 0 ≤ 600000 by omega, show slots + 0 ≤ 7302250 by omega⟩ (fun r1 hr1 => ?_)
  refine lv_aload_n hx hb dL_law_628 rfl (lv_at hl 2 rfl) ?_
  refine lv_aload_n hx hb dL_law_629 rfl (lv_at hl 0 rfl) ?_
  refine lv_iload_n hx hb dL_law_630 rfl (lv_at hl 3 rfl) ?_
  refine lv_iconst (v := 1) hx hb dL_law_631 (by decide) ?_
  refine lv_iadd hx hb dL_law_632 ?_
  rw [show (nI k) + 1 = nI (k + 1) from nI_add k 1]
  refine pl_sld (k := k + 1) hx hb hX hbl hbA hS (by omega) (by omega) dL_law_633 ?_
  refine pr_callVl (As := [.int (xs (k + 1))]) (rest := [.long r1]) ⟨hx, hb, hml, hown, hts⟩ (k_R_left l G cs L2 f2 a2 t lm nN nM rs lk Ar Br (xs (k + 1)) hrs) (cwV 1 hts (wg_V mw_479 mw_441 mw_442 mw_3 mw_443) rfl rfl rfl (by decide +kernel) ⟨Nat.le_of_ble_eq_true rfl, Nat.le_of_ble_eq_true rfl⟩) hK h2.2.1.1 m2 he2 rfl px_T (fun _ _ _ => trivial) rfl hl.1 rfl (lv_room (Nat.le_of_ble_eq_true rfl)) dL_law_634 ⟨show cells + 0 ≤ 600000 by omega, show slots + 0 ≤ 7302250 by omega⟩ (fun r2 hr2 => ?_)
  refine W.lcmp hx hb dL_law_637 ?_
  refine lv_if_eq (tgt := 875) hx hb dL_law_638 (by decide) (fun c_1 => ?_) (fun c_1 => absurd ((lg_cmp_eq _ _).mpr (by rw [hr1, hr2]; exact eq_left hR (xs (k + 1)))) c_1)
  refine W.widen (k := cells + 4) (n := slots + 25) (by omega) (by omega) ?_
  exact K _ _ hI hS

set_option maxHeartbeats 4000000 in
set_option maxRecDepth 100000 in
theorem law_c12 {p : Program} {l : Launch} {e : Env} {s : State} {m : MethodId} {below : List Frame} {meth : Method} {c : Code} {b L : Nat} {xs : Nat → Int32} (hL : L ≤ 2560) (C0 : lw_At p s m meth c b L xs) {cs : Nat → ClassId} {G : va_G} (hK : va_K G vwCl (tyl cs) s) {tL tC : Nat} (hSX : SX tL tC (fun q : Nat => s.heap.size ≤ q) s s.heap) {q1 q2 k : Nat} (hk : k + 5 ≤ L) {H : Heap} {locs : List Loc} {cells slots : Nat} (hc : cells + 4 ≤ 600000 ∧ slots + 25 ≤ 7302250) {ls : Array Slot} (hI : LI cs G (fun q : Nat => s.heap.size ≤ q) q1 q2 H) (hS : va_S (fun q : Nat => s.heap.size ≤ q) s.heap H locs) (hl : lv_has ls 4 [(0, .ref b), (1, .ref q1), (2, .ref q2), (3, .int (nI k))]) (K : ∀ (H : Heap) (locs : List Loc), LI cs G (fun q : Nat => s.heap.size ≤ q) q1 q2 H → va_S (fun q : Nat => s.heap.size ≤ q) s.heap H locs → W p l e room_1 s m #[Value.ref b] below meth c H locs (cells + 4) (slots + 25) (lw_Z below #[Value.ref b] s) (F0 m 875 ls [])) : W p l e room_1 s m #[Value.ref b] below meth c H locs cells slots (lw_Z below #[Value.ref b] s) (F0 m 643 ls []) := by
  obtain ⟨hx, hb, hr, hml, hown, hts, hX, hbl, hlocks, hgv⟩ := C0
  have hts : ∀ w ∈ wg, w.before #[Value.ref b] s = true := fun w h => hts w (List.mem_filter.mp h).1
  have hown : s.vm.findClass RL = some m.cls := hown
  have hA : ∀ q : Nat, s.heap.size ≤ q → (fun q : Nat => s.heap.size ≤ q) q := fun _ h => h
  have hbA : ¬ (fun q : Nat => s.heap.size ≤ q) b := Nat.not_le.mpr hbl
  obtain ⟨L1, f1, L2, f2, a1, a2, t, lm, nN, nM, ns, ms, rt, Ar, Br, pg, rs, lk, h2, ⟨e1, e2⟩, hps, hrs, hR⟩ := hI.unf
  subst e1
  subst e2
  have m1 := hps.mem (pu_lo (r := 0) (by decide))
  have he1 := hps.e0
  have m2 := hrs.mem 0 (by decide)
  have he2 := hrs.e0
  refine lv_aload_n hx hb dL_law_643 rfl (lv_at hl 1 rfl) ?_
  refine lv_aload_n hx hb dL_law_644 rfl (lv_at hl 0 rfl) ?_
  refine lv_iload_n hx hb dL_law_645 rfl (lv_at hl 3 rfl) ?_
  refine lv_iconst (v := 1) hx hb dL_law_646 (by decide) ?_
  refine lv_iadd hx hb dL_law_647 ?_
  rw [show (nI k) + 1 = nI (k + 1) from nI_add k 1]
  refine pl_sld (k := k + 1) hx hb hX hbl hbA hS (by omega) (by omega) dL_law_648 ?_
  refine lv_aload_n hx hb dL_law_649 rfl (lv_at hl 0 rfl) ?_
  refine lv_iload_n hx hb dL_law_650 rfl (lv_at hl 3 rfl) ?_
  refine lv_iconst (v := 2) hx hb dL_law_651 (by decide) ?_
  refine lv_iadd hx hb dL_law_652 ?_
  rw [show (nI k) + 2 = nI (k + 2) from nI_add k 2]
  refine pl_sld (k := k + 2) hx hb hX hbl hbA hS (by omega) (by omega) dL_law_653 ?_
  refine lv_i2l hx hb dL_law_654 rfl ?_
  refine lv_bipush (v := 32) hx hb dL_law_655 (by decide) ?_
  refine lv_lshl hx hb dL_law_657 rfl ?_
  refine lv_aload_n hx hb dL_law_658 rfl (lv_at hl 0 rfl) ?_
  refine lv_iload_n hx hb dL_law_659 rfl (lv_at hl 3 rfl) ?_
  refine lv_iconst (v := 3) hx hb dL_law_660 (by decide) ?_
  refine lv_iadd hx hb dL_law_661 ?_
  rw [show (nI k) + 3 = nI (k + 3) from nI_add k 3]
  refine pl_sld (k := k + 3) hx hb hX hbl hbA hS (by omega) (by omega) dL_law_662 ?_
  refine lv_i2l hx hb dL_law_663 rfl ?_
  refine lv_ldc2 hx hb hown (hts _ mw_524) dL_law_664 ?_
  refine lv_land hx hb dL_law_667 ?_
  refine lv_lor hx hb dL_law_668 ?_
  refine pl_callVi (As := [.int (xs (k + 1)), .long ((((xs (k + 2)).toInt64) <<< ((32 : Int32).toInt64 &&& 63)) ||| (((xs (k + 3)).toInt64) &&& 4294967295))]) (rest := []) ⟨hx, hb, hml, hown, hts⟩ (k_C_bank l G cs L1 f1 _ a1 t lm nN nM ns ms rt pg (xs (k + 1)) ((((xs (k + 2)).toInt64) <<< ((32 : Int32).toInt64 &&& 63)) ||| (((xs (k + 3)).toInt64) &&& 4294967295)) hps) (cwV 2 hts (wg_V mw_238 mw_239 mw_240 mw_1 mw_241) rfl rfl rfl (by decide +kernel) ⟨Nat.le_of_ble_eq_true rfl, Nat.le_of_ble_eq_true rfl⟩) hK h2 hS hA m1 he1 rfl px_T (fun _ _ _ => trivial) rfl hl.1 rfl (lv_room (Nat.le_of_ble_eq_true rfl)) dL_law_669 ⟨show cells + 0 ≤ 600000 by omega, show slots + 0 ≤ 7302250 by omega⟩ (fun r1 L1' f1' H locs hq h2 hS => ?_)
  obtain ⟨a1', pg', ea, hr1, hps'⟩ := hq
  refine lv_aload_n hx hb dL_law_672 rfl (lv_at hl 2 rfl) ?_
  refine lv_aload_n hx hb dL_law_673 rfl (lv_at hl 0 rfl) ?_
  refine lv_iload_n hx hb dL_law_674 rfl (lv_at hl 3 rfl) ?_
  refine lv_iconst (v := 1) hx hb dL_law_675 (by decide) ?_
  refine lv_iadd hx hb dL_law_676 ?_
  rw [show (nI k) + 1 = nI (k + 1) from nI_add k 1]
  refine pl_sld (k := k + 1) hx hb hX hbl hbA hS (by omega) (by omega) dL_law_677 ?_
  refine lv_aload_n hx hb dL_law_678 rfl (lv_at hl 0 rfl) ?_
  refine lv_iload_n hx hb dL_law_679 rfl (lv_at hl 3 rfl) ?_
  refine lv_iconst (v := 2) hx hb dL_law_680 (by decide) ?_
  refine lv_iadd hx hb dL_law_681 ?_
  rw [show (nI k) + 2 = nI (k + 2) from nI_add k 2]
  refine pl_sld (k := k + 2) hx hb hX hbl hbA hS (by omega) (by omega) dL_law_682 ?_
  refine lv_i2l hx hb dL_law_683 rfl ?_
  refine lv_bipush (v := 32) hx hb dL_law_684 (by decide) ?_
  refine lv_lshl hx hb dL_law_686 rfl ?_
  refine lv_aload_n hx hb dL_law_687 rfl (lv_at hl 0 rfl) ?_
  refine lv_iload_n hx hb dL_law_688 rfl (lv_at hl 3 rfl) ?_
  refine lv_iconst (v := 3) hx hb dL_law_689 (by decide) ?_
  refine lv_iadd hx hb dL_law_690 ?_
  rw [show (nI k) + 3 = nI (k + 3) from nI_add k 3]
  refine pl_sld (k := k + 3) hx hb hX hbl hbA hS (by omega) (by omega) dL_law_691 ?_
  refine lv_i2l hx hb dL_law_692 rfl ?_
  refine lv_ldc2 hx hb hown (hts _ mw_524) dL_law_693 ?_
  refine lv_land hx hb dL_law_696 ?_
  refine lv_lor hx hb dL_law_697 ?_
  refine pl_callVi (As := [.int (xs (k + 1)), .long ((((xs (k + 2)).toInt64) <<< ((32 : Int32).toInt64 &&& 63)) ||| (((xs (k + 3)).toInt64) &&& 4294967295))]) (rest := [.int r1]) ⟨hx, hb, hml, hown, hts⟩ (k_R_bank l G cs L2 f2 _ a2 t lm nN nM rs lk Ar Br (xs (k + 1)) ((((xs (k + 2)).toInt64) <<< ((32 : Int32).toInt64 &&& 63)) ||| (((xs (k + 3)).toInt64) &&& 4294967295)) hrs) (cwV 2 hts (wg_V mw_480 mw_481 mw_482 mw_3 mw_483) rfl rfl rfl (by decide +kernel) ⟨Nat.le_of_ble_eq_true rfl, Nat.le_of_ble_eq_true rfl⟩) hK h2.swap hS hA m2 he2 rfl px_T (fun _ _ _ => trivial) rfl hl.1 rfl (lv_room (Nat.le_of_ble_eq_true rfl)) dL_law_698 ⟨show cells + 0 + 0 ≤ 600000 by omega, show slots + 0 + 0 ≤ 7302250 by omega⟩ (fun r2 L2' f2' H locs hq h2 hS => ?_)
  obtain ⟨eL, hr2, rs', lk', hrs'⟩ := hq
  refine lv_icmp_eq (tgt := 875) hx hb dL_law_701 (by decide) (fun c_1 => ?_) (fun c_1 => absurd (by rw [hr1, hr2]; exact (ag_bank (RX.mk lm hR) (xs (k + 1)) ((((xs (k + 2)).toInt64) <<< ((32 : Int32).toInt64 &&& 63)) ||| (((xs (k + 3)).toInt64) &&& 4294967295))).1) c_1)
  refine W.widen (k := cells + 4) (n := slots + 25) (by omega) (by omega) ?_
  exact K _ _ ⟨L1', f1', L2', f2', a1', a2, _, _, pg', rs', lk', h2.swap, ⟨ea, rfl⟩, hps', hrs', (ag_bank (RX.mk lm hR) (xs (k + 1)) ((((xs (k + 2)).toInt64) <<< ((32 : Int32).toInt64 &&& 63)) ||| (((xs (k + 3)).toInt64) &&& 4294967295))).2⟩ hS

set_option maxHeartbeats 4000000 in
set_option maxRecDepth 100000 in
theorem law_c13 {p : Program} {l : Launch} {e : Env} {s : State} {m : MethodId} {below : List Frame} {meth : Method} {c : Code} {b L : Nat} {xs : Nat → Int32} (hL : L ≤ 2560) (C0 : lw_At p s m meth c b L xs) {cs : Nat → ClassId} {G : va_G} (hK : va_K G vwCl (tyl cs) s) {tL tC : Nat} (hSX : SX tL tC (fun q : Nat => s.heap.size ≤ q) s s.heap) {q1 q2 k : Nat} (hk : k + 5 ≤ L) {H : Heap} {locs : List Loc} {cells slots : Nat} (hc : cells + 4 ≤ 600000 ∧ slots + 25 ≤ 7302250) {ls : Array Slot} (hI : LI cs G (fun q : Nat => s.heap.size ≤ q) q1 q2 H) (hS : va_S (fun q : Nat => s.heap.size ≤ q) s.heap H locs) (hl : lv_has ls 4 [(0, .ref b), (1, .ref q1), (2, .ref q2), (3, .int (nI k))]) (K : ∀ (H : Heap) (locs : List Loc), LI cs G (fun q : Nat => s.heap.size ≤ q) q1 q2 H → va_S (fun q : Nat => s.heap.size ≤ q) s.heap H locs → W p l e room_1 s m #[Value.ref b] below meth c H locs (cells + 4) (slots + 25) (lw_Z below #[Value.ref b] s) (F0 m 875 ls [])) : W p l e room_1 s m #[Value.ref b] below meth c H locs cells slots (lw_Z below #[Value.ref b] s) (F0 m 706 ls []) := by
  obtain ⟨hx, hb, hr, hml, hown, hts, hX, hbl, hlocks, hgv⟩ := C0
  have hts : ∀ w ∈ wg, w.before #[Value.ref b] s = true := fun w h => hts w (List.mem_filter.mp h).1
  have hown : s.vm.findClass RL = some m.cls := hown
  have hA : ∀ q : Nat, s.heap.size ≤ q → (fun q : Nat => s.heap.size ≤ q) q := fun _ h => h
  have hbA : ¬ (fun q : Nat => s.heap.size ≤ q) b := Nat.not_le.mpr hbl
  obtain ⟨L1, f1, L2, f2, a1, a2, t, lm, nN, nM, ns, ms, rt, Ar, Br, pg, rs, lk, h2, ⟨e1, e2⟩, hps, hrs, hR⟩ := hI.unf
  subst e1
  subst e2
  have m1 := hps.mem (pu_lo (r := 0) (by decide))
  have he1 := hps.e0
  have m2 := hrs.mem 0 (by decide)
  have he2 := hrs.e0
  refine lv_aload_n hx hb dL_law_706 rfl (lv_at hl 1 rfl) ?_
  refine lv_aload_n hx hb dL_law_707 rfl (lv_at hl 0 rfl) ?_
  refine lv_iload_n hx hb dL_law_708 rfl (lv_at hl 3 rfl) ?_
  refine lv_iconst (v := 1) hx hb dL_law_709 (by decide) ?_
  refine lv_iadd hx hb dL_law_710 ?_
  rw [show (nI k) + 1 = nI (k + 1) from nI_add k 1]
  refine pl_sld (k := k + 1) hx hb hX hbl hbA hS (by omega) (by omega) dL_law_711 ?_
  refine pr_callVl (As := [.int (xs (k + 1))]) (rest := []) ⟨hx, hb, hml, hown, hts⟩ (k_C_held l G cs L1 f1 a1 t lm nN nM ns ms rt pg (xs (k + 1)) hps) (cwV 1 hts (wg_V mw_243 mw_244 mw_245 mw_1 mw_246) rfl rfl rfl (by decide +kernel) ⟨Nat.le_of_ble_eq_true rfl, Nat.le_of_ble_eq_true rfl⟩) hK h2.1.1 m1 he1 rfl px_T (fun _ _ _ => trivial) rfl hl.1 rfl (lv_room (Nat.le_of_ble_eq_true rfl)) dL_law_712 ⟨show cells + 0 ≤ 600000 by omega, show slots + 0 ≤ 7302250 by omega⟩ (fun r1 hr1 => ?_)
  refine lv_aload_n hx hb dL_law_715 rfl (lv_at hl 2 rfl) ?_
  refine lv_aload_n hx hb dL_law_716 rfl (lv_at hl 0 rfl) ?_
  refine lv_iload_n hx hb dL_law_717 rfl (lv_at hl 3 rfl) ?_
  refine lv_iconst (v := 1) hx hb dL_law_718 (by decide) ?_
  refine lv_iadd hx hb dL_law_719 ?_
  rw [show (nI k) + 1 = nI (k + 1) from nI_add k 1]
  refine pl_sld (k := k + 1) hx hb hX hbl hbA hS (by omega) (by omega) dL_law_720 ?_
  refine pr_callVl (As := [.int (xs (k + 1))]) (rest := [.long r1]) ⟨hx, hb, hml, hown, hts⟩ (k_R_held l G cs L2 f2 a2 t lm nN nM rs lk Ar Br (xs (k + 1)) hrs hR.hw) (cwV 1 hts (wg_V mw_485 mw_486 mw_487 mw_3 mw_488) rfl rfl rfl (by decide +kernel) ⟨Nat.le_of_ble_eq_true rfl, Nat.le_of_ble_eq_true rfl⟩) hK h2.2.1.1 m2 he2 rfl px_T (fun _ _ _ => trivial) rfl hl.1 rfl (lv_room (Nat.le_of_ble_eq_true rfl)) dL_law_721 ⟨show cells + 0 ≤ 600000 by omega, show slots + 0 ≤ 7302250 by omega⟩ (fun r2 hr2 => ?_)
  refine W.lcmp hx hb dL_law_724 ?_
  refine lv_if_eq (tgt := 875) hx hb dL_law_725 (by decide) (fun c_1 => ?_) (fun c_1 => absurd ((lg_cmp_eq _ _).mpr (by rw [hr1, hr2]; exact eq_held hR (xs (k + 1)))) c_1)
  refine W.widen (k := cells + 4) (n := slots + 25) (by omega) (by omega) ?_
  exact K _ _ hI hS

set_option maxHeartbeats 4000000 in
set_option maxRecDepth 100000 in
theorem law_c14 {p : Program} {l : Launch} {e : Env} {s : State} {m : MethodId} {below : List Frame} {meth : Method} {c : Code} {b L : Nat} {xs : Nat → Int32} (hL : L ≤ 2560) (C0 : lw_At p s m meth c b L xs) {cs : Nat → ClassId} {G : va_G} (hK : va_K G vwCl (tyl cs) s) {tL tC : Nat} (hSX : SX tL tC (fun q : Nat => s.heap.size ≤ q) s s.heap) {q1 q2 k : Nat} (hk : k + 5 ≤ L) {H : Heap} {locs : List Loc} {cells slots : Nat} (hc : cells + 4 ≤ 600000 ∧ slots + 25 ≤ 7302250) {ls : Array Slot} (hI : LI cs G (fun q : Nat => s.heap.size ≤ q) q1 q2 H) (hS : va_S (fun q : Nat => s.heap.size ≤ q) s.heap H locs) (hl : lv_has ls 4 [(0, .ref b), (1, .ref q1), (2, .ref q2), (3, .int (nI k))]) (K : ∀ (H : Heap) (locs : List Loc), LI cs G (fun q : Nat => s.heap.size ≤ q) q1 q2 H → va_S (fun q : Nat => s.heap.size ≤ q) s.heap H locs → W p l e room_1 s m #[Value.ref b] below meth c H locs (cells + 4) (slots + 25) (lw_Z below #[Value.ref b] s) (F0 m 875 ls [])) : W p l e room_1 s m #[Value.ref b] below meth c H locs cells slots (lw_Z below #[Value.ref b] s) (F0 m 730 ls []) := by
  obtain ⟨hx, hb, hr, hml, hown, hts, hX, hbl, hlocks, hgv⟩ := C0
  have hts : ∀ w ∈ wg, w.before #[Value.ref b] s = true := fun w h => hts w (List.mem_filter.mp h).1
  have hown : s.vm.findClass RL = some m.cls := hown
  have hA : ∀ q : Nat, s.heap.size ≤ q → (fun q : Nat => s.heap.size ≤ q) q := fun _ h => h
  have hbA : ¬ (fun q : Nat => s.heap.size ≤ q) b := Nat.not_le.mpr hbl
  obtain ⟨L1, f1, L2, f2, a1, a2, t, lm, nN, nM, ns, ms, rt, Ar, Br, pg, rs, lk, h2, ⟨e1, e2⟩, hps, hrs, hR⟩ := hI.unf
  subst e1
  subst e2
  have m1 := hps.mem (pu_lo (r := 0) (by decide))
  have he1 := hps.e0
  have m2 := hrs.mem 0 (by decide)
  have he2 := hrs.e0
  refine lv_aload_n hx hb dL_law_730 rfl (lv_at hl 1 rfl) ?_
  refine lv_aload_n hx hb dL_law_731 rfl (lv_at hl 0 rfl) ?_
  refine lv_iload_n hx hb dL_law_732 rfl (lv_at hl 3 rfl) ?_
  refine lv_iconst (v := 1) hx hb dL_law_733 (by decide) ?_
  refine lv_iadd hx hb dL_law_734 ?_
  rw [show (nI k) + 1 = nI (k + 1) from nI_add k 1]
  refine pl_sld (k := k + 1) hx hb hX hbl hbA hS (by omega) (by omega) dL_law_735 ?_
  refine pl_callVi (As := [.int (xs (k + 1))]) (rest := []) ⟨hx, hb, hml, hown, hts⟩ (k_C_limit l G cs L1 f1 _ a1 t lm nN nM ns ms rt pg (xs (k + 1)) hps) (cwV 1 hts (wg_V mw_254 mw_255 mw_256 mw_1 mw_257) rfl rfl rfl (by decide +kernel) ⟨Nat.le_of_ble_eq_true rfl, Nat.le_of_ble_eq_true rfl⟩) hK h2 hS hA m1 he1 rfl px_T (fun _ _ _ => trivial) rfl hl.1 rfl (lv_room (Nat.le_of_ble_eq_true rfl)) dL_law_736 ⟨show cells + 0 ≤ 600000 by omega, show slots + 0 ≤ 7302250 by omega⟩ (fun r1 L1' f1' H locs hq h2 hS => ?_)
  obtain ⟨a1', pg', ea, hr1, hps'⟩ := hq
  refine lv_aload_n hx hb dL_law_739 rfl (lv_at hl 2 rfl) ?_
  refine lv_aload_n hx hb dL_law_740 rfl (lv_at hl 0 rfl) ?_
  refine lv_iload_n hx hb dL_law_741 rfl (lv_at hl 3 rfl) ?_
  refine lv_iconst (v := 1) hx hb dL_law_742 (by decide) ?_
  refine lv_iadd hx hb dL_law_743 ?_
  rw [show (nI k) + 1 = nI (k + 1) from nI_add k 1]
  refine pl_sld (k := k + 1) hx hb hX hbl hbA hS (by omega) (by omega) dL_law_744 ?_
  refine pl_callVi (As := [.int (xs (k + 1))]) (rest := [.int r1]) ⟨hx, hb, hml, hown, hts⟩ (k_R_limit l G cs L2 f2 _ a2 t lm nN nM rs lk Ar Br (xs (k + 1)) hrs) (cwV 1 hts (wg_V mw_489 mw_490 mw_491 mw_3 mw_492) rfl rfl rfl (by decide +kernel) ⟨Nat.le_of_ble_eq_true rfl, Nat.le_of_ble_eq_true rfl⟩) hK h2.swap hS hA m2 he2 rfl px_T (fun _ _ _ => trivial) rfl hl.1 rfl (lv_room (Nat.le_of_ble_eq_true rfl)) dL_law_745 ⟨show cells + 0 + 0 ≤ 600000 by omega, show slots + 0 + 0 ≤ 7302250 by omega⟩ (fun r2 L2' f2' H locs hq h2 hS => ?_)
  obtain ⟨eL, hr2, rs', lk', hrs'⟩ := hq
  refine lv_icmp_eq (tgt := 875) hx hb dL_law_748 (by decide) (fun c_1 => ?_) (fun c_1 => absurd (by rw [hr1, hr2]; exact (ag_limit (RX.mk lm hR) (xs (k + 1))).1) c_1)
  refine W.widen (k := cells + 4) (n := slots + 25) (by omega) (by omega) ?_
  exact K _ _ ⟨L1', f1', L2', f2', a1', a2, _, _, pg', rs', lk', h2.swap, ⟨ea, rfl⟩, hps', hrs', (ag_limit (RX.mk lm hR) (xs (k + 1))).2⟩ hS

set_option maxHeartbeats 4000000 in
set_option maxRecDepth 100000 in
theorem law_c15 {p : Program} {l : Launch} {e : Env} {s : State} {m : MethodId} {below : List Frame} {meth : Method} {c : Code} {b L : Nat} {xs : Nat → Int32} (hL : L ≤ 2560) (C0 : lw_At p s m meth c b L xs) {cs : Nat → ClassId} {G : va_G} (hK : va_K G vwCl (tyl cs) s) {tL tC : Nat} (hSX : SX tL tC (fun q : Nat => s.heap.size ≤ q) s s.heap) {q1 q2 k : Nat} (hk : k + 5 ≤ L) {H : Heap} {locs : List Loc} {cells slots : Nat} (hc : cells + 4 ≤ 600000 ∧ slots + 25 ≤ 7302250) {ls : Array Slot} (hI : LI cs G (fun q : Nat => s.heap.size ≤ q) q1 q2 H) (hS : va_S (fun q : Nat => s.heap.size ≤ q) s.heap H locs) (hl : lv_has ls 4 [(0, .ref b), (1, .ref q1), (2, .ref q2), (3, .int (nI k))]) (K : ∀ (H : Heap) (locs : List Loc), LI cs G (fun q : Nat => s.heap.size ≤ q) q1 q2 H → va_S (fun q : Nat => s.heap.size ≤ q) s.heap H locs → W p l e room_1 s m #[Value.ref b] below meth c H locs (cells + 4) (slots + 25) (lw_Z below #[Value.ref b] s) (F0 m 875 ls [])) : W p l e room_1 s m #[Value.ref b] below meth c H locs cells slots (lw_Z below #[Value.ref b] s) (F0 m 753 ls []) := by
  obtain ⟨hx, hb, hr, hml, hown, hts, hX, hbl, hlocks, hgv⟩ := C0
  have hts : ∀ w ∈ wg, w.before #[Value.ref b] s = true := fun w h => hts w (List.mem_filter.mp h).1
  have hown : s.vm.findClass RL = some m.cls := hown
  have hA : ∀ q : Nat, s.heap.size ≤ q → (fun q : Nat => s.heap.size ≤ q) q := fun _ h => h
  have hbA : ¬ (fun q : Nat => s.heap.size ≤ q) b := Nat.not_le.mpr hbl
  obtain ⟨L1, f1, L2, f2, a1, a2, t, lm, nN, nM, ns, ms, rt, Ar, Br, pg, rs, lk, h2, ⟨e1, e2⟩, hps, hrs, hR⟩ := hI.unf
  subst e1
  subst e2
  have m1 := hps.mem (pu_lo (r := 0) (by decide))
  have he1 := hps.e0
  have m2 := hrs.mem 0 (by decide)
  have he2 := hrs.e0
  refine lv_aload_n hx hb dL_law_753 rfl (lv_at hl 1 rfl) ?_
  refine lv_aload_n hx hb dL_law_754 rfl (lv_at hl 0 rfl) ?_
  refine lv_iload_n hx hb dL_law_755 rfl (lv_at hl 3 rfl) ?_
  refine lv_iconst (v := 1) hx hb dL_law_756 (by decide) ?_
  refine lv_iadd hx hb dL_law_757 ?_
  rw [show (nI k) + 1 = nI (k + 1) from nI_add k 1]
  refine pl_sld (k := k + 1) hx hb hX hbl hbA hS (by omega) (by omega) dL_law_758 ?_
  refine pr_callVi (As := [.int (xs (k + 1))]) (rest := []) ⟨hx, hb, hml, hown, hts⟩ (k_C_late l G cs L1 f1 a1 t lm nN nM ns ms rt pg (xs (k + 1)) hps) (cwV 1 hts (wg_V mw_258 mw_259 mw_260 mw_1 mw_261) rfl rfl rfl (by decide +kernel) ⟨Nat.le_of_ble_eq_true rfl, Nat.le_of_ble_eq_true rfl⟩) hK h2.1.1 m1 he1 rfl px_T (fun _ _ _ => trivial) rfl hl.1 rfl (lv_room (Nat.le_of_ble_eq_true rfl)) dL_law_759 ⟨show cells + 0 ≤ 600000 by omega, show slots + 0 ≤ 7302250 by omega⟩ (fun r1 hr1 => ?_)
  refine lv_aload_n hx hb dL_law_762 rfl (lv_at hl 2 rfl) ?_
  refine lv_aload_n hx hb dL_law_763 rfl (lv_at hl 0 rfl) ?_
  refine lv_iload_n hx hb dL_law_764 rfl (lv_at hl 3 rfl) ?_
  refine lv_iconst (v := 1) hx hb dL_law_765 (by decide) ?_
  refine lv_iadd hx hb dL_law_766 ?_
  rw [show (nI k) + 1 = nI (k + 1) from nI_add k 1]
  refine pl_sld (k := k + 1) hx hb hX hbl hbA hS (by omega) (by omega) dL_law_767 ?_
  refine pr_callVi (As := [.int (xs (k + 1))]) (rest := [.int r1]) ⟨hx, hb, hml, hown, hts⟩ (k_R_late l G cs L2 f2 a2 t lm nN nM rs lk Ar Br (xs (k + 1)) hrs) (cwV 1 hts (wg_V mw_493 mw_494 mw_495 mw_3 mw_496) rfl rfl rfl (by decide +kernel) ⟨Nat.le_of_ble_eq_true rfl, Nat.le_of_ble_eq_true rfl⟩) hK h2.2.1.1 m2 he2 rfl px_T (fun _ _ _ => trivial) rfl hl.1 rfl (lv_room (Nat.le_of_ble_eq_true rfl)) dL_law_768 ⟨show cells + 0 ≤ 600000 by omega, show slots + 0 ≤ 7302250 by omega⟩ (fun r2 hr2 => ?_)
  refine lv_icmp_eq (tgt := 875) hx hb dL_law_771 (by decide) (fun c_1 => ?_) (fun c_1 => absurd (by rw [hr1, hr2]; exact eq_late hR lm (xs (k + 1))) c_1)
  refine W.widen (k := cells + 4) (n := slots + 25) (by omega) (by omega) ?_
  exact K _ _ hI hS

set_option maxHeartbeats 4000000 in
set_option maxRecDepth 100000 in
theorem law_c16 {p : Program} {l : Launch} {e : Env} {s : State} {m : MethodId} {below : List Frame} {meth : Method} {c : Code} {b L : Nat} {xs : Nat → Int32} (hL : L ≤ 2560) (C0 : lw_At p s m meth c b L xs) {cs : Nat → ClassId} {G : va_G} (hK : va_K G vwCl (tyl cs) s) {tL tC : Nat} (hSX : SX tL tC (fun q : Nat => s.heap.size ≤ q) s s.heap) {q1 q2 k : Nat} (hk : k + 5 ≤ L) {H : Heap} {locs : List Loc} {cells slots : Nat} (hc : cells + 4 ≤ 600000 ∧ slots + 25 ≤ 7302250) {ls : Array Slot} (hI : LI cs G (fun q : Nat => s.heap.size ≤ q) q1 q2 H) (hS : va_S (fun q : Nat => s.heap.size ≤ q) s.heap H locs) (hl : lv_has ls 4 [(0, .ref b), (1, .ref q1), (2, .ref q2), (3, .int (nI k))]) (K : ∀ (H : Heap) (locs : List Loc), LI cs G (fun q : Nat => s.heap.size ≤ q) q1 q2 H → va_S (fun q : Nat => s.heap.size ≤ q) s.heap H locs → W p l e room_1 s m #[Value.ref b] below meth c H locs (cells + 4) (slots + 25) (lw_Z below #[Value.ref b] s) (F0 m 875 ls [])) : W p l e room_1 s m #[Value.ref b] below meth c H locs cells slots (lw_Z below #[Value.ref b] s) (F0 m 776 ls []) := by
  obtain ⟨hx, hb, hr, hml, hown, hts, hX, hbl, hlocks, hgv⟩ := C0
  have hts : ∀ w ∈ wg, w.before #[Value.ref b] s = true := fun w h => hts w (List.mem_filter.mp h).1
  have hown : s.vm.findClass RL = some m.cls := hown
  have hA : ∀ q : Nat, s.heap.size ≤ q → (fun q : Nat => s.heap.size ≤ q) q := fun _ h => h
  have hbA : ¬ (fun q : Nat => s.heap.size ≤ q) b := Nat.not_le.mpr hbl
  obtain ⟨L1, f1, L2, f2, a1, a2, t, lm, nN, nM, ns, ms, rt, Ar, Br, pg, rs, lk, h2, ⟨e1, e2⟩, hps, hrs, hR⟩ := hI.unf
  subst e1
  subst e2
  have m1 := hps.mem (pu_lo (r := 0) (by decide))
  have he1 := hps.e0
  have m2 := hrs.mem 0 (by decide)
  have he2 := hrs.e0
  refine lv_aload_n hx hb dL_law_776 rfl (lv_at hl 1 rfl) ?_
  refine lv_aload_n hx hb dL_law_777 rfl (lv_at hl 0 rfl) ?_
  refine lv_iload_n hx hb dL_law_778 rfl (lv_at hl 3 rfl) ?_
  refine lv_iconst (v := 1) hx hb dL_law_779 (by decide) ?_
  refine lv_iadd hx hb dL_law_780 ?_
  rw [show (nI k) + 1 = nI (k + 1) from nI_add k 1]
  refine pl_sld (k := k + 1) hx hb hX hbl hbA hS (by omega) (by omega) dL_law_781 ?_
  refine lv_aload_n hx hb dL_law_782 rfl (lv_at hl 0 rfl) ?_
  refine lv_iload_n hx hb dL_law_783 rfl (lv_at hl 3 rfl) ?_
  refine lv_iconst (v := 2) hx hb dL_law_784 (by decide) ?_
  refine lv_iadd hx hb dL_law_785 ?_
  rw [show (nI k) + 2 = nI (k + 2) from nI_add k 2]
  refine pl_sld (k := k + 2) hx hb hX hbl hbA hS (by omega) (by omega) dL_law_786 ?_
  refine pl_callVi (As := [.int (xs (k + 1)), .int (xs (k + 2))]) (rest := []) ⟨hx, hb, hml, hown, hts⟩ (k_C_carrier l G cs L1 f1 _ a1 t lm nN nM ns ms rt pg (xs (k + 1)) (xs (k + 2)) hps) (cwV 2 hts (wg_V mw_266 mw_267 mw_268 mw_1 mw_269) rfl rfl rfl (by decide +kernel) ⟨Nat.le_of_ble_eq_true rfl, Nat.le_of_ble_eq_true rfl⟩) hK h2 hS hA m1 he1 rfl px_T (fun _ _ _ => trivial) rfl hl.1 rfl (lv_room (Nat.le_of_ble_eq_true rfl)) dL_law_787 ⟨show cells + 0 ≤ 600000 by omega, show slots + 0 ≤ 7302250 by omega⟩ (fun r1 L1' f1' H locs hq h2 hS => ?_)
  obtain ⟨a1', pg', ea, hr1, hps'⟩ := hq
  refine lv_aload_n hx hb dL_law_790 rfl (lv_at hl 2 rfl) ?_
  refine lv_aload_n hx hb dL_law_791 rfl (lv_at hl 0 rfl) ?_
  refine lv_iload_n hx hb dL_law_792 rfl (lv_at hl 3 rfl) ?_
  refine lv_iconst (v := 1) hx hb dL_law_793 (by decide) ?_
  refine lv_iadd hx hb dL_law_794 ?_
  rw [show (nI k) + 1 = nI (k + 1) from nI_add k 1]
  refine pl_sld (k := k + 1) hx hb hX hbl hbA hS (by omega) (by omega) dL_law_795 ?_
  refine lv_aload_n hx hb dL_law_796 rfl (lv_at hl 0 rfl) ?_
  refine lv_iload_n hx hb dL_law_797 rfl (lv_at hl 3 rfl) ?_
  refine lv_iconst (v := 2) hx hb dL_law_798 (by decide) ?_
  refine lv_iadd hx hb dL_law_799 ?_
  rw [show (nI k) + 2 = nI (k + 2) from nI_add k 2]
  refine pl_sld (k := k + 2) hx hb hX hbl hbA hS (by omega) (by omega) dL_law_800 ?_
  refine pl_callVi (As := [.int (xs (k + 1)), .int (xs (k + 2))]) (rest := [.int r1]) ⟨hx, hb, hml, hown, hts⟩ (k_R_carrier l G cs L2 f2 _ a2 t lm nN nM rs lk Ar Br (xs (k + 1)) (xs (k + 2)) hrs hR.hcc) (cwV 2 hts (wg_V mw_497 mw_498 mw_499 mw_3 mw_500) rfl rfl rfl (by decide +kernel) ⟨Nat.le_of_ble_eq_true rfl, Nat.le_of_ble_eq_true rfl⟩) hK h2.swap hS hA m2 he2 rfl px_T (fun _ _ _ => trivial) rfl hl.1 rfl (lv_room (Nat.le_of_ble_eq_true rfl)) dL_law_801 ⟨show cells + 0 + 0 ≤ 600000 by omega, show slots + 0 + 0 ≤ 7302250 by omega⟩ (fun r2 L2' f2' H locs hq h2 hS => ?_)
  obtain ⟨eL, hr2, rs', lk', hrs'⟩ := hq
  refine lv_icmp_eq (tgt := 875) hx hb dL_law_804 (by decide) (fun c_1 => ?_) (fun c_1 => absurd (by rw [hr1, hr2]; exact (ag_carrier (RX.mk lm hR) (xs (k + 1)) (xs (k + 2))).1) c_1)
  refine W.widen (k := cells + 4) (n := slots + 25) (by omega) (by omega) ?_
  exact K _ _ ⟨L1', f1', L2', f2', a1', a2, _, _, pg', rs', lk', h2.swap, ⟨ea, rfl⟩, hps', hrs', (ag_carrier (RX.mk lm hR) (xs (k + 1)) (xs (k + 2))).2⟩ hS

set_option maxHeartbeats 4000000 in
set_option maxRecDepth 100000 in
theorem law_c17 {p : Program} {l : Launch} {e : Env} {s : State} {m : MethodId} {below : List Frame} {meth : Method} {c : Code} {b L : Nat} {xs : Nat → Int32} (hL : L ≤ 2560) (C0 : lw_At p s m meth c b L xs) {cs : Nat → ClassId} {G : va_G} (hK : va_K G vwCl (tyl cs) s) {tL tC : Nat} (hSX : SX tL tC (fun q : Nat => s.heap.size ≤ q) s s.heap) {q1 q2 k : Nat} (hk : k + 5 ≤ L) {H : Heap} {locs : List Loc} {cells slots : Nat} (hc : cells + 4 ≤ 600000 ∧ slots + 25 ≤ 7302250) {ls : Array Slot} (hI : LI cs G (fun q : Nat => s.heap.size ≤ q) q1 q2 H) (hS : va_S (fun q : Nat => s.heap.size ≤ q) s.heap H locs) (hl : lv_has ls 4 [(0, .ref b), (1, .ref q1), (2, .ref q2), (3, .int (nI k))]) (K : ∀ (H : Heap) (locs : List Loc), LI cs G (fun q : Nat => s.heap.size ≤ q) q1 q2 H → va_S (fun q : Nat => s.heap.size ≤ q) s.heap H locs → W p l e room_1 s m #[Value.ref b] below meth c H locs (cells + 4) (slots + 25) (lw_Z below #[Value.ref b] s) (F0 m 875 ls [])) : W p l e room_1 s m #[Value.ref b] below meth c H locs cells slots (lw_Z below #[Value.ref b] s) (F0 m 809 ls []) := by
  obtain ⟨hx, hb, hr, hml, hown, hts, hX, hbl, hlocks, hgv⟩ := C0
  have hts : ∀ w ∈ wg, w.before #[Value.ref b] s = true := fun w h => hts w (List.mem_filter.mp h).1
  have hown : s.vm.findClass RL = some m.cls := hown
  have hA : ∀ q : Nat, s.heap.size ≤ q → (fun q : Nat => s.heap.size ≤ q) q := fun _ h => h
  have hbA : ¬ (fun q : Nat => s.heap.size ≤ q) b := Nat.not_le.mpr hbl
  obtain ⟨L1, f1, L2, f2, a1, a2, t, lm, nN, nM, ns, ms, rt, Ar, Br, pg, rs, lk, h2, ⟨e1, e2⟩, hps, hrs, hR⟩ := hI.unf
  subst e1
  subst e2
  have m1 := hps.mem (pu_lo (r := 0) (by decide))
  have he1 := hps.e0
  have m2 := hrs.mem 0 (by decide)
  have he2 := hrs.e0
  refine lv_aload_n hx hb dL_law_809 rfl (lv_at hl 1 rfl) ?_
  refine lv_aload_n hx hb dL_law_810 rfl (lv_at hl 0 rfl) ?_
  refine lv_iload_n hx hb dL_law_811 rfl (lv_at hl 3 rfl) ?_
  refine lv_iconst (v := 1) hx hb dL_law_812 (by decide) ?_
  refine lv_iadd hx hb dL_law_813 ?_
  rw [show (nI k) + 1 = nI (k + 1) from nI_add k 1]
  refine pl_sld (k := k + 1) hx hb hX hbl hbA hS (by omega) (by omega) dL_law_814 ?_
  refine lv_aload_n hx hb dL_law_815 rfl (lv_at hl 0 rfl) ?_
  refine lv_iload_n hx hb dL_law_816 rfl (lv_at hl 3 rfl) ?_
  refine lv_iconst (v := 2) hx hb dL_law_817 (by decide) ?_
  refine lv_iadd hx hb dL_law_818 ?_
  rw [show (nI k) + 2 = nI (k + 2) from nI_add k 2]
  refine pl_sld (k := k + 2) hx hb hX hbl hbA hS (by omega) (by omega) dL_law_819 ?_
  refine pr_callVi (As := [.int (xs (k + 1)), .int (xs (k + 2))]) (rest := []) ⟨hx, hb, hml, hown, hts⟩ (k_C_back l G cs L1 f1 a1 t lm nN nM ns ms rt pg (xs (k + 1)) (xs (k + 2)) hps) (cwV 2 hts (wg_V mw_278 mw_279 mw_280 mw_1 mw_281) rfl rfl rfl (by decide +kernel) ⟨Nat.le_of_ble_eq_true rfl, Nat.le_of_ble_eq_true rfl⟩) hK h2.1.1 m1 he1 rfl px_T (fun _ _ _ => trivial) rfl hl.1 rfl (lv_room (Nat.le_of_ble_eq_true rfl)) dL_law_820 ⟨show cells + 0 ≤ 600000 by omega, show slots + 0 ≤ 7302250 by omega⟩ (fun r1 hr1 => ?_)
  refine lv_aload_n hx hb dL_law_823 rfl (lv_at hl 2 rfl) ?_
  refine lv_aload_n hx hb dL_law_824 rfl (lv_at hl 0 rfl) ?_
  refine lv_iload_n hx hb dL_law_825 rfl (lv_at hl 3 rfl) ?_
  refine lv_iconst (v := 1) hx hb dL_law_826 (by decide) ?_
  refine lv_iadd hx hb dL_law_827 ?_
  rw [show (nI k) + 1 = nI (k + 1) from nI_add k 1]
  refine pl_sld (k := k + 1) hx hb hX hbl hbA hS (by omega) (by omega) dL_law_828 ?_
  refine lv_aload_n hx hb dL_law_829 rfl (lv_at hl 0 rfl) ?_
  refine lv_iload_n hx hb dL_law_830 rfl (lv_at hl 3 rfl) ?_
  refine lv_iconst (v := 2) hx hb dL_law_831 (by decide) ?_
  refine lv_iadd hx hb dL_law_832 ?_
  rw [show (nI k) + 2 = nI (k + 2) from nI_add k 2]
  refine pl_sld (k := k + 2) hx hb hX hbl hbA hS (by omega) (by omega) dL_law_833 ?_
  refine pr_callVi (As := [.int (xs (k + 1)), .int (xs (k + 2))]) (rest := [.int r1]) ⟨hx, hb, hml, hown, hts⟩ (k_R_back l G cs L2 f2 a2 t lm nN nM rs lk Ar Br (xs (k + 1)) (xs (k + 2)) hrs hR.hcc) (cwV 2 hts (wg_V mw_502 mw_503 mw_504 mw_3 mw_505) rfl rfl rfl (by decide +kernel) ⟨Nat.le_of_ble_eq_true rfl, Nat.le_of_ble_eq_true rfl⟩) hK h2.2.1.1 m2 he2 rfl px_T (fun _ _ _ => trivial) rfl hl.1 rfl (lv_room (Nat.le_of_ble_eq_true rfl)) dL_law_834 ⟨show cells + 0 ≤ 600000 by omega, show slots + 0 ≤ 7302250 by omega⟩ (fun r2 hr2 => ?_)
  refine lv_icmp_eq (tgt := 875) hx hb dL_law_837 (by decide) (fun c_1 => ?_) (fun c_1 => absurd (by rw [hr1, hr2]; exact eq_back hR (xs (k + 1)) (xs (k + 2))) c_1)
  refine W.widen (k := cells + 4) (n := slots + 25) (by omega) (by omega) ?_
  exact K _ _ hI hS

set_option maxHeartbeats 4000000 in
set_option maxRecDepth 100000 in
theorem law_c18 {p : Program} {l : Launch} {e : Env} {s : State} {m : MethodId} {below : List Frame} {meth : Method} {c : Code} {b L : Nat} {xs : Nat → Int32} (hL : L ≤ 2560) (C0 : lw_At p s m meth c b L xs) {cs : Nat → ClassId} {G : va_G} (hK : va_K G vwCl (tyl cs) s) {tL tC : Nat} (hSX : SX tL tC (fun q : Nat => s.heap.size ≤ q) s s.heap) {q1 q2 k : Nat} (hk : k + 5 ≤ L) {H : Heap} {locs : List Loc} {cells slots : Nat} (hc : cells + 4 ≤ 600000 ∧ slots + 25 ≤ 7302250) {ls : Array Slot} (hI : LI cs G (fun q : Nat => s.heap.size ≤ q) q1 q2 H) (hS : va_S (fun q : Nat => s.heap.size ≤ q) s.heap H locs) (hl : lv_has ls 4 [(0, .ref b), (1, .ref q1), (2, .ref q2), (3, .int (nI k))]) (K : ∀ (H : Heap) (locs : List Loc), LI cs G (fun q : Nat => s.heap.size ≤ q) q1 q2 H → va_S (fun q : Nat => s.heap.size ≤ q) s.heap H locs → W p l e room_1 s m #[Value.ref b] below meth c H locs (cells + 4) (slots + 25) (lw_Z below #[Value.ref b] s) (F0 m 875 ls [])) : W p l e room_1 s m #[Value.ref b] below meth c H locs cells slots (lw_Z below #[Value.ref b] s) (F0 m 842 ls []) := by
  obtain ⟨hx, hb, hr, hml, hown, hts, hX, hbl, hlocks, hgv⟩ := C0
  have hts : ∀ w ∈ wg, w.before #[Value.ref b] s = true := fun w h => hts w (List.mem_filter.mp h).1
  have hown : s.vm.findClass RL = some m.cls := hown
  have hA : ∀ q : Nat, s.heap.size ≤ q → (fun q : Nat => s.heap.size ≤ q) q := fun _ h => h
  have hbA : ¬ (fun q : Nat => s.heap.size ≤ q) b := Nat.not_le.mpr hbl
  obtain ⟨L1, f1, L2, f2, a1, a2, t, lm, nN, nM, ns, ms, rt, Ar, Br, pg, rs, lk, h2, ⟨e1, e2⟩, hps, hrs, hR⟩ := hI.unf
  subst e1
  subst e2
  have m1 := hps.mem (pu_lo (r := 0) (by decide))
  have he1 := hps.e0
  have m2 := hrs.mem 0 (by decide)
  have he2 := hrs.e0
  refine lv_aload_n hx hb dL_law_842 rfl (lv_at hl 1 rfl) ?_
  refine lv_aload_n hx hb dL_law_843 rfl (lv_at hl 0 rfl) ?_
  refine lv_iload_n hx hb dL_law_844 rfl (lv_at hl 3 rfl) ?_
  refine lv_iconst (v := 1) hx hb dL_law_845 (by decide) ?_
  refine lv_iadd hx hb dL_law_846 ?_
  rw [show (nI k) + 1 = nI (k + 1) from nI_add k 1]
  refine pl_sld (k := k + 1) hx hb hX hbl hbA hS (by omega) (by omega) dL_law_847 ?_
  refine lv_aload_n hx hb dL_law_848 rfl (lv_at hl 0 rfl) ?_
  refine lv_iload_n hx hb dL_law_849 rfl (lv_at hl 3 rfl) ?_
  refine lv_iconst (v := 2) hx hb dL_law_850 (by decide) ?_
  refine lv_iadd hx hb dL_law_851 ?_
  rw [show (nI k) + 2 = nI (k + 2) from nI_add k 2]
  refine pl_sld (k := k + 2) hx hb hX hbl hbA hS (by omega) (by omega) dL_law_852 ?_
  refine pl_callVi (As := [.int (xs (k + 1)), .int (xs (k + 2))]) (rest := []) ⟨hx, hb, hml, hown, hts⟩ (k_C_print l G cs L1 f1 _ a1 t lm nN nM ns ms rt pg (xs (k + 1)) (xs (k + 2)) tL tC hps hR.hpn hR.hpm) (cwV 2 hts (wg_V mw_283 mw_284 mw_285 mw_1 mw_286) rfl rfl rfl (by decide +kernel) ⟨Nat.le_of_ble_eq_true rfl, Nat.le_of_ble_eq_true rfl⟩) hK h2 hS hA m1 he1 rfl SX.px (SX.use hSX hS (pw_free h2.1.2 hS hA)) rfl hl.1 rfl (lv_room (Nat.le_of_ble_eq_true rfl)) dL_law_853 ⟨show cells + 0 ≤ 600000 by omega, show slots + 0 ≤ 7302250 by omega⟩ (fun r1 L1' f1' H locs hq h2 hS => ?_)
  obtain ⟨a1', pg', ea, hr1, hps'⟩ := hq
  refine lv_aload_n hx hb dL_law_856 rfl (lv_at hl 2 rfl) ?_
  refine lv_aload_n hx hb dL_law_857 rfl (lv_at hl 0 rfl) ?_
  refine lv_iload_n hx hb dL_law_858 rfl (lv_at hl 3 rfl) ?_
  refine lv_iconst (v := 1) hx hb dL_law_859 (by decide) ?_
  refine lv_iadd hx hb dL_law_860 ?_
  rw [show (nI k) + 1 = nI (k + 1) from nI_add k 1]
  refine pl_sld (k := k + 1) hx hb hX hbl hbA hS (by omega) (by omega) dL_law_861 ?_
  refine lv_aload_n hx hb dL_law_862 rfl (lv_at hl 0 rfl) ?_
  refine lv_iload_n hx hb dL_law_863 rfl (lv_at hl 3 rfl) ?_
  refine lv_iconst (v := 2) hx hb dL_law_864 (by decide) ?_
  refine lv_iadd hx hb dL_law_865 ?_
  rw [show (nI k) + 2 = nI (k + 2) from nI_add k 2]
  refine pl_sld (k := k + 2) hx hb hX hbl hbA hS (by omega) (by omega) dL_law_866 ?_
  refine pl_callVi (As := [.int (xs (k + 1)), .int (xs (k + 2))]) (rest := [.int r1]) ⟨hx, hb, hml, hown, hts⟩ (k_R_print l G cs L2 f2 _ a2 t lm nN nM rs lk Ar Br (xs (k + 1)) (xs (k + 2)) hrs hR.rpn hR.rpm) (cwV 2 hts (wg_V mw_506 mw_507 mw_508 mw_3 mw_509) rfl rfl rfl (by decide +kernel) ⟨Nat.le_of_ble_eq_true rfl, Nat.le_of_ble_eq_true rfl⟩) hK h2.swap hS hA m2 he2 rfl px_T (fun _ _ _ => trivial) rfl hl.1 rfl (lv_room (Nat.le_of_ble_eq_true rfl)) dL_law_867 ⟨show cells + 0 + 0 ≤ 600000 by omega, show slots + 0 + 0 ≤ 7302250 by omega⟩ (fun r2 L2' f2' H locs hq h2 hS => ?_)
  obtain ⟨eL, hr2, rs', lk', hrs'⟩ := hq
  refine lv_icmp_eq (tgt := 875) hx hb dL_law_870 (by decide) (fun c_1 => ?_) (fun c_1 => absurd (by rw [hr1, hr2]; exact eq_print hR pg.2 (xs (k + 1)) (xs (k + 2))) c_1)
  refine W.widen (k := cells + 4) (n := slots + 25) (by omega) (by omega) ?_
  exact K _ _ ⟨L1', f1', L2', f2', a1', a2, (t, lm, nN, nM, ns, ms, rt), (t, lm, nN, nM, Ar, Br), pg', rs', lk', h2.swap, ⟨ea, rfl⟩, hps', hrs', RX.mk lm hR⟩ hS
