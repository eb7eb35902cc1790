/-! The law: its cases 0 to 9. Laid by wip/gen/lawgen.py. -/
theorem pl_sld {p : Program} {l : Launch} {e : Env} {R : Room} {s : State} {m : MethodId} {args : Array Value} {below : List Frame} {meth : Method} {c : Code} {H : Heap} {locs : List Loc} {cells slots : Nat} {Q : State → Prop} {cc : ByteArray} {pc : Nat} {ls : Array Slot} {rest : List Value} {A : Nat → Prop} {H0 : Heap} (hexec : p.tables.exec = Jvm.exec) (hb : c.code = cc) {b L : Nat} {xs : Nat → Int32} (hX : va_X b L xs s H0) (hbl : b < H0.size) (hbA : ¬ A b) (hS : va_S A H0 H locs) {k : Nat} (hk : k < L) (hL : L < 2 ^ 31) (hdg : decode cc pc = .ok (.iaload, 1))
    (kk : W p l e R s m args below meth c H locs cells slots Q (F0 m (pc + 1) ls (.int (xs k) :: rest))) : W p l e R s m args below meth c H locs cells slots Q (F0 m pc ls (.int (nI k) :: .ref b :: rest)) :=
  va_sld hexec hb hX hbl hbA hS (vp_in_nI hk hL) hdg (by rw [nI_clamp (by omega)]; exact kk)
set_option maxHeartbeats 4000000 in
set_option maxRecDepth 100000 in
theorem law_c0 {p : Program} {l : Launch} {e : Env} {s : State} {m : MethodId} {below : List Frame} {meth : Method} {c : Code} {b L : Nat} {xs : Nat → Int32} (hL : L ≤ 2560) (C0 : lw_At p s m meth c b L xs) {cs : Nat → ClassId} {G : va_G} (hK : va_K G vwCl (tyl cs) s) {tL tC : Nat} (hSX : SX tL tC (fun q : Nat => s.heap.size ≤ q) s s.heap) {q1 q2 k : Nat} (hk : k + 5 ≤ L) {H : Heap} {locs : List Loc} {cells slots : Nat} (hc : cells + 4 ≤ 600000 ∧ slots + 25 ≤ 7302250) {ls : Array Slot} (hI : LI cs G (fun q : Nat => s.heap.size ≤ q) q1 q2 H) (hS : va_S (fun q : Nat => s.heap.size ≤ q) s.heap H locs) (hl : lv_has ls 4 [(0, .ref b), (1, .ref q1), (2, .ref q2), (3, .int (nI k))]) (K : ∀ (H : Heap) (locs : List Loc), LI cs G (fun q : Nat => s.heap.size ≤ q) q1 q2 H → va_S (fun q : Nat => s.heap.size ≤ q) s.heap H locs → W p l e room_1 s m #[Value.ref b] below meth c H locs (cells + 4) (slots + 25) (lw_Z below #[Value.ref b] s) (F0 m 875 ls [])) : W p l e room_1 s m #[Value.ref b] below meth c H locs cells slots (lw_Z below #[Value.ref b] s) (F0 m 124 ls []) := by
  obtain ⟨hx, hb, hr, hml, hown, hts, hX, hbl, hlocks, hgv⟩ := C0
  have hts : ∀ w ∈ wg, w.before #[Value.ref b] s = true := fun w h => hts w (List.mem_filter.mp h).1
  have hown : s.vm.findClass RL = some m.cls := hown
  have hA : ∀ q : Nat, s.heap.size ≤ q → (fun q : Nat => s.heap.size ≤ q) q := fun _ h => h
  have hbA : ¬ (fun q : Nat => s.heap.size ≤ q) b := Nat.not_le.mpr hbl
  obtain ⟨L1, f1, L2, f2, a1, a2, t, lm, nN, nM, ns, ms, rt, Ar, Br, pg, rs, lk, h2, ⟨e1, e2⟩, hps, hrs, hR⟩ := hI.unf
  subst e1
  subst e2
  have m1 := hps.mem (pu_lo (r := 0) (by decide))
  have he1 := hps.e0
  have m2 := hrs.mem 0 (by decide)
  have he2 := hrs.e0
  refine lv_aload_n hx hb dL_law_124 rfl (lv_at hl 1 rfl) ?_
  refine lv_aload_n hx hb dL_law_125 rfl (lv_at hl 0 rfl) ?_
  refine lv_iload_n hx hb dL_law_126 rfl (lv_at hl 3 rfl) ?_
  refine lv_iconst (v := 1) hx hb dL_law_127 (by decide) ?_
  refine lv_iadd hx hb dL_law_128 ?_
  rw [show (nI k) + 1 = nI (k + 1) from nI_add k 1]
  refine pl_sld (k := k + 1) hx hb hX hbl hbA hS (by omega) (by omega) dL_law_129 ?_
  refine pl_callVi (As := [.int (xs (k + 1))]) (rest := []) ⟨hx, hb, hml, hown, hts⟩ (k_C_day l G cs L1 f1 _ a1 t lm nN nM ns ms rt pg (xs (k + 1)) hps) (cwV 1 hts (wg_V mw_58 mw_59 mw_60 mw_1 mw_61) rfl rfl rfl (by decide +kernel) ⟨Nat.le_of_ble_eq_true rfl, Nat.le_of_ble_eq_true rfl⟩) hK h2 hS hA m1 he1 rfl px_T (fun _ _ _ => trivial) rfl hl.1 rfl (lv_room (Nat.le_of_ble_eq_true rfl)) dL_law_130 ⟨show cells + 0 ≤ 600000 by omega, show slots + 0 ≤ 7302250 by omega⟩ (fun r1 L1' f1' H locs hq h2 hS => ?_)
  obtain ⟨a1', pg', ea, hr1, hps'⟩ := hq
  refine lv_aload_n hx hb dL_law_133 rfl (lv_at hl 2 rfl) ?_
  refine lv_aload_n hx hb dL_law_134 rfl (lv_at hl 0 rfl) ?_
  refine lv_iload_n hx hb dL_law_135 rfl (lv_at hl 3 rfl) ?_
  refine lv_iconst (v := 1) hx hb dL_law_136 (by decide) ?_
  refine lv_iadd hx hb dL_law_137 ?_
  rw [show (nI k) + 1 = nI (k + 1) from nI_add k 1]
  refine pl_sld (k := k + 1) hx hb hX hbl hbA hS (by omega) (by omega) dL_law_138 ?_
  refine pl_callVi (As := [.int (xs (k + 1))]) (rest := [.int r1]) ⟨hx, hb, hml, hown, hts⟩ (k_R_day l G cs L2 f2 _ a2 t lm nN nM rs lk Ar Br (xs (k + 1)) hrs) (cwV 1 hts (wg_V mw_398 mw_399 mw_400 mw_3 mw_401) rfl rfl rfl (by decide +kernel) ⟨Nat.le_of_ble_eq_true rfl, Nat.le_of_ble_eq_true rfl⟩) hK h2.swap hS hA m2 he2 rfl px_T (fun _ _ _ => trivial) rfl hl.1 rfl (lv_room (Nat.le_of_ble_eq_true rfl)) dL_law_139 ⟨show cells + 0 + 0 ≤ 600000 by omega, show slots + 0 + 0 ≤ 7302250 by omega⟩ (fun r2 L2' f2' H locs hq h2 hS => ?_)
  obtain ⟨eL, hr2, rs', lk', hrs'⟩ := hq
  refine lv_icmp_eq (tgt := 875) hx hb dL_law_142 (by decide) (fun c_1 => ?_) (fun c_1 => absurd (by rw [hr1, hr2]; exact (ag_day (RX.mk lm hR) (xs (k + 1))).1) c_1)
  refine W.widen (k := cells + 4) (n := slots + 25) (by omega) (by omega) ?_
  exact K _ _ ⟨L1', f1', L2', f2', a1', a2, _, _, pg', rs', lk', h2.swap, ⟨ea, rfl⟩, hps', hrs', (ag_day (RX.mk lm hR) (xs (k + 1))).2⟩ hS

set_option maxHeartbeats 4000000 in
set_option maxRecDepth 100000 in
theorem law_c1 {p : Program} {l : Launch} {e : Env} {s : State} {m : MethodId} {below : List Frame} {meth : Method} {c : Code} {b L : Nat} {xs : Nat → Int32} (hL : L ≤ 2560) (C0 : lw_At p s m meth c b L xs) {cs : Nat → ClassId} {G : va_G} (hK : va_K G vwCl (tyl cs) s) {tL tC : Nat} (hSX : SX tL tC (fun q : Nat => s.heap.size ≤ q) s s.heap) {q1 q2 k : Nat} (hk : k + 5 ≤ L) {H : Heap} {locs : List Loc} {cells slots : Nat} (hc : cells + 4 ≤ 600000 ∧ slots + 25 ≤ 7302250) {ls : Array Slot} (hI : LI cs G (fun q : Nat => s.heap.size ≤ q) q1 q2 H) (hS : va_S (fun q : Nat => s.heap.size ≤ q) s.heap H locs) (hl : lv_has ls 4 [(0, .ref b), (1, .ref q1), (2, .ref q2), (3, .int (nI k))]) (K : ∀ (H : Heap) (locs : List Loc), LI cs G (fun q : Nat => s.heap.size ≤ q) q1 q2 H → va_S (fun q : Nat => s.heap.size ≤ q) s.heap H locs → W p l e room_1 s m #[Value.ref b] below meth c H locs (cells + 4) (slots + 25) (lw_Z below #[Value.ref b] s) (F0 m 875 ls [])) : W p l e room_1 s m #[Value.ref b] below meth c H locs cells slots (lw_Z below #[Value.ref b] s) (F0 m 147 ls []) := by
  obtain ⟨hx, hb, hr, hml, hown, hts, hX, hbl, hlocks, hgv⟩ := C0
  have hts : ∀ w ∈ wg, w.before #[Value.ref b] s = true := fun w h => hts w (List.mem_filter.mp h).1
  have hown : s.vm.findClass RL = some m.cls := hown
  have hA : ∀ q : Nat, s.heap.size ≤ q → (fun q : Nat => s.heap.size ≤ q) q := fun _ h => h
  have hbA : ¬ (fun q : Nat => s.heap.size ≤ q) b := Nat.not_le.mpr hbl
  obtain ⟨L1, f1, L2, f2, a1, a2, t, lm, nN, nM, ns, ms, rt, Ar, Br, pg, rs, lk, h2, ⟨e1, e2⟩, hps, hrs, hR⟩ := hI.unf
  subst e1
  subst e2
  have m1 := hps.mem (pu_lo (r := 0) (by decide))
  have he1 := hps.e0
  have m2 := hrs.mem 0 (by decide)
  have he2 := hrs.e0
  refine lv_aload_n hx hb dL_law_147 rfl (lv_at hl 1 rfl) ?_
  refine lv_aload_n hx hb dL_law_148 rfl (lv_at hl 0 rfl) ?_
  refine lv_iload_n hx hb dL_law_149 rfl (lv_at hl 3 rfl) ?_
  refine lv_iconst (v := 1) hx hb dL_law_150 (by decide) ?_
  refine lv_iadd hx hb dL_law_151 ?_
  rw [show (nI k) + 1 = nI (k + 1) from nI_add k 1]
  refine pl_sld (k := k + 1) hx hb hX hbl hbA hS (by omega) (by omega) dL_law_152 ?_
  refine lv_i2l hx hb dL_law_153 rfl ?_
  refine lv_bipush (v := 32) hx hb dL_law_154 (by decide) ?_
  refine lv_lshl hx hb dL_law_156 rfl ?_
  refine lv_aload_n hx hb dL_law_157 rfl (lv_at hl 0 rfl) ?_
  refine lv_iload_n hx hb dL_law_158 rfl (lv_at hl 3 rfl) ?_
  refine lv_iconst (v := 2) hx hb dL_law_159 (by decide) ?_
  refine lv_iadd hx hb dL_law_160 ?_
  rw [show (nI k) + 2 = nI (k + 2) from nI_add k 2]
  refine pl_sld (k := k + 2) hx hb hX hbl hbA hS (by omega) (by omega) dL_law_161 ?_
  refine lv_i2l hx hb dL_law_162 rfl ?_
  refine lv_ldc2 hx hb hown (hts _ mw_524) dL_law_163 ?_
  refine lv_land hx hb dL_law_166 ?_
  refine lv_lor hx hb dL_law_167 ?_
  refine lv_aload_n hx hb dL_law_168 rfl (lv_at hl 0 rfl) ?_
  refine lv_iload_n hx hb dL_law_169 rfl (lv_at hl 3 rfl) ?_
  refine lv_iconst (v := 3) hx hb dL_law_170 (by decide) ?_
  refine lv_iadd hx hb dL_law_171 ?_
  rw [show (nI k) + 3 = nI (k + 3) from nI_add k 3]
  refine pl_sld (k := k + 3) hx hb hX hbl hbA hS (by omega) (by omega) dL_law_172 ?_
  refine lv_aload_n hx hb dL_law_173 rfl (lv_at hl 0 rfl) ?_
  refine lv_iload_n hx hb dL_law_174 rfl (lv_at hl 3 rfl) ?_
  refine lv_iconst (v := 4) hx hb dL_law_175 (by decide) ?_
  refine lv_iadd hx hb dL_law_176 ?_
  rw [show (nI k) + 4 = nI (k + 4) from nI_add k 4]
  refine pl_sld (k := k + 4) hx hb hX hbl hbA hS (by omega) (by omega) dL_law_177 ?_
  refine pl_callVi (As := [.long ((((xs (k + 1)).toInt64) <<< ((32 : Int32).toInt64 &&& 63)) ||| (((xs (k + 2)).toInt64) &&& 4294967295)), .int (xs (k + 3)), .int (xs (k + 4))]) (rest := []) ⟨hx, hb, hml, hown, hts⟩ (k_C_notice l G cs L1 f1 _ a1 t lm nN nM ns ms rt pg ((((xs (k + 1)).toInt64) <<< ((32 : Int32).toInt64 &&& 63)) ||| (((xs (k + 2)).toInt64) &&& 4294967295)) (xs (k + 3)) (xs (k + 4)) hps) (cwV 3 hts (wg_V mw_71 mw_72 mw_73 mw_1 mw_74) rfl rfl rfl (by decide +kernel) ⟨Nat.le_of_ble_eq_true rfl, Nat.le_of_ble_eq_true rfl⟩) hK h2 hS hA m1 he1 rfl px_T (fun _ _ _ => trivial) rfl hl.1 rfl (lv_room (Nat.le_of_ble_eq_true rfl)) dL_law_178 ⟨show cells + 4 ≤ 600000 by omega, show slots + 25 ≤ 7302250 by omega⟩ (fun r1 L1' f1' H locs hq h2 hS => ?_)
  obtain ⟨a1', pg', ea, hr1, hps'⟩ := hq
  refine lv_aload_n hx hb dL_law_181 rfl (lv_at hl 2 rfl) ?_
  refine lv_aload_n hx hb dL_law_182 rfl (lv_at hl 0 rfl) ?_
  refine lv_iload_n hx hb dL_law_183 rfl (lv_at hl 3 rfl) ?_
  refine lv_iconst (v := 1) hx hb dL_law_184 (by decide) ?_
  refine lv_iadd hx hb dL_law_185 ?_
  rw [show (nI k) + 1 = nI (k + 1) from nI_add k 1]
  refine pl_sld (k := k + 1) hx hb hX hbl hbA hS (by omega) (by omega) dL_law_186 ?_
  refine lv_i2l hx hb dL_law_187 rfl ?_
  refine lv_bipush (v := 32) hx hb dL_law_188 (by decide) ?_
  refine lv_lshl hx hb dL_law_190 rfl ?_
  refine lv_aload_n hx hb dL_law_191 rfl (lv_at hl 0 rfl) ?_
  refine lv_iload_n hx hb dL_law_192 rfl (lv_at hl 3 rfl) ?_
  refine lv_iconst (v := 2) hx hb dL_law_193 (by decide) ?_
  refine lv_iadd hx hb dL_law_194 ?_
  rw [show (nI k) + 2 = nI (k + 2) from nI_add k 2]
  refine pl_sld (k := k + 2) hx hb hX hbl hbA hS (by omega) (by omega) dL_law_195 ?_
  refine lv_i2l hx hb dL_law_196 rfl ?_
  refine lv_ldc2 hx hb hown (hts _ mw_524) dL_law_197 ?_
  refine lv_land hx hb dL_law_200 ?_
  refine lv_lor hx hb dL_law_201 ?_
  refine lv_aload_n hx hb dL_law_202 rfl (lv_at hl 0 rfl) ?_
  refine lv_iload_n hx hb dL_law_203 rfl (lv_at hl 3 rfl) ?_
  refine lv_iconst (v := 3) hx hb dL_law_204 (by decide) ?_
  refine lv_iadd hx hb dL_law_205 ?_
  rw [show (nI k) + 3 = nI (k + 3) from nI_add k 3]
  refine pl_sld (k := k + 3) hx hb hX hbl hbA hS (by omega) (by omega) dL_law_206 ?_
  refine lv_aload_n hx hb dL_law_207 rfl (lv_at hl 0 rfl) ?_
  refine lv_iload_n hx hb dL_law_208 rfl (lv_at hl 3 rfl) ?_
  refine lv_iconst (v := 4) hx hb dL_law_209 (by decide) ?_
  refine lv_iadd hx hb dL_law_210 ?_
  rw [show (nI k) + 4 = nI (k + 4) from nI_add k 4]
  refine pl_sld (k := k + 4) hx hb hX hbl hbA hS (by omega) (by omega) dL_law_211 ?_
  refine pl_callVi (As := [.long ((((xs (k + 1)).toInt64) <<< ((32 : Int32).toInt64 &&& 63)) ||| (((xs (k + 2)).toInt64) &&& 4294967295)), .int (xs (k + 3)), .int (xs (k + 4))]) (rest := [.int r1]) ⟨hx, hb, hml, hown, hts⟩ (k_R_notice l G cs L2 f2 _ a2 t lm nN nM rs lk Ar Br ((((xs (k + 1)).toInt64) <<< ((32 : Int32).toInt64 &&& 63)) ||| (((xs (k + 2)).toInt64) &&& 4294967295)) (xs (k + 3)) (xs (k + 4)) hrs) (cwV 3 hts (wg_V mw_410 mw_411 mw_412 mw_3 mw_413) rfl rfl rfl (by decide +kernel) ⟨Nat.le_of_ble_eq_true rfl, Nat.le_of_ble_eq_true rfl⟩) hK h2.swap hS hA m2 he2 rfl px_T (fun _ _ _ => trivial) rfl hl.1 rfl (lv_room (Nat.le_of_ble_eq_true rfl)) dL_law_212 ⟨show cells + 4 + 0 ≤ 600000 by omega, show slots + 25 + 0 ≤ 7302250 by omega⟩ (fun r2 L2' f2' H locs hq h2 hS => ?_)
  obtain ⟨eL, hr2, rs', lk', hrs'⟩ := hq
  refine lv_icmp_eq (tgt := 875) hx hb dL_law_215 (by decide) (fun c_1 => ?_) (fun c_1 => absurd (by rw [hr1, hr2]; exact (ag_notice (RX.mk lm hR) ((((xs (k + 1)).toInt64) <<< ((32 : Int32).toInt64 &&& 63)) ||| (((xs (k + 2)).toInt64) &&& 4294967295)) (xs (k + 3)) (xs (k + 4))).1) c_1)
  refine W.widen (k := cells + 4) (n := slots + 25) (by omega) (by omega) ?_
  exact K _ _ ⟨L1', f1', L2', f2', a1', a2, _, _, pg', rs', lk', h2.swap, ⟨ea, rfl⟩, hps', hrs', (ag_notice (RX.mk lm hR) ((((xs (k + 1)).toInt64) <<< ((32 : Int32).toInt64 &&& 63)) ||| (((xs (k + 2)).toInt64) &&& 4294967295)) (xs (k + 3)) (xs (k + 4))).2⟩ hS

set_option maxHeartbeats 4000000 in
set_option maxRecDepth 100000 in
theorem law_c2 {p : Program} {l : Launch} {e : Env} {s : State} {m : MethodId} {below : List Frame} {meth : Method} {c : Code} {b L : Nat} {xs : Nat → Int32} (hL : L ≤ 2560) (C0 : lw_At p s m meth c b L xs) {cs : Nat → ClassId} {G : va_G} (hK : va_K G vwCl (tyl cs) s) {tL tC : Nat} (hSX : SX tL tC (fun q : Nat => s.heap.size ≤ q) s s.heap) {q1 q2 k : Nat} (hk : k + 5 ≤ L) {H : Heap} {locs : List Loc} {cells slots : Nat} (hc : cells + 4 ≤ 600000 ∧ slots + 25 ≤ 7302250) {ls : Array Slot} (hI : LI cs G (fun q : Nat => s.heap.size ≤ q) q1 q2 H) (hS : va_S (fun q : Nat => s.heap.size ≤ q) s.heap H locs) (hl : lv_has ls 4 [(0, .ref b), (1, .ref q1), (2, .ref q2), (3, .int (nI k))]) (K : ∀ (H : Heap) (locs : List Loc), LI cs G (fun q : Nat => s.heap.size ≤ q) q1 q2 H → va_S (fun q : Nat => s.heap.size ≤ q) s.heap H locs → W p l e room_1 s m #[Value.ref b] below meth c H locs (cells + 4) (slots + 25) (lw_Z below #[Value.ref b] s) (F0 m 875 ls [])) : W p l e room_1 s m #[Value.ref b] below meth c H locs cells slots (lw_Z below #[Value.ref b] s) (F0 m 220 ls []) := by
  obtain ⟨hx, hb, hr, hml, hown, hts, hX, hbl, hlocks, hgv⟩ := C0
  have hts : ∀ w ∈ wg, w.before #[Value.ref b] s = true := fun w h => hts w (List.mem_filter.mp h).1
  have hown : s.vm.findClass RL = some m.cls := hown
  have hA : ∀ q : Nat, s.heap.size ≤ q → (fun q : Nat => s.heap.size ≤ q) q := fun _ h => h
  have hbA : ¬ (fun q : Nat => s.heap.size ≤ q) b := Nat.not_le.mpr hbl
  obtain ⟨L1, f1, L2, f2, a1, a2, t, lm, nN, nM, ns, ms, rt, Ar, Br, pg, rs, lk, h2, ⟨e1, e2⟩, hps, hrs, hR⟩ := hI.unf
  subst e1
  subst e2
  have m1 := hps.mem (pu_lo (r := 0) (by decide))
  have he1 := hps.e0
  have m2 := hrs.mem 0 (by decide)
  have he2 := hrs.e0
  refine lv_aload_n hx hb dL_law_220 rfl (lv_at hl 1 rfl) ?_
  refine lv_aload_n hx hb dL_law_221 rfl (lv_at hl 0 rfl) ?_
  refine lv_iload_n hx hb dL_law_222 rfl (lv_at hl 3 rfl) ?_
  refine lv_iconst (v := 1) hx hb dL_law_223 (by decide) ?_
  refine lv_iadd hx hb dL_law_224 ?_
  rw [show (nI k) + 1 = nI (k + 1) from nI_add k 1]
  refine pl_sld (k := k + 1) hx hb hX hbl hbA hS (by omega) (by omega) dL_law_225 ?_
  refine lv_aload_n hx hb dL_law_226 rfl (lv_at hl 0 rfl) ?_
  refine lv_iload_n hx hb dL_law_227 rfl (lv_at hl 3 rfl) ?_
  refine lv_iconst (v := 2) hx hb dL_law_228 (by decide) ?_
  refine lv_iadd hx hb dL_law_229 ?_
  rw [show (nI k) + 2 = nI (k + 2) from nI_add k 2]
  refine pl_sld (k := k + 2) hx hb hX hbl hbA hS (by omega) (by omega) dL_law_230 ?_
  refine lv_aload_n hx hb dL_law_231 rfl (lv_at hl 0 rfl) ?_
  refine lv_iload_n hx hb dL_law_232 rfl (lv_at hl 3 rfl) ?_
  refine lv_iconst (v := 3) hx hb dL_law_233 (by decide) ?_
  refine lv_iadd hx hb dL_law_234 ?_
  rw [show (nI k) + 3 = nI (k + 3) from nI_add k 3]
  refine pl_sld (k := k + 3) hx hb hX hbl hbA hS (by omega) (by omega) dL_law_235 ?_
  refine pl_callVi (As := [.int (xs (k + 1)), .int (xs (k + 2)), .int (xs (k + 3))]) (rest := []) ⟨hx, hb, hml, hown, hts⟩ (k_C_country l G cs L1 f1 _ a1 t lm nN nM ns ms rt pg (xs (k + 1)) (xs (k + 2)) (xs (k + 3)) hps) (cwV 3 hts (wg_V mw_107 mw_108 mw_109 mw_1 mw_110) rfl rfl rfl (by decide +kernel) ⟨Nat.le_of_ble_eq_true rfl, Nat.le_of_ble_eq_true rfl⟩) hK h2 hS hA m1 he1 rfl px_T (fun _ _ _ => trivial) rfl hl.1 rfl (lv_room (Nat.le_of_ble_eq_true rfl)) dL_law_236 ⟨show cells + 0 ≤ 600000 by omega, show slots + 0 ≤ 7302250 by omega⟩ (fun r1 L1' f1' H locs hq h2 hS => ?_)
  obtain ⟨a1', pg', ea, hr1, hps'⟩ := hq
  refine lv_aload_n hx hb dL_law_239 rfl (lv_at hl 2 rfl) ?_
  refine lv_aload_n hx hb dL_law_240 rfl (lv_at hl 0 rfl) ?_
  refine lv_iload_n hx hb dL_law_241 rfl (lv_at hl 3 rfl) ?_
  refine lv_iconst (v := 1) hx hb dL_law_242 (by decide) ?_
  refine lv_iadd hx hb dL_law_243 ?_
  rw [show (nI k) + 1 = nI (k + 1) from nI_add k 1]
  refine pl_sld (k := k + 1) hx hb hX hbl hbA hS (by omega) (by omega) dL_law_244 ?_
  refine lv_aload_n hx hb dL_law_245 rfl (lv_at hl 0 rfl) ?_
  refine lv_iload_n hx hb dL_law_246 rfl (lv_at hl 3 rfl) ?_
  refine lv_iconst (v := 2) hx hb dL_law_247 (by decide) ?_
  refine lv_iadd hx hb dL_law_248 ?_
  rw [show (nI k) + 2 = nI (k + 2) from nI_add k 2]
  refine pl_sld (k := k + 2) hx hb hX hbl hbA hS (by omega) (by omega) dL_law_249 ?_
  refine lv_aload_n hx hb dL_law_250 rfl (lv_at hl 0 rfl) ?_
  refine lv_iload_n hx hb dL_law_251 rfl (lv_at hl 3 rfl) ?_
  refine lv_iconst (v := 3) hx hb dL_law_252 (by decide) ?_
  refine lv_iadd hx hb dL_law_253 ?_
  rw [show (nI k) + 3 = nI (k + 3) from nI_add k 3]
  refine pl_sld (k := k + 3) hx hb hX hbl hbA hS (by omega) (by omega) dL_law_254 ?_
  refine pl_callVi (As := [.int (xs (k + 1)), .int (xs (k + 2)), .int (xs (k + 3))]) (rest := [.int r1]) ⟨hx, hb, hml, hown, hts⟩ (k_R_country l G cs L2 f2 _ a2 t lm nN nM rs lk Ar Br (xs (k + 1)) (xs (k + 2)) (xs (k + 3)) hrs) (cwV 3 hts (wg_V mw_415 mw_416 mw_417 mw_3 mw_418) rfl rfl rfl (by decide +kernel) ⟨Nat.le_of_ble_eq_true rfl, Nat.le_of_ble_eq_true rfl⟩) hK h2.swap hS hA m2 he2 rfl px_T (fun _ _ _ => trivial) rfl hl.1 rfl (lv_room (Nat.le_of_ble_eq_true rfl)) dL_law_255 ⟨show cells + 0 + 0 ≤ 600000 by omega, show slots + 0 + 0 ≤ 7302250 by omega⟩ (fun r2 L2' f2' H locs hq h2 hS => ?_)
  obtain ⟨eL, hr2, rs', lk', hrs'⟩ := hq
  refine lv_icmp_eq (tgt := 875) hx hb dL_law_258 (by decide) (fun c_1 => ?_) (fun c_1 => absurd (by rw [hr1, hr2]; exact (ag_country (RX.mk lm hR) (xs (k + 1)) (xs (k + 2)) (xs (k + 3))).1) c_1)
  refine W.widen (k := cells + 4) (n := slots + 25) (by omega) (by omega) ?_
  exact K _ _ ⟨L1', f1', L2', f2', a1', a2, _, _, pg', rs', lk', h2.swap, ⟨ea, rfl⟩, hps', hrs', (ag_country (RX.mk lm hR) (xs (k + 1)) (xs (k + 2)) (xs (k + 3))).2⟩ hS

set_option maxHeartbeats 4000000 in
set_option maxRecDepth 100000 in
theorem law_c3 {p : Program} {l : Launch} {e : Env} {s : State} {m : MethodId} {below : List Frame} {meth : Method} {c : Code} {b L : Nat} {xs : Nat → Int32} (hL : L ≤ 2560) (C0 : lw_At p s m meth c b L xs) {cs : Nat → ClassId} {G : va_G} (hK : va_K G vwCl (tyl cs) s) {tL tC : Nat} (hSX : SX tL tC (fun q : Nat => s.heap.size ≤ q) s s.heap) {q1 q2 k : Nat} (hk : k + 5 ≤ L) {H : Heap} {locs : List Loc} {cells slots : Nat} (hc : cells + 4 ≤ 600000 ∧ slots + 25 ≤ 7302250) {ls : Array Slot} (hI : LI cs G (fun q : Nat => s.heap.size ≤ q) q1 q2 H) (hS : va_S (fun q : Nat => s.heap.size ≤ q) s.heap H locs) (hl : lv_has ls 4 [(0, .ref b), (1, .ref q1), (2, .ref q2), (3, .int (nI k))]) (K : ∀ (H : Heap) (locs : List Loc), LI cs G (fun q : Nat => s.heap.size ≤ q) q1 q2 H → va_S (fun q : Nat => s.heap.size ≤ q) s.heap H locs → W p l e room_1 s m #[Value.ref b] below meth c H locs (cells + 4) (slots + 25) (lw_Z below #[Value.ref b] s) (F0 m 875 ls [])) : W p l e room_1 s m #[Value.ref b] below meth c H locs cells slots (lw_Z below #[Value.ref b] s) (F0 m 263 ls []) := by
  obtain ⟨hx, hb, hr, hml, hown, hts, hX, hbl, hlocks, hgv⟩ := C0
  have hts : ∀ w ∈ wg, w.before #[Value.ref b] s = true := fun w h => hts w (List.mem_filter.mp h).1
  have hown : s.vm.findClass RL = some m.cls := hown
  have hA : ∀ q : Nat, s.heap.size ≤ q → (fun q : Nat => s.heap.size ≤ q) q := fun _ h => h
  have hbA : ¬ (fun q : Nat => s.heap.size ≤ q) b := Nat.not_le.mpr hbl
  obtain ⟨L1, f1, L2, f2, a1, a2, t, lm, nN, nM, ns, ms, rt, Ar, Br, pg, rs, lk, h2, ⟨e1, e2⟩, hps, hrs, hR⟩ := hI.unf
  subst e1
  subst e2
  have m1 := hps.mem (pu_lo (r := 0) (by decide))
  have he1 := hps.e0
  have m2 := hrs.mem 0 (by decide)
  have he2 := hrs.e0
  refine lv_aload_n hx hb dL_law_263 rfl (lv_at hl 1 rfl) ?_
  refine lv_aload_n hx hb dL_law_264 rfl (lv_at hl 0 rfl) ?_
  refine lv_iload_n hx hb dL_law_265 rfl (lv_at hl 3 rfl) ?_
  refine lv_iconst (v := 1) hx hb dL_law_266 (by decide) ?_
  refine lv_iadd hx hb dL_law_267 ?_
  rw [show (nI k) + 1 = nI (k + 1) from nI_add k 1]
  refine pl_sld (k := k + 1) hx hb hX hbl hbA hS (by omega) (by omega) dL_law_268 ?_
  refine lv_aload_n hx hb dL_law_269 rfl (lv_at hl 0 rfl) ?_
  refine lv_iload_n hx hb dL_law_270 rfl (lv_at hl 3 rfl) ?_
  refine lv_iconst (v := 2) hx hb dL_law_271 (by decide) ?_
  refine lv_iadd hx hb dL_law_272 ?_
  rw [show (nI k) + 2 = nI (k + 2) from nI_add k 2]
  refine pl_sld (k := k + 2) hx hb hX hbl hbA hS (by omega) (by omega) dL_law_273 ?_
  refine lv_aload_n hx hb dL_law_274 rfl (lv_at hl 0 rfl) ?_
  refine lv_iload_n hx hb dL_law_275 rfl (lv_at hl 3 rfl) ?_
  refine lv_iconst (v := 3) hx hb dL_law_276 (by decide) ?_
  refine lv_iadd hx hb dL_law_277 ?_
  rw [show (nI k) + 3 = nI (k + 3) from nI_add k 3]
  refine pl_sld (k := k + 3) hx hb hX hbl hbA hS (by omega) (by omega) dL_law_278 ?_
  refine pj_join (fun z => z = (if xs (k + 3) = 0 then 0 else 1 : Int32)) 287 ls [.int (xs (k + 2)), .int (xs (k + 1)), .ref (a1 0)] (fun J => ?_) (fun z hz => ?_)
  · refine lv_if_eq (tgt := 286) hx hb dL_law_279 (by decide) (fun c_279 => ?_) (fun c_279 => ?_)
    · refine lv_iconst (v := 0) hx hb dL_law_286 (by decide) ?_
      exact J _ (by simp [c_279])
    · refine lv_iconst (v := 1) hx hb dL_law_282 (by decide) ?_
      refine lv_goto (tgt := 287) hx hb dL_law_283 (by decide) ?_
      exact J _ (by simp [c_279])
  · subst hz
    refine pl_callVi (As := [.int (xs (k + 1)), .int (xs (k + 2)), .int (if xs (k + 3) = 0 then 0 else 1)]) (rest := []) ⟨hx, hb, hml, hown, hts⟩ (k_C_says l G cs L1 f1 _ a1 t lm nN nM ns ms rt pg (xs (k + 1)) (xs (k + 2)) (if xs (k + 3) = 0 then 0 else 1) hps) (cwV 3 hts (wg_V mw_115 mw_116 mw_117 mw_1 mw_118) rfl rfl rfl (by decide +kernel) ⟨Nat.le_of_ble_eq_true rfl, Nat.le_of_ble_eq_true rfl⟩) hK h2 hS hA m1 he1 rfl px_T (fun _ _ _ => trivial) rfl hl.1 rfl (lv_room (Nat.le_of_ble_eq_true rfl)) dL_law_287 ⟨show cells + 0 ≤ 600000 by omega, show slots + 0 ≤ 7302250 by omega⟩ (fun r1 L1' f1' H locs hq h2 hS => ?_)
    obtain ⟨a1', pg', ea, hr1, hps'⟩ := hq
    refine lv_aload_n hx hb dL_law_290 rfl (lv_at hl 2 rfl) ?_
    refine lv_aload_n hx hb dL_law_291 rfl (lv_at hl 0 rfl) ?_
    refine lv_iload_n hx hb dL_law_292 rfl (lv_at hl 3 rfl) ?_
    refine lv_iconst (v := 1) hx hb dL_law_293 (by decide) ?_
    refine lv_iadd hx hb dL_law_294 ?_
    rw [show (nI k) + 1 = nI (k + 1) from nI_add k 1]
    refine pl_sld (k := k + 1) hx hb hX hbl hbA hS (by omega) (by omega) dL_law_295 ?_
    refine lv_aload_n hx hb dL_law_296 rfl (lv_at hl 0 rfl) ?_
    refine lv_iload_n hx hb dL_law_297 rfl (lv_at hl 3 rfl) ?_
    refine lv_iconst (v := 2) hx hb dL_law_298 (by decide) ?_
    refine lv_iadd hx hb dL_law_299 ?_
    rw [show (nI k) + 2 = nI (k + 2) from nI_add k 2]
    refine pl_sld (k := k + 2) hx hb hX hbl hbA hS (by omega) (by omega) dL_law_300 ?_
    refine lv_aload_n hx hb dL_law_301 rfl (lv_at hl 0 rfl) ?_
    refine lv_iload_n hx hb dL_law_302 rfl (lv_at hl 3 rfl) ?_
    refine lv_iconst (v := 3) hx hb dL_law_303 (by decide) ?_
    refine lv_iadd hx hb dL_law_304 ?_
    rw [show (nI k) + 3 = nI (k + 3) from nI_add k 3]
    refine pl_sld (k := k + 3) hx hb hX hbl hbA hS (by omega) (by omega) dL_law_305 ?_
    refine pj_join (fun z => z = (if xs (k + 3) = 0 then 0 else 1 : Int32)) 314 ls [.int (xs (k + 2)), .int (xs (k + 1)), .ref (a2 0), .int r1] (fun J => ?_) (fun z hz => ?_)
    · refine lv_if_eq (tgt := 313) hx hb dL_law_306 (by decide) (fun c_306 => ?_) (fun c_306 => ?_)
      · refine lv_iconst (v := 0) hx hb dL_law_313 (by decide) ?_
        exact J _ (by simp [c_306])
      · refine lv_iconst (v := 1) hx hb dL_law_309 (by decide) ?_
        refine lv_goto (tgt := 314) hx hb dL_law_310 (by decide) ?_
        exact J _ (by simp [c_306])
    · subst hz
      refine pl_callVi (As := [.int (xs (k + 1)), .int (xs (k + 2)), .int (if xs (k + 3) = 0 then 0 else 1)]) (rest := [.int r1]) ⟨hx, hb, hml, hown, hts⟩ (k_R_says l G cs L2 f2 _ a2 t lm nN nM rs lk Ar Br (xs (k + 1)) (xs (k + 2)) (if xs (k + 3) = 0 then 0 else 1) hrs) (cwV 3 hts (wg_V mw_427 mw_428 mw_429 mw_3 mw_430) rfl rfl rfl (by decide +kernel) ⟨Nat.le_of_ble_eq_true rfl, Nat.le_of_ble_eq_true rfl⟩) hK h2.swap hS hA m2 he2 rfl px_T (fun _ _ _ => trivial) rfl hl.1 rfl (lv_room (Nat.le_of_ble_eq_true rfl)) dL_law_314 ⟨show cells + 0 + 0 ≤ 600000 by omega, show slots + 0 + 0 ≤ 7302250 by omega⟩ (fun r2 L2' f2' H locs hq h2 hS => ?_)
      obtain ⟨eL, hr2, rs', lk', hrs'⟩ := hq
      refine lv_icmp_eq (tgt := 875) hx hb dL_law_317 (by decide) (fun c_1 => ?_) (fun c_1 => absurd (by rw [hr1, hr2]; exact (ag_says (RX.mk lm hR) (xs (k + 1)) (xs (k + 2)) (if xs (k + 3) = 0 then 0 else 1)).1) c_1)
      refine W.widen (k := cells + 4) (n := slots + 25) (by omega) (by omega) ?_
      exact K _ _ ⟨L1', f1', L2', f2', a1', a2, _, _, pg', rs', lk', h2.swap, ⟨ea, rfl⟩, hps', hrs', (ag_says (RX.mk lm hR) (xs (k + 1)) (xs (k + 2)) (if xs (k + 3) = 0 then 0 else 1)).2⟩ hS

set_option maxHeartbeats 4000000 in
set_option maxRecDepth 100000 in
theorem law_c4 {p : Program} {l : Launch} {e : Env} {s : State} {m : MethodId} {below : List Frame} {meth : Method} {c : Code} {b L : Nat} {xs : Nat → Int32} (hL : L ≤ 2560) (C0 : lw_At p s m meth c b L xs) {cs : Nat → ClassId} {G : va_G} (hK : va_K G vwCl (tyl cs) s) {tL tC : Nat} (hSX : SX tL tC (fun q : Nat => s.heap.size ≤ q) s s.heap) {q1 q2 k : Nat} (hk : k + 5 ≤ L) {H : Heap} {locs : List Loc} {cells slots : Nat} (hc : cells + 4 ≤ 600000 ∧ slots + 25 ≤ 7302250) {ls : Array Slot} (hI : LI cs G (fun q : Nat => s.heap.size ≤ q) q1 q2 H) (hS : va_S (fun q : Nat => s.heap.size ≤ q) s.heap H locs) (hl : lv_has ls 4 [(0, .ref b), (1, .ref q1), (2, .ref q2), (3, .int (nI k))]) (K : ∀ (H : Heap) (locs : List Loc), LI cs G (fun q : Nat => s.heap.size ≤ q) q1 q2 H → va_S (fun q : Nat => s.heap.size ≤ q) s.heap H locs → W p l e room_1 s m #[Value.ref b] below meth c H locs (cells + 4) (slots + 25) (lw_Z below #[Value.ref b] s) (F0 m 875 ls [])) : W p l e room_1 s m #[Value.ref b] below meth c H locs cells slots (lw_Z below #[Value.ref b] s) (F0 m 322 ls []) := by
  obtain ⟨hx, hb, hr, hml, hown, hts, hX, hbl, hlocks, hgv⟩ := C0
  have hts : ∀ w ∈ wg, w.before #[Value.ref b] s = true := fun w h => hts w (List.mem_filter.mp h).1
  have hown : s.vm.findClass RL = some m.cls := hown
  have hA : ∀ q : Nat, s.heap.size ≤ q → (fun q : Nat => s.heap.size ≤ q) q := fun _ h => h
  have hbA : ¬ (fun q : Nat => s.heap.size ≤ q) b := Nat.not_le.mpr hbl
  obtain ⟨L1, f1, L2, f2, a1, a2, t, lm, nN, nM, ns, ms, rt, Ar, Br, pg, rs, lk, h2, ⟨e1, e2⟩, hps, hrs, hR⟩ := hI.unf
  subst e1
  subst e2
  have m1 := hps.mem (pu_lo (r := 0) (by decide))
  have he1 := hps.e0
  have m2 := hrs.mem 0 (by decide)
  have he2 := hrs.e0
  refine lv_aload_n hx hb dL_law_322 rfl (lv_at hl 1 rfl) ?_
  refine lv_aload_n hx hb dL_law_323 rfl (lv_at hl 0 rfl) ?_
  refine lv_iload_n hx hb dL_law_324 rfl (lv_at hl 3 rfl) ?_
  refine lv_iconst (v := 1) hx hb dL_law_325 (by decide) ?_
  refine lv_iadd hx hb dL_law_326 ?_
  rw [show (nI k) + 1 = nI (k + 1) from nI_add k 1]
  refine pl_sld (k := k + 1) hx hb hX hbl hbA hS (by omega) (by omega) dL_law_327 ?_
  refine pr_callVi (As := [.int (xs (k + 1))]) (rest := []) ⟨hx, hb, hml, hown, hts⟩ (k_C_state l G cs L1 f1 a1 t lm nN nM ns ms rt pg (xs (k + 1)) hps) (cwV 1 hts (wg_V mw_123 mw_124 mw_125 mw_1 mw_126) rfl rfl rfl (by decide +kernel) ⟨Nat.le_of_ble_eq_true rfl, Nat.le_of_ble_eq_true rfl⟩) hK h2.1.1 m1 he1 rfl px_T (fun _ _ _ => trivial) rfl hl.1 rfl (lv_room (Nat.le_of_ble_eq_true rfl)) dL_law_328 ⟨show cells + 0 ≤ 600000 by omega, show slots + 0 ≤ 7302250 by omega⟩ (fun r1 hr1 => ?_)
  refine lv_aload_n hx hb dL_law_331 rfl (lv_at hl 2 rfl) ?_
  refine lv_aload_n hx hb dL_law_332 rfl (lv_at hl 0 rfl) ?_
  refine lv_iload_n hx hb dL_law_333 rfl (lv_at hl 3 rfl) ?_
  refine lv_iconst (v := 1) hx hb dL_law_334 (by decide) ?_
  refine lv_iadd hx hb dL_law_335 ?_
  rw [show (nI k) + 1 = nI (k + 1) from nI_add k 1]
  refine pl_sld (k := k + 1) hx hb hX hbl hbA hS (by omega) (by omega) dL_law_336 ?_
  refine pr_callVi (As := [.int (xs (k + 1))]) (rest := [.int r1]) ⟨hx, hb, hml, hown, hts⟩ (k_R_state l G cs L2 f2 a2 t lm nN nM rs lk Ar Br (xs (k + 1)) hrs) (cwV 1 hts (wg_V mw_431 mw_432 mw_433 mw_3 mw_434) rfl rfl rfl (by decide +kernel) ⟨Nat.le_of_ble_eq_true rfl, Nat.le_of_ble_eq_true rfl⟩) hK h2.2.1.1 m2 he2 rfl px_T (fun _ _ _ => trivial) rfl hl.1 rfl (lv_room (Nat.le_of_ble_eq_true rfl)) dL_law_337 ⟨show cells + 0 ≤ 600000 by omega, show slots + 0 ≤ 7302250 by omega⟩ (fun r2 hr2 => ?_)
  refine lv_icmp_eq (tgt := 875) hx hb dL_law_340 (by decide) (fun c_1 => ?_) (fun c_1 => absurd (by rw [hr1, hr2]; exact eq_state hR (xs (k + 1))) c_1)
  refine W.widen (k := cells + 4) (n := slots + 25) (by omega) (by omega) ?_
  exact K _ _ hI hS

set_option maxHeartbeats 4000000 in
set_option maxRecDepth 100000 in
theorem law_c5 {p : Program} {l : Launch} {e : Env} {s : State} {m : MethodId} {below : List Frame} {meth : Method} {c : Code} {b L : Nat} {xs : Nat → Int32} (hL : L ≤ 2560) (C0 : lw_At p s m meth c b L xs) {cs : Nat → ClassId} {G : va_G} (hK : va_K G vwCl (tyl cs) s) {tL tC : Nat} (hSX : SX tL tC (fun q : Nat => s.heap.size ≤ q) s s.heap) {q1 q2 k : Nat} (hk : k + 5 ≤ L) {H : Heap} {locs : List Loc} {cells slots : Nat} (hc : cells + 4 ≤ 600000 ∧ slots + 25 ≤ 7302250) {ls : Array Slot} (hI : LI cs G (fun q : Nat => s.heap.size ≤ q) q1 q2 H) (hS : va_S (fun q : Nat => s.heap.size ≤ q) s.heap H locs) (hl : lv_has ls 4 [(0, .ref b), (1, .ref q1), (2, .ref q2), (3, .int (nI k))]) (K : ∀ (H : Heap) (locs : List Loc), LI cs G (fun q : Nat => s.heap.size ≤ q) q1 q2 H → va_S (fun q : Nat => s.heap.size ≤ q) s.heap H locs → W p l e room_1 s m #[Value.ref b] below meth c H locs (cells + 4) (slots + 25) (lw_Z below #[Value.ref b] s) (F0 m 875 ls [])) : W p l e room_1 s m #[Value.ref b] below meth c H locs cells slots (lw_Z below #[Value.ref b] s) (F0 m 345 ls []) := by
  obtain ⟨hx, hb, hr, hml, hown, hts, hX, hbl, hlocks, hgv⟩ := C0
  have hts : ∀ w ∈ wg, w.before #[Value.ref b] s = true := fun w h => hts w (List.mem_filter.mp h).1
  have hown : s.vm.findClass RL = some m.cls := hown
  have hA : ∀ q : Nat, s.heap.size ≤ q → (fun q : Nat => s.heap.size ≤ q) q := fun _ h => h
  have hbA : ¬ (fun q : Nat => s.heap.size ≤ q) b := Nat.not_le.mpr hbl
  obtain ⟨L1, f1, L2, f2, a1, a2, t, lm, nN, nM, ns, ms, rt, Ar, Br, pg, rs, lk, h2, ⟨e1, e2⟩, hps, hrs, hR⟩ := hI.unf
  subst e1
  subst e2
  have m1 := hps.mem (pu_lo (r := 0) (by decide))
  have he1 := hps.e0
  have m2 := hrs.mem 0 (by decide)
  have he2 := hrs.e0
  refine lv_aload_n hx hb dL_law_345 rfl (lv_at hl 1 rfl) ?_
  refine lv_aload_n hx hb dL_law_346 rfl (lv_at hl 0 rfl) ?_
  refine lv_iload_n hx hb dL_law_347 rfl (lv_at hl 3 rfl) ?_
  refine lv_iconst (v := 1) hx hb dL_law_348 (by decide) ?_
  refine lv_iadd hx hb dL_law_349 ?_
  rw [show (nI k) + 1 = nI (k + 1) from nI_add k 1]
  refine pl_sld (k := k + 1) hx hb hX hbl hbA hS (by omega) (by omega) dL_law_350 ?_
  refine lv_aload_n hx hb dL_law_351 rfl (lv_at hl 0 rfl) ?_
  refine lv_iload_n hx hb dL_law_352 rfl (lv_at hl 3 rfl) ?_
  refine lv_iconst (v := 2) hx hb dL_law_353 (by decide) ?_
  refine lv_iadd hx hb dL_law_354 ?_
  rw [show (nI k) + 2 = nI (k + 2) from nI_add k 2]
  refine pl_sld (k := k + 2) hx hb hX hbl hbA hS (by omega) (by omega) dL_law_355 ?_
  refine lv_i2l hx hb dL_law_356 rfl ?_
  refine lv_bipush (v := 32) hx hb dL_law_357 (by decide) ?_
  refine lv_lshl hx hb dL_law_359 rfl ?_
  refine lv_aload_n hx hb dL_law_360 rfl (lv_at hl 0 rfl) ?_
  refine lv_iload_n hx hb dL_law_361 rfl (lv_at hl 3 rfl) ?_
  refine lv_iconst (v := 3) hx hb dL_law_362 (by decide) ?_
  refine lv_iadd hx hb dL_law_363 ?_
  rw [show (nI k) + 3 = nI (k + 3) from nI_add k 3]
  refine pl_sld (k := k + 3) hx hb hX hbl hbA hS (by omega) (by omega) dL_law_364 ?_
  refine lv_i2l hx hb dL_law_365 rfl ?_
  refine lv_ldc2 hx hb hown (hts _ mw_524) dL_law_366 ?_
  refine lv_land hx hb dL_law_369 ?_
  refine lv_lor hx hb dL_law_370 ?_
  refine lv_aload_n hx hb dL_law_371 rfl (lv_at hl 0 rfl) ?_
  refine lv_iload_n hx hb dL_law_372 rfl (lv_at hl 3 rfl) ?_
  refine lv_iconst (v := 4) hx hb dL_law_373 (by decide) ?_
  refine lv_iadd hx hb dL_law_374 ?_
  rw [show (nI k) + 4 = nI (k + 4) from nI_add k 4]
  refine pl_sld (k := k + 4) hx hb hX hbl hbA hS (by omega) (by omega) dL_law_375 ?_
  refine pl_callVi (As := [.int (xs (k + 1)), .long ((((xs (k + 2)).toInt64) <<< ((32 : Int32).toInt64 &&& 63)) ||| (((xs (k + 3)).toInt64) &&& 4294967295)), .int (xs (k + 4))]) (rest := []) ⟨hx, hb, hml, hown, hts⟩ (k_C_move l G cs L1 f1 _ a1 t lm nN nM ns ms rt pg (xs (k + 1)) ((((xs (k + 2)).toInt64) <<< ((32 : Int32).toInt64 &&& 63)) ||| (((xs (k + 3)).toInt64) &&& 4294967295)) (xs (k + 4)) hps) (cwV 3 hts (wg_V mw_135 mw_136 mw_137 mw_1 mw_138) rfl rfl rfl (by decide +kernel) ⟨Nat.le_of_ble_eq_true rfl, Nat.le_of_ble_eq_true rfl⟩) hK h2 hS hA m1 he1 rfl px_T (fun _ _ _ => trivial) rfl hl.1 rfl (lv_room (Nat.le_of_ble_eq_true rfl)) dL_law_376 ⟨show cells + 2 ≤ 600000 by omega, show slots + 14 ≤ 7302250 by omega⟩ (fun r1 L1' f1' H locs hq h2 hS => ?_)
  obtain ⟨a1', pg', ea, hr1, hps'⟩ := hq
  refine lv_aload_n hx hb dL_law_379 rfl (lv_at hl 2 rfl) ?_
  refine lv_aload_n hx hb dL_law_380 rfl (lv_at hl 0 rfl) ?_
  refine lv_iload_n hx hb dL_law_381 rfl (lv_at hl 3 rfl) ?_
  refine lv_iconst (v := 1) hx hb dL_law_382 (by decide) ?_
  refine lv_iadd hx hb dL_law_383 ?_
  rw [show (nI k) + 1 = nI (k + 1) from nI_add k 1]
  refine pl_sld (k := k + 1) hx hb hX hbl hbA hS (by omega) (by omega) dL_law_384 ?_
  refine lv_aload_n hx hb dL_law_385 rfl (lv_at hl 0 rfl) ?_
  refine lv_iload_n hx hb dL_law_386 rfl (lv_at hl 3 rfl) ?_
  refine lv_iconst (v := 2) hx hb dL_law_387 (by decide) ?_
  refine lv_iadd hx hb dL_law_388 ?_
  rw [show (nI k) + 2 = nI (k + 2) from nI_add k 2]
  refine pl_sld (k := k + 2) hx hb hX hbl hbA hS (by omega) (by omega) dL_law_389 ?_
  refine lv_i2l hx hb dL_law_390 rfl ?_
  refine lv_bipush (v := 32) hx hb dL_law_391 (by decide) ?_
  refine lv_lshl hx hb dL_law_393 rfl ?_
  refine lv_aload_n hx hb dL_law_394 rfl (lv_at hl 0 rfl) ?_
  refine lv_iload_n hx hb dL_law_395 rfl (lv_at hl 3 rfl) ?_
  refine lv_iconst (v := 3) hx hb dL_law_396 (by decide) ?_
  refine lv_iadd hx hb dL_law_397 ?_
  rw [show (nI k) + 3 = nI (k + 3) from nI_add k 3]
  refine pl_sld (k := k + 3) hx hb hX hbl hbA hS (by omega) (by omega) dL_law_398 ?_
  refine lv_i2l hx hb dL_law_399 rfl ?_
  refine lv_ldc2 hx hb hown (hts _ mw_524) dL_law_400 ?_
  refine lv_land hx hb dL_law_403 ?_
  refine lv_lor hx hb dL_law_404 ?_
  refine lv_aload_n hx hb dL_law_405 rfl (lv_at hl 0 rfl) ?_
  refine lv_iload_n hx hb dL_law_406 rfl (lv_at hl 3 rfl) ?_
  refine lv_iconst (v := 4) hx hb dL_law_407 (by decide) ?_
  refine lv_iadd hx hb dL_law_408 ?_
  rw [show (nI k) + 4 = nI (k + 4) from nI_add k 4]
  refine pl_sld (k := k + 4) hx hb hX hbl hbA hS (by omega) (by omega) dL_law_409 ?_
  refine pl_callVi (As := [.int (xs (k + 1)), .long ((((xs (k + 2)).toInt64) <<< ((32 : Int32).toInt64 &&& 63)) ||| (((xs (k + 3)).toInt64) &&& 4294967295)), .int (xs (k + 4))]) (rest := [.int r1]) ⟨hx, hb, hml, hown, hts⟩ (k_R_move l G cs L2 f2 _ a2 t lm nN nM rs lk Ar Br (xs (k + 1)) ((((xs (k + 2)).toInt64) <<< ((32 : Int32).toInt64 &&& 63)) ||| (((xs (k + 3)).toInt64) &&& 4294967295)) (xs (k + 4)) hrs) (cwV 3 hts (wg_V mw_435 mw_436 mw_437 mw_3 mw_438) rfl rfl rfl (by decide +kernel) ⟨Nat.le_of_ble_eq_true rfl, Nat.le_of_ble_eq_true rfl⟩) hK h2.swap hS hA m2 he2 rfl px_T (fun _ _ _ => trivial) rfl hl.1 rfl (lv_room (Nat.le_of_ble_eq_true rfl)) dL_law_410 ⟨show cells + 2 + 0 ≤ 600000 by omega, show slots + 14 + 0 ≤ 7302250 by omega⟩ (fun r2 L2' f2' H locs hq h2 hS => ?_)
  obtain ⟨eL, hr2, rs', lk', hrs'⟩ := hq
  refine lv_icmp_eq (tgt := 875) hx hb dL_law_413 (by decide) (fun c_1 => ?_) (fun c_1 => absurd (by rw [hr1, hr2]; exact (ag_move (RX.mk lm hR) (xs (k + 1)) ((((xs (k + 2)).toInt64) <<< ((32 : Int32).toInt64 &&& 63)) ||| (((xs (k + 3)).toInt64) &&& 4294967295)) (xs (k + 4))).1) c_1)
  refine W.widen (k := cells + 4) (n := slots + 25) (by omega) (by omega) ?_
  exact K _ _ ⟨L1', f1', L2', f2', a1', a2, _, _, pg', rs', lk', h2.swap, ⟨ea, rfl⟩, hps', hrs', (ag_move (RX.mk lm hR) (xs (k + 1)) ((((xs (k + 2)).toInt64) <<< ((32 : Int32).toInt64 &&& 63)) ||| (((xs (k + 3)).toInt64) &&& 4294967295)) (xs (k + 4))).2⟩ hS

set_option maxHeartbeats 4000000 in
set_option maxRecDepth 100000 in
theorem law_c6 {p : Program} {l : Launch} {e : Env} {s : State} {m : MethodId} {below : List Frame} {meth : Method} {c : Code} {b L : Nat} {xs : Nat → Int32} (hL : L ≤ 2560) (C0 : lw_At p s m meth c b L xs) {cs : Nat → ClassId} {G : va_G} (hK : va_K G vwCl (tyl cs) s) {tL tC : Nat} (hSX : SX tL tC (fun q : Nat => s.heap.size ≤ q) s s.heap) {q1 q2 k : Nat} (hk : k + 5 ≤ L) {H : Heap} {locs : List Loc} {cells slots : Nat} (hc : cells + 4 ≤ 600000 ∧ slots + 25 ≤ 7302250) {ls : Array Slot} (hI : LI cs G (fun q : Nat => s.heap.size ≤ q) q1 q2 H) (hS : va_S (fun q : Nat => s.heap.size ≤ q) s.heap H locs) (hl : lv_has ls 4 [(0, .ref b), (1, .ref q1), (2, .ref q2), (3, .int (nI k))]) (K : ∀ (H : Heap) (locs : List Loc), LI cs G (fun q : Nat => s.heap.size ≤ q) q1 q2 H → va_S (fun q : Nat => s.heap.size ≤ q) s.heap H locs → W p l e room_1 s m #[Value.ref b] below meth c H locs (cells + 4) (slots + 25) (lw_Z below #[Value.ref b] s) (F0 m 875 ls [])) : W p l e room_1 s m #[Value.ref b] below meth c H locs cells slots (lw_Z below #[Value.ref b] s) (F0 m 418 ls []) := by
  obtain ⟨hx, hb, hr, hml, hown, hts, hX, hbl, hlocks, hgv⟩ := C0
  have hts : ∀ w ∈ wg, w.before #[Value.ref b] s = true := fun w h => hts w (List.mem_filter.mp h).1
  have hown : s.vm.findClass RL = some m.cls := hown
  have hA : ∀ q : Nat, s.heap.size ≤ q → (fun q : Nat => s.heap.size ≤ q) q := fun _ h => h
  have hbA : ¬ (fun q : Nat => s.heap.size ≤ q) b := Nat.not_le.mpr hbl
  obtain ⟨L1, f1, L2, f2, a1, a2, t, lm, nN, nM, ns, ms, rt, Ar, Br, pg, rs, lk, h2, ⟨e1, e2⟩, hps, hrs, hR⟩ := hI.unf
  subst e1
  subst e2
  have m1 := hps.mem (pu_lo (r := 0) (by decide))
  have he1 := hps.e0
  have m2 := hrs.mem 0 (by decide)
  have he2 := hrs.e0
  refine lv_aload_n hx hb dL_law_418 rfl (lv_at hl 1 rfl) ?_
  refine lv_aload_n hx hb dL_law_419 rfl (lv_at hl 0 rfl) ?_
  refine lv_iload_n hx hb dL_law_420 rfl (lv_at hl 3 rfl) ?_
  refine lv_iconst (v := 1) hx hb dL_law_421 (by decide) ?_
  refine lv_iadd hx hb dL_law_422 ?_
  rw [show (nI k) + 1 = nI (k + 1) from nI_add k 1]
  refine pl_sld (k := k + 1) hx hb hX hbl hbA hS (by omega) (by omega) dL_law_423 ?_
  refine pr_callVi (As := [.int (xs (k + 1))]) (rest := []) ⟨hx, hb, hml, hown, hts⟩ (k_C_mst l G cs L1 f1 a1 t lm nN nM ns ms rt pg (xs (k + 1)) hps) (cwV 1 hts (wg_V mw_190 mw_191 mw_192 mw_1 mw_193) rfl rfl rfl (by decide +kernel) ⟨Nat.le_of_ble_eq_true rfl, Nat.le_of_ble_eq_true rfl⟩) hK h2.1.1 m1 he1 rfl px_T (fun _ _ _ => trivial) rfl hl.1 rfl (lv_room (Nat.le_of_ble_eq_true rfl)) dL_law_424 ⟨show cells + 0 ≤ 600000 by omega, show slots + 0 ≤ 7302250 by omega⟩ (fun r1 hr1 => ?_)
  refine lv_aload_n hx hb dL_law_427 rfl (lv_at hl 2 rfl) ?_
  refine lv_aload_n hx hb dL_law_428 rfl (lv_at hl 0 rfl) ?_
  refine lv_iload_n hx hb dL_law_429 rfl (lv_at hl 3 rfl) ?_
  refine lv_iconst (v := 1) hx hb dL_law_430 (by decide) ?_
  refine lv_iadd hx hb dL_law_431 ?_
  rw [show (nI k) + 1 = nI (k + 1) from nI_add k 1]
  refine pl_sld (k := k + 1) hx hb hX hbl hbA hS (by omega) (by omega) dL_law_432 ?_
  refine pr_callVi (As := [.int (xs (k + 1))]) (rest := [.int r1]) ⟨hx, hb, hml, hown, hts⟩ (k_R_mst l G cs L2 f2 a2 t lm nN nM rs lk Ar Br (xs (k + 1)) hrs) (cwV 1 hts (wg_V mw_445 mw_446 mw_447 mw_3 mw_448) rfl rfl rfl (by decide +kernel) ⟨Nat.le_of_ble_eq_true rfl, Nat.le_of_ble_eq_true rfl⟩) hK h2.2.1.1 m2 he2 rfl px_T (fun _ _ _ => trivial) rfl hl.1 rfl (lv_room (Nat.le_of_ble_eq_true rfl)) dL_law_433 ⟨show cells + 0 ≤ 600000 by omega, show slots + 0 ≤ 7302250 by omega⟩ (fun r2 hr2 => ?_)
  refine lv_icmp_eq (tgt := 875) hx hb dL_law_436 (by decide) (fun c_1 => ?_) (fun c_1 => absurd (by rw [hr1, hr2]; exact eq_mst hR (xs (k + 1))) c_1)
  refine W.widen (k := cells + 4) (n := slots + 25) (by omega) (by omega) ?_
  exact K _ _ hI hS

set_option maxHeartbeats 4000000 in
set_option maxRecDepth 100000 in
theorem law_c7 {p : Program} {l : Launch} {e : Env} {s : State} {m : MethodId} {below : List Frame} {meth : Method} {c : Code} {b L : Nat} {xs : Nat → Int32} (hL : L ≤ 2560) (C0 : lw_At p s m meth c b L xs) {cs : Nat → ClassId} {G : va_G} (hK : va_K G vwCl (tyl cs) s) {tL tC : Nat} (hSX : SX tL tC (fun q : Nat => s.heap.size ≤ q) s s.heap) {q1 q2 k : Nat} (hk : k + 5 ≤ L) {H : Heap} {locs : List Loc} {cells slots : Nat} (hc : cells + 4 ≤ 600000 ∧ slots + 25 ≤ 7302250) {ls : Array Slot} (hI : LI cs G (fun q : Nat => s.heap.size ≤ q) q1 q2 H) (hS : va_S (fun q : Nat => s.heap.size ≤ q) s.heap H locs) (hl : lv_has ls 4 [(0, .ref b), (1, .ref q1), (2, .ref q2), (3, .int (nI k))]) (K : ∀ (H : Heap) (locs : List Loc), LI cs G (fun q : Nat => s.heap.size ≤ q) q1 q2 H → va_S (fun q : Nat => s.heap.size ≤ q) s.heap H locs → W p l e room_1 s m #[Value.ref b] below meth c H locs (cells + 4) (slots + 25) (lw_Z below #[Value.ref b] s) (F0 m 875 ls [])) : W p l e room_1 s m #[Value.ref b] below meth c H locs cells slots (lw_Z below #[Value.ref b] s) (F0 m 441 ls []) := by
  obtain ⟨hx, hb, hr, hml, hown, hts, hX, hbl, hlocks, hgv⟩ := C0
  have hts : ∀ w ∈ wg, w.before #[Value.ref b] s = true := fun w h => hts w (List.mem_filter.mp h).1
  have hown : s.vm.findClass RL = some m.cls := hown
  have hA : ∀ q : Nat, s.heap.size ≤ q → (fun q : Nat => s.heap.size ≤ q) q := fun _ h => h
  have hbA : ¬ (fun q : Nat => s.heap.size ≤ q) b := Nat.not_le.mpr hbl
  obtain ⟨L1, f1, L2, f2, a1, a2, t, lm, nN, nM, ns, ms, rt, Ar, Br, pg, rs, lk, h2, ⟨e1, e2⟩, hps, hrs, hR⟩ := hI.unf
  subst e1
  subst e2
  have m1 := hps.mem (pu_lo (r := 0) (by decide))
  have he1 := hps.e0
  have m2 := hrs.mem 0 (by decide)
  have he2 := hrs.e0
  refine lv_aload_n hx hb dL_law_441 rfl (lv_at hl 1 rfl) ?_
  refine lv_aload_n hx hb dL_law_442 rfl (lv_at hl 0 rfl) ?_
  refine lv_iload_n hx hb dL_law_443 rfl (lv_at hl 3 rfl) ?_
  refine lv_iconst (v := 1) hx hb dL_law_444 (by decide) ?_
  refine lv_iadd hx hb dL_law_445 ?_
  rw [show (nI k) + 1 = nI (k + 1) from nI_add k 1]
  refine pl_sld (k := k + 1) hx hb hX hbl hbA hS (by omega) (by omega) dL_law_446 ?_
  refine lv_aload_n hx hb dL_law_447 rfl (lv_at hl 0 rfl) ?_
  refine lv_iload_n hx hb dL_law_448 rfl (lv_at hl 3 rfl) ?_
  refine lv_iconst (v := 2) hx hb dL_law_449 (by decide) ?_
  refine lv_iadd hx hb dL_law_450 ?_
  rw [show (nI k) + 2 = nI (k + 2) from nI_add k 2]
  refine pl_sld (k := k + 2) hx hb hX hbl hbA hS (by omega) (by omega) dL_law_451 ?_
  refine lv_aload_n hx hb dL_law_452 rfl (lv_at hl 0 rfl) ?_
  refine lv_iload_n hx hb dL_law_453 rfl (lv_at hl 3 rfl) ?_
  refine lv_iconst (v := 3) hx hb dL_law_454 (by decide) ?_
  refine lv_iadd hx hb dL_law_455 ?_
  rw [show (nI k) + 3 = nI (k + 3) from nI_add k 3]
  refine pl_sld (k := k + 3) hx hb hX hbl hbA hS (by omega) (by omega) dL_law_456 ?_
  refine pj_join (fun z => z = (if xs (k + 3) = 0 then 0 else 1 : Int32)) 465 ls [.int (xs (k + 2)), .int (xs (k + 1)), .ref (a1 0)] (fun J => ?_) (fun z hz => ?_)
  · refine lv_if_eq (tgt := 464) hx hb dL_law_457 (by decide) (fun c_457 => ?_) (fun c_457 => ?_)
    · refine lv_iconst (v := 0) hx hb dL_law_464 (by decide) ?_
      exact J _ (by simp [c_457])
    · refine lv_iconst (v := 1) hx hb dL_law_460 (by decide) ?_
      refine lv_goto (tgt := 465) hx hb dL_law_461 (by decide) ?_
      exact J _ (by simp [c_457])
  · subst hz
    refine pl_callVi (As := [.int (xs (k + 1)), .int (xs (k + 2)), .int (if xs (k + 3) = 0 then 0 else 1)]) (rest := []) ⟨hx, hb, hml, hown, hts⟩ (k_C_right l G cs L1 f1 _ a1 t lm nN nM ns ms rt pg (xs (k + 1)) (xs (k + 2)) (if xs (k + 3) = 0 then 0 else 1) hps) (cwV 3 hts (wg_V mw_194 mw_195 mw_196 mw_1 mw_197) rfl rfl rfl (by decide +kernel) ⟨Nat.le_of_ble_eq_true rfl, Nat.le_of_ble_eq_true rfl⟩) hK h2 hS hA m1 he1 rfl px_T (fun _ _ _ => trivial) rfl hl.1 rfl (lv_room (Nat.le_of_ble_eq_true rfl)) dL_law_465 ⟨show cells + 0 ≤ 600000 by omega, show slots + 0 ≤ 7302250 by omega⟩ (fun r1 L1' f1' H locs hq h2 hS => ?_)
    obtain ⟨a1', pg', ea, hr1, hps'⟩ := hq
    refine lv_aload_n hx hb dL_law_468 rfl (lv_at hl 2 rfl) ?_
    refine lv_aload_n hx hb dL_law_469 rfl (lv_at hl 0 rfl) ?_
    refine lv_iload_n hx hb dL_law_470 rfl (lv_at hl 3 rfl) ?_
    refine lv_iconst (v := 1) hx hb dL_law_471 (by decide) ?_
    refine lv_iadd hx hb dL_law_472 ?_
    rw [show (nI k) + 1 = nI (k + 1) from nI_add k 1]
    refine pl_sld (k := k + 1) hx hb hX hbl hbA hS (by omega) (by omega) dL_law_473 ?_
    refine lv_aload_n hx hb dL_law_474 rfl (lv_at hl 0 rfl) ?_
    refine lv_iload_n hx hb dL_law_475 rfl (lv_at hl 3 rfl) ?_
    refine lv_iconst (v := 2) hx hb dL_law_476 (by decide) ?_
    refine lv_iadd hx hb dL_law_477 ?_
    rw [show (nI k) + 2 = nI (k + 2) from nI_add k 2]
    refine pl_sld (k := k + 2) hx hb hX hbl hbA hS (by omega) (by omega) dL_law_478 ?_
    refine lv_aload_n hx hb dL_law_479 rfl (lv_at hl 0 rfl) ?_
    refine lv_iload_n hx hb dL_law_480 rfl (lv_at hl 3 rfl) ?_
    refine lv_iconst (v := 3) hx hb dL_law_481 (by decide) ?_
    refine lv_iadd hx hb dL_law_482 ?_
    rw [show (nI k) + 3 = nI (k + 3) from nI_add k 3]
    refine pl_sld (k := k + 3) hx hb hX hbl hbA hS (by omega) (by omega) dL_law_483 ?_
    refine pj_join (fun z => z = (if xs (k + 3) = 0 then 0 else 1 : Int32)) 492 ls [.int (xs (k + 2)), .int (xs (k + 1)), .ref (a2 0), .int r1] (fun J => ?_) (fun z hz => ?_)
    · refine lv_if_eq (tgt := 491) hx hb dL_law_484 (by decide) (fun c_484 => ?_) (fun c_484 => ?_)
      · refine lv_iconst (v := 0) hx hb dL_law_491 (by decide) ?_
        exact J _ (by simp [c_484])
      · refine lv_iconst (v := 1) hx hb dL_law_487 (by decide) ?_
        refine lv_goto (tgt := 492) hx hb dL_law_488 (by decide) ?_
        exact J _ (by simp [c_484])
    · subst hz
      refine pl_callVi (As := [.int (xs (k + 1)), .int (xs (k + 2)), .int (if xs (k + 3) = 0 then 0 else 1)]) (rest := [.int r1]) ⟨hx, hb, hml, hown, hts⟩ (k_R_right l G cs L2 f2 _ a2 t lm nN nM rs lk Ar Br (xs (k + 1)) (xs (k + 2)) (if xs (k + 3) = 0 then 0 else 1) hrs) (cwV 3 hts (wg_V mw_453 mw_454 mw_455 mw_3 mw_456) rfl rfl rfl (by decide +kernel) ⟨Nat.le_of_ble_eq_true rfl, Nat.le_of_ble_eq_true rfl⟩) hK h2.swap hS hA m2 he2 rfl px_T (fun _ _ _ => trivial) rfl hl.1 rfl (lv_room (Nat.le_of_ble_eq_true rfl)) dL_law_492 ⟨show cells + 0 + 0 ≤ 600000 by omega, show slots + 0 + 0 ≤ 7302250 by omega⟩ (fun r2 L2' f2' H locs hq h2 hS => ?_)
      obtain ⟨eL, hr2, rs', lk', hrs'⟩ := hq
      refine lv_icmp_eq (tgt := 875) hx hb dL_law_495 (by decide) (fun c_1 => ?_) (fun c_1 => absurd (by rw [hr1, hr2]; exact (ag_right (RX.mk lm hR) (xs (k + 1)) (xs (k + 2)) (if xs (k + 3) = 0 then 0 else 1)).1) c_1)
      refine W.widen (k := cells + 4) (n := slots + 25) (by omega) (by omega) ?_
      exact K _ _ ⟨L1', f1', L2', f2', a1', a2, _, _, pg', rs', lk', h2.swap, ⟨ea, rfl⟩, hps', hrs', (ag_right (RX.mk lm hR) (xs (k + 1)) (xs (k + 2)) (if xs (k + 3) = 0 then 0 else 1)).2⟩ hS

set_option maxHeartbeats 4000000 in
set_option maxRecDepth 100000 in
theorem law_c8 {p : Program} {l : Launch} {e : Env} {s : State} {m : MethodId} {below : List Frame} {meth : Method} {c : Code} {b L : Nat} {xs : Nat → Int32} (hL : L ≤ 2560) (C0 : lw_At p s m meth c b L xs) {cs : Nat → ClassId} {G : va_G} (hK : va_K G vwCl (tyl cs) s) {tL tC : Nat} (hSX : SX tL tC (fun q : Nat => s.heap.size ≤ q) s s.heap) {q1 q2 k : Nat} (hk : k + 5 ≤ L) {H : Heap} {locs : List Loc} {cells slots : Nat} (hc : cells + 4 ≤ 600000 ∧ slots + 25 ≤ 7302250) {ls : Array Slot} (hI : LI cs G (fun q : Nat => s.heap.size ≤ q) q1 q2 H) (hS : va_S (fun q : Nat => s.heap.size ≤ q) s.heap H locs) (hl : lv_has ls 4 [(0, .ref b), (1, .ref q1), (2, .ref q2), (3, .int (nI k))]) (K : ∀ (H : Heap) (locs : List Loc), LI cs G (fun q : Nat => s.heap.size ≤ q) q1 q2 H → va_S (fun q : Nat => s.heap.size ≤ q) s.heap H locs → W p l e room_1 s m #[Value.ref b] below meth c H locs (cells + 4) (slots + 25) (lw_Z below #[Value.ref b] s) (F0 m 875 ls [])) : W p l e room_1 s m #[Value.ref b] below meth c H locs cells slots (lw_Z below #[Value.ref b] s) (F0 m 500 ls []) := by
  obtain ⟨hx, hb, hr, hml, hown, hts, hX, hbl, hlocks, hgv⟩ := C0
  have hts : ∀ w ∈ wg, w.before #[Value.ref b] s = true := fun w h => hts w (List.mem_filter.mp h).1
  have hown : s.vm.findClass RL = some m.cls := hown
  have hA : ∀ q : Nat, s.heap.size ≤ q → (fun q : Nat => s.heap.size ≤ q) q := fun _ h => h
  have hbA : ¬ (fun q : Nat => s.heap.size ≤ q) b := Nat.not_le.mpr hbl
  obtain ⟨L1, f1, L2, f2, a1, a2, t, lm, nN, nM, ns, ms, rt, Ar, Br, pg, rs, lk, h2, ⟨e1, e2⟩, hps, hrs, hR⟩ := hI.unf
  subst e1
  subst e2
  have m1 := hps.mem (pu_lo (r := 0) (by decide))
  have he1 := hps.e0
  have m2 := hrs.mem 0 (by decide)
  have he2 := hrs.e0
  refine lv_aload_n hx hb dL_law_500 rfl (lv_at hl 1 rfl) ?_
  refine lv_aload_n hx hb dL_law_501 rfl (lv_at hl 0 rfl) ?_
  refine lv_iload_n hx hb dL_law_502 rfl (lv_at hl 3 rfl) ?_
  refine lv_iconst (v := 1) hx hb dL_law_503 (by decide) ?_
  refine lv_iadd hx hb dL_law_504 ?_
  rw [show (nI k) + 1 = nI (k + 1) from nI_add k 1]
  refine pl_sld (k := k + 1) hx hb hX hbl hbA hS (by omega) (by omega) dL_law_505 ?_
  refine lv_aload_n hx hb dL_law_506 rfl (lv_at hl 0 rfl) ?_
  refine lv_iload_n hx hb dL_law_507 rfl (lv_at hl 3 rfl) ?_
  refine lv_iconst (v := 2) hx hb dL_law_508 (by decide) ?_
  refine lv_iadd hx hb dL_law_509 ?_
  rw [show (nI k) + 2 = nI (k + 2) from nI_add k 2]
  refine pl_sld (k := k + 2) hx hb hX hbl hbA hS (by omega) (by omega) dL_law_510 ?_
  refine pr_callVi (As := [.int (xs (k + 1)), .int (xs (k + 2))]) (rest := []) ⟨hx, hb, hml, hown, hts⟩ (k_C_may l G cs L1 f1 a1 t lm nN nM ns ms rt pg (xs (k + 1)) (xs (k + 2)) hps) (cwV 2 hts (wg_V mw_204 mw_205 mw_206 mw_1 mw_207) rfl rfl rfl (by decide +kernel) ⟨Nat.le_of_ble_eq_true rfl, Nat.le_of_ble_eq_true rfl⟩) hK h2.1.1 m1 he1 rfl px_T (fun _ _ _ => trivial) rfl hl.1 rfl (lv_room (Nat.le_of_ble_eq_true rfl)) dL_law_511 ⟨show cells + 0 ≤ 600000 by omega, show slots + 0 ≤ 7302250 by omega⟩ (fun r1 hr1 => ?_)
  refine lv_aload_n hx hb dL_law_514 rfl (lv_at hl 2 rfl) ?_
  refine lv_aload_n hx hb dL_law_515 rfl (lv_at hl 0 rfl) ?_
  refine lv_iload_n hx hb dL_law_516 rfl (lv_at hl 3 rfl) ?_
  refine lv_iconst (v := 1) hx hb dL_law_517 (by decide) ?_
  refine lv_iadd hx hb dL_law_518 ?_
  rw [show (nI k) + 1 = nI (k + 1) from nI_add k 1]
  refine pl_sld (k := k + 1) hx hb hX hbl hbA hS (by omega) (by omega) dL_law_519 ?_
  refine lv_aload_n hx hb dL_law_520 rfl (lv_at hl 0 rfl) ?_
  refine lv_iload_n hx hb dL_law_521 rfl (lv_at hl 3 rfl) ?_
  refine lv_iconst (v := 2) hx hb dL_law_522 (by decide) ?_
  refine lv_iadd hx hb dL_law_523 ?_
  rw [show (nI k) + 2 = nI (k + 2) from nI_add k 2]
  refine pl_sld (k := k + 2) hx hb hX hbl hbA hS (by omega) (by omega) dL_law_524 ?_
  refine pr_callVi (As := [.int (xs (k + 1)), .int (xs (k + 2))]) (rest := [.int r1]) ⟨hx, hb, hml, hown, hts⟩ (k_R_may l G cs L2 f2 a2 t lm nN nM rs lk Ar Br (xs (k + 1)) (xs (k + 2)) hrs) (cwV 2 hts (wg_V mw_463 mw_464 mw_465 mw_3 mw_466) rfl rfl rfl (by decide +kernel) ⟨Nat.le_of_ble_eq_true rfl, Nat.le_of_ble_eq_true rfl⟩) hK h2.2.1.1 m2 he2 rfl px_T (fun _ _ _ => trivial) rfl hl.1 rfl (lv_room (Nat.le_of_ble_eq_true rfl)) dL_law_525 ⟨show cells + 0 ≤ 600000 by omega, show slots + 0 ≤ 7302250 by omega⟩ (fun r2 hr2 => ?_)
  refine lv_icmp_eq (tgt := 875) hx hb dL_law_528 (by decide) (fun c_1 => ?_) (fun c_1 => absurd (by rw [hr1, hr2]; exact may_eq hR (xs (k + 1)) (xs (k + 2))) c_1)
  refine W.widen (k := cells + 4) (n := slots + 25) (by omega) (by omega) ?_
  exact K _ _ hI hS

set_option maxHeartbeats 4000000 in
set_option maxRecDepth 100000 in
theorem law_c9 {p : Program} {l : Launch} {e : Env} {s : State} {m : MethodId} {below : List Frame} {meth : Method} {c : Code} {b L : Nat} {xs : Nat → Int32} (hL : L ≤ 2560) (C0 : lw_At p s m meth c b L xs) {cs : Nat → ClassId} {G : va_G} (hK : va_K G vwCl (tyl cs) s) {tL tC : Nat} (hSX : SX tL tC (fun q : Nat => s.heap.size ≤ q) s s.heap) {q1 q2 k : Nat} (hk : k + 5 ≤ L) {H : Heap} {locs : List Loc} {cells slots : Nat} (hc : cells + 4 ≤ 600000 ∧ slots + 25 ≤ 7302250) {ls : Array Slot} (hI : LI cs G (fun q : Nat => s.heap.size ≤ q) q1 q2 H) (hS : va_S (fun q : Nat => s.heap.size ≤ q) s.heap H locs) (hl : lv_has ls 4 [(0, .ref b), (1, .ref q1), (2, .ref q2), (3, .int (nI k))]) (K : ∀ (H : Heap) (locs : List Loc), LI cs G (fun q : Nat => s.heap.size ≤ q) q1 q2 H → va_S (fun q : Nat => s.heap.size ≤ q) s.heap H locs → W p l e room_1 s m #[Value.ref b] below meth c H locs (cells + 4) (slots + 25) (lw_Z below #[Value.ref b] s) (F0 m 875 ls [])) : W p l e room_1 s m #[Value.ref b] below meth c H locs cells slots (lw_Z below #[Value.ref b] s) (F0 m 533 ls []) := by
  obtain ⟨hx, hb, hr, hml, hown, hts, hX, hbl, hlocks, hgv⟩ := C0
  have hts : ∀ w ∈ wg, w.before #[Value.ref b] s = true := fun w h => hts w (List.mem_filter.mp h).1
  have hown : s.vm.findClass RL = some m.cls := hown
  have hA : ∀ q : Nat, s.heap.size ≤ q → (fun q : Nat => s.heap.size ≤ q) q := fun _ h => h
  have hbA : ¬ (fun q : Nat => s.heap.size ≤ q) b := Nat.not_le.mpr hbl
  obtain ⟨L1, f1, L2, f2, a1, a2, t, lm, nN, nM, ns, ms, rt, Ar, Br, pg, rs, lk, h2, ⟨e1, e2⟩, hps, hrs, hR⟩ := hI.unf
  subst e1
  subst e2
  have m1 := hps.mem (pu_lo (r := 0) (by decide))
  have he1 := hps.e0
  have m2 := hrs.mem 0 (by decide)
  have he2 := hrs.e0
  refine lv_aload_n hx hb dL_law_533 rfl (lv_at hl 1 rfl) ?_
  refine lv_aload_n hx hb dL_law_534 rfl (lv_at hl 0 rfl) ?_
  refine lv_iload_n hx hb dL_law_535 rfl (lv_at hl 3 rfl) ?_
  refine lv_iconst (v := 1) hx hb dL_law_536 (by decide) ?_
  refine lv_iadd hx hb dL_law_537 ?_
  rw [show (nI k) + 1 = nI (k + 1) from nI_add k 1]
  refine pl_sld (k := k + 1) hx hb hX hbl hbA hS (by omega) (by omega) dL_law_538 ?_
  refine lv_aload_n hx hb dL_law_539 rfl (lv_at hl 0 rfl) ?_
  refine lv_iload_n hx hb dL_law_540 rfl (lv_at hl 3 rfl) ?_
  refine lv_iconst (v := 2) hx hb dL_law_541 (by decide) ?_
  refine lv_iadd hx hb dL_law_542 ?_
  rw [show (nI k) + 2 = nI (k + 2) from nI_add k 2]
  refine pl_sld (k := k + 2) hx hb hX hbl hbA hS (by omega) (by omega) dL_law_543 ?_
  refine lv_aload_n hx hb dL_law_544 rfl (lv_at hl 0 rfl) ?_
  refine lv_iload_n hx hb dL_law_545 rfl (lv_at hl 3 rfl) ?_
  refine lv_iconst (v := 3) hx hb dL_law_546 (by decide) ?_
  refine lv_iadd hx hb dL_law_547 ?_
  rw [show (nI k) + 3 = nI (k + 3) from nI_add k 3]
  refine pl_sld (k := k + 3) hx hb hX hbl hbA hS (by omega) (by omega) dL_law_548 ?_
  refine pl_callVi (As := [.int (xs (k + 1)), .int (xs (k + 2)), .int (xs (k + 3))]) (rest := []) ⟨hx, hb, hml, hown, hts⟩ (k_C_event l G cs L1 f1 _ a1 t lm nN nM ns ms rt pg (xs (k + 1)) (xs (k + 2)) (xs (k + 3)) tL tC hps) (cwV 3 hts (wg_V mw_212 mw_213 mw_214 mw_1 mw_215) rfl rfl rfl (by decide +kernel) ⟨Nat.le_of_ble_eq_true rfl, Nat.le_of_ble_eq_true rfl⟩) hK h2 hS hA m1 he1 rfl SX.px (SX.use hSX hS (pw_free h2.1.2 hS hA)) rfl hl.1 rfl (lv_room (Nat.le_of_ble_eq_true rfl)) dL_law_549 ⟨show cells + 0 ≤ 600000 by omega, show slots + 0 ≤ 7302250 by omega⟩ (fun r1 L1' f1' H locs hq h2 hS => ?_)
  obtain ⟨a1', pg', ea, hr1, hps'⟩ := hq
  refine lv_aload_n hx hb dL_law_552 rfl (lv_at hl 2 rfl) ?_
  refine lv_aload_n hx hb dL_law_553 rfl (lv_at hl 0 rfl) ?_
  refine lv_iload_n hx hb dL_law_554 rfl (lv_at hl 3 rfl) ?_
  refine lv_iconst (v := 1) hx hb dL_law_555 (by decide) ?_
  refine lv_iadd hx hb dL_law_556 ?_
  rw [show (nI k) + 1 = nI (k + 1) from nI_add k 1]
  refine pl_sld (k := k + 1) hx hb hX hbl hbA hS (by omega) (by omega) dL_law_557 ?_
  refine lv_aload_n hx hb dL_law_558 rfl (lv_at hl 0 rfl) ?_
  refine lv_iload_n hx hb dL_law_559 rfl (lv_at hl 3 rfl) ?_
  refine lv_iconst (v := 2) hx hb dL_law_560 (by decide) ?_
  refine lv_iadd hx hb dL_law_561 ?_
  rw [show (nI k) + 2 = nI (k + 2) from nI_add k 2]
  refine pl_sld (k := k + 2) hx hb hX hbl hbA hS (by omega) (by omega) dL_law_562 ?_
  refine lv_aload_n hx hb dL_law_563 rfl (lv_at hl 0 rfl) ?_
  refine lv_iload_n hx hb dL_law_564 rfl (lv_at hl 3 rfl) ?_
  refine lv_iconst (v := 3) hx hb dL_law_565 (by decide) ?_
  refine lv_iadd hx hb dL_law_566 ?_
  rw [show (nI k) + 3 = nI (k + 3) from nI_add k 3]
  refine pl_sld (k := k + 3) hx hb hX hbl hbA hS (by omega) (by omega) dL_law_567 ?_
  refine pl_callVi (As := [.int (xs (k + 1)), .int (xs (k + 2)), .int (xs (k + 3))]) (rest := [.int r1]) ⟨hx, hb, hml, hown, hts⟩ (k_R_event l G cs L2 f2 _ a2 t lm nN nM rs lk Ar Br (xs (k + 1)) (xs (k + 2)) (xs (k + 3)) hrs) (cwV 3 hts (wg_V mw_467 mw_468 mw_469 mw_3 mw_470) rfl rfl rfl (by decide +kernel) ⟨Nat.le_of_ble_eq_true rfl, Nat.le_of_ble_eq_true rfl⟩) hK h2.swap hS hA m2 he2 rfl px_T (fun _ _ _ => trivial) rfl hl.1 rfl (lv_room (Nat.le_of_ble_eq_true rfl)) dL_law_568 ⟨show cells + 0 + 0 ≤ 600000 by omega, show slots + 0 + 0 ≤ 7302250 by omega⟩ (fun r2 L2' f2' H locs hq h2 hS => ?_)
  obtain ⟨eL, hr2, rs', lk', hrs'⟩ := hq
  refine lv_icmp_eq (tgt := 875) hx hb dL_law_571 (by decide) (fun c_1 => ?_) (fun c_1 => absurd (by rw [hr1, hr2]; exact (ag_event (RX.mk lm hR) (xs (k + 1)) (xs (k + 2)) (xs (k + 3))).1) c_1)
  refine W.widen (k := cells + 4) (n := slots + 25) (by omega) (by omega) ?_
  exact K _ _ ⟨L1', f1', L2', f2', a1', a2, _, _, pg', rs', lk', h2.swap, ⟨ea, rfl⟩, hps', hrs', (ag_event (RX.mk lm hR) (xs (k + 1)) (xs (k + 2)) (xs (k + 3))).2⟩ hS
