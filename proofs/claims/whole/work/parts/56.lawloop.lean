/-! The law: its loop. Laid by wip/gen/lawgen.py. -/
set_option maxHeartbeats 4000000 in
set_option maxRecDepth 100000 in
theorem law_loop {p : Program} {l : Launch} {e : Env} {s : State} {m : MethodId} {below : List Frame} {meth : Method} {c : Code} {b L : Nat} {xs : Nat → Int32} (hL : L ≤ 2560) (C0 : lw_At p s m meth c b L xs) {cs : Nat → ClassId} {G : va_G} (hK : va_K G vwCl (tyl cs) s) {tL tC : Nat} (hSX : SX tL tC (fun q : Nat => s.heap.size ≤ q) s s.heap) {q1 q2 : Nat} : ∀ (n k : Nat) (cells slots : Nat) (H : Heap) (locs : List Loc) (ls : Array Slot), L ≤ k + 5 * n → k ≤ L → cells + 4 * (n + 1) ≤ 600000 ∧ slots + 25 * (n + 1) ≤ 7302250 → LI cs G (fun q : Nat => s.heap.size ≤ q) q1 q2 H → va_S (fun q : Nat => s.heap.size ≤ q) s.heap H locs → lv_has ls 4 [(0, .ref b), (1, .ref q1), (2, .ref q2), (3, .int (nI k))] → W p l e room_1 s m #[Value.ref b] below meth c H locs cells slots (lw_Z below #[Value.ref b] s) (F0 m 18 ls []) := by
  have C1 := C0
  obtain ⟨hx, hb, hr, hml, hown, hts, hX, hbl, hlocks, hgv⟩ := C0
  have hbA : ¬ (fun q : Nat => s.heap.size ≤ q) b := Nat.not_le.mpr hbl
  have h5 : (nI L - 5 : Int32).toInt = (L : Int) - 5 := pk_sub_toInt (a := L) (b := 5) (by omega) (by decide)
  intro n
  induction n with
  | zero =>
    intro k cells slots H locs ls h1 h2 hc hI hS hl
    refine lv_iload_n hx hb dL_law_18 rfl (lv_at hl 3 rfl) ?_
    refine lv_aload_n hx hb dL_law_19 rfl (lv_at hl 0 rfl) ?_
    refine va_slen hx hb hX hbl hbA hS dL_law_20 ?_
    refine lv_iconst (v := 5) hx hb dL_law_21 (by decide) ?_
    refine lv_isub hx hb dL_law_22 ?_
    refine lv_icmp_gt (tgt := 881) hx hb dL_law_23 (by decide) (fun c_23 => ?_) (fun c_23 => ?_)
    · refine lv_iconst (v := 1) hx hb dL_law_881 (by decide) ?_
      refine va_forget (fun q hq => hS.2.2 q hq) ?_
      refine W.widen (k := 600000) (n := 7302250) (by omega) (by omega) ?_
      exact lw_ret hx hb hr hlocks dL_law_882
    · exfalso
      have c5 : ¬ (nI L - 5 : Int32).toInt < (nI k).toInt := fun z => c_23 (Int32.lt_iff_toInt_lt.mpr z)
      rw [h5, nI_toInt (by omega)] at c5
      omega
  | succ n ih =>
    intro k cells slots H locs ls h1 h2 hc hI hS hl
    refine lv_iload_n hx hb dL_law_18 rfl (lv_at hl 3 rfl) ?_
    refine lv_aload_n hx hb dL_law_19 rfl (lv_at hl 0 rfl) ?_
    refine va_slen hx hb hX hbl hbA hS dL_law_20 ?_
    refine lv_iconst (v := 5) hx hb dL_law_21 (by decide) ?_
    refine lv_isub hx hb dL_law_22 ?_
    refine lv_icmp_gt (tgt := 881) hx hb dL_law_23 (by decide) (fun c_23 => ?_) (fun c_23 => ?_)
    · refine lv_iconst (v := 1) hx hb dL_law_881 (by decide) ?_
      refine va_forget (fun q hq => hS.2.2 q hq) ?_
      refine W.widen (k := 600000) (n := 7302250) (by omega) (by omega) ?_
      exact lw_ret hx hb hr hlocks dL_law_882
    · have c5 : ¬ (nI L - 5 : Int32).toInt < (nI k).toInt := fun z => c_23 (Int32.lt_iff_toInt_lt.mpr z)
      rw [h5, nI_toInt (by omega)] at c5
      have hk5 : k + 5 ≤ L := by omega
      refine lv_aload_n hx hb dL_law_26 rfl (lv_at hl 0 rfl) ?_
      refine lv_iload_n hx hb dL_law_27 rfl (lv_at hl 3 rfl) ?_
      refine pl_sld (k := k) hx hb hX hbl hbA hS (by omega) (by omega) dL_law_28 ?_
      refine lv_bipush (v := 31) hx hb dL_law_29 (by decide) ?_
      refine lv_iand hx hb dL_law_31 ?_
      obtain ⟨j, hj, ej⟩ := pk_andE (xs k) (m := 31) 5 (by decide)
      rw [ej]
      have K : ∀ (H : Heap) (locs : List Loc), LI cs G (fun q : Nat => s.heap.size ≤ q) q1 q2 H → va_S (fun q : Nat => s.heap.size ≤ q) s.heap H locs → W p l e room_1 s m #[Value.ref b] below meth c H locs (cells + 4) (slots + 25) (lw_Z below #[Value.ref b] s) (F0 m 875 ls []) := by
        intro H locs hI hS
        obtain ⟨z, ez⟩ : ∃ z : Int32, z = nI k + 5 := ⟨_, rfl⟩
        refine lv_iinc (v := z) (lv' := [(3, .int z), (0, .ref b), (1, .ref q1), (2, .ref q2)]) hx hb dL_law_875 hl (k := 3) rfl (by rw [ez]; rfl) (by decide) rfl (fun ls hl => ?_)
        refine lv_goto (tgt := 18) hx hb dL_law_878 (by decide) ?_
        obtain rfl : z = nI (k + 5) := by rw [ez]; exact nI_add k 5
        exact ih (k + 5) (cells + 4) (slots + 25) H locs ls (by omega) (by omega) (by omega) hI hS (lv_sub hl [1, 2, 3, 0] rfl)
      have hc2 : cells + 4 ≤ 600000 ∧ slots + 25 ≤ 7302250 := by omega
      by_cases h19 : 19 ≤ j
      · refine lv_tableOut (x := nI j) (tgt := 875) hx hb dL_law_32 (Or.inr (by rw [nI_toInt (by omega)]; omega)) (by decide) ?_
        refine W.widen (k := cells + 4) (n := slots + 25) (by omega) (by omega) ?_
        exact K _ _ hI hS
      · obtain rfl | rfl | rfl | rfl | rfl | rfl | rfl | rfl | rfl | rfl | rfl | rfl | rfl | rfl | rfl | rfl | rfl | rfl | rfl : j = 0 ∨ j = 1 ∨ j = 2 ∨ j = 3 ∨ j = 4 ∨ j = 5 ∨ j = 6 ∨ j = 7 ∨ j = 8 ∨ j = 9 ∨ j = 10 ∨ j = 11 ∨ j = 12 ∨ j = 13 ∨ j = 14 ∨ j = 15 ∨ j = 16 ∨ j = 17 ∨ j = 18 := by omega
        · exact lv_tableIn (x := nI 0) (off := 92) (tgt := 124) hx hb dL_law_32 (by decide) (by decide) rfl (by decide) (law_c0 hL C1 hK hSX hk5 hc2 hI hS hl K)
        · exact lv_tableIn (x := nI 1) (off := 115) (tgt := 147) hx hb dL_law_32 (by decide) (by decide) rfl (by decide) (law_c1 hL C1 hK hSX hk5 hc2 hI hS hl K)
        · exact lv_tableIn (x := nI 2) (off := 188) (tgt := 220) hx hb dL_law_32 (by decide) (by decide) rfl (by decide) (law_c2 hL C1 hK hSX hk5 hc2 hI hS hl K)
        · exact lv_tableIn (x := nI 3) (off := 231) (tgt := 263) hx hb dL_law_32 (by decide) (by decide) rfl (by decide) (law_c3 hL C1 hK hSX hk5 hc2 hI hS hl K)
        · exact lv_tableIn (x := nI 4) (off := 290) (tgt := 322) hx hb dL_law_32 (by decide) (by decide) rfl (by decide) (law_c4 hL C1 hK hSX hk5 hc2 hI hS hl K)
        · exact lv_tableIn (x := nI 5) (off := 313) (tgt := 345) hx hb dL_law_32 (by decide) (by decide) rfl (by decide) (law_c5 hL C1 hK hSX hk5 hc2 hI hS hl K)
        · exact lv_tableIn (x := nI 6) (off := 386) (tgt := 418) hx hb dL_law_32 (by decide) (by decide) rfl (by decide) (law_c6 hL C1 hK hSX hk5 hc2 hI hS hl K)
        · exact lv_tableIn (x := nI 7) (off := 409) (tgt := 441) hx hb dL_law_32 (by decide) (by decide) rfl (by decide) (law_c7 hL C1 hK hSX hk5 hc2 hI hS hl K)
        · exact lv_tableIn (x := nI 8) (off := 468) (tgt := 500) hx hb dL_law_32 (by decide) (by decide) rfl (by decide) (law_c8 hL C1 hK hSX hk5 hc2 hI hS hl K)
        · exact lv_tableIn (x := nI 9) (off := 501) (tgt := 533) hx hb dL_law_32 (by decide) (by decide) rfl (by decide) (law_c9 hL C1 hK hSX hk5 hc2 hI hS hl K)
        · exact lv_tableIn (x := nI 10) (off := 544) (tgt := 576) hx hb dL_law_32 (by decide) (by decide) rfl (by decide) (law_c10 hL C1 hK hSX hk5 hc2 hI hS hl K)
        · exact lv_tableIn (x := nI 11) (off := 587) (tgt := 619) hx hb dL_law_32 (by decide) (by decide) rfl (by decide) (law_c11 hL C1 hK hSX hk5 hc2 hI hS hl K)
        · exact lv_tableIn (x := nI 12) (off := 611) (tgt := 643) hx hb dL_law_32 (by decide) (by decide) rfl (by decide) (law_c12 hL C1 hK hSX hk5 hc2 hI hS hl K)
        · exact lv_tableIn (x := nI 13) (off := 674) (tgt := 706) hx hb dL_law_32 (by decide) (by decide) rfl (by decide) (law_c13 hL C1 hK hSX hk5 hc2 hI hS hl K)
        · exact lv_tableIn (x := nI 14) (off := 698) (tgt := 730) hx hb dL_law_32 (by decide) (by decide) rfl (by decide) (law_c14 hL C1 hK hSX hk5 hc2 hI hS hl K)
        · exact lv_tableIn (x := nI 15) (off := 721) (tgt := 753) hx hb dL_law_32 (by decide) (by decide) rfl (by decide) (law_c15 hL C1 hK hSX hk5 hc2 hI hS hl K)
        · exact lv_tableIn (x := nI 16) (off := 744) (tgt := 776) hx hb dL_law_32 (by decide) (by decide) rfl (by decide) (law_c16 hL C1 hK hSX hk5 hc2 hI hS hl K)
        · exact lv_tableIn (x := nI 17) (off := 777) (tgt := 809) hx hb dL_law_32 (by decide) (by decide) rfl (by decide) (law_c17 hL C1 hK hSX hk5 hc2 hI hS hl K)
        · exact lv_tableIn (x := nI 18) (off := 810) (tgt := 842) hx hb dL_law_32 (by decide) (by decide) rfl (by decide) (law_c18 hL C1 hK hSX hk5 hc2 hI hS hl K)
