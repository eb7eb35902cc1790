/-! The reference: the printed paper. Laid by wip/gen/rprint.py. -/
def bz : Nat → Int64
  | 0 => 0
  | k + 1 => lN (10 ^ k)
theorem ten_lt {k : Nat} (h : k ≤ 9) : 10 ^ k < 2 ^ 63 := Nat.lt_of_le_of_lt (Nat.pow_le_pow_right (by decide) h) (by decide)
theorem ten_ne {k : Nat} (h : k ≤ 9) : ¬ lN (10 ^ k) = 0 := by
  rw [lN_e0 (ten_lt h)]
  exact Nat.ne_of_gt (Nat.pow_pos (by decide))
theorem ten_nle {k : Nat} (h : k ≤ 9) : ¬ lN (10 ^ k) ≤ 0 := by
  rw [show (0 : Int64) = lN 0 from rfl, lN_lle (ten_lt h) (by decide)]
  exact Nat.not_le.mpr (Nat.pow_pos (by decide))
theorem bz_div {k : Nat} (h : k ≤ 9) : lN (10 ^ k) / 10 = bz k := by
  rw [show (10 : Int64) = lN 10 from rfl, lN_div (ten_lt h) (by decide)]
  cases k with
  | zero => rfl
  | succ k => rw [Nat.pow_succ, Nat.mul_div_cancel _ (by decide)]; rfl
theorem ten_s (k : Nat) : lN (10 ^ k) * 10 = lN (10 ^ (k + 1)) := by
  rw [show (10 : Int64) = lN 10 from rfl, lN_mul, Nat.pow_succ]
theorem dig_e {v k : Nat} (hv : v < 10 ^ 10) (h : k ≤ 9) : (48 + (lN v / lN (10 ^ k) - lN v / lN (10 ^ k) / 10 * 10) : Int64).toInt32 = nI (48 + v / 10 ^ k % 10) := by
  have hv2 : v < 2 ^ 63 := Nat.lt_trans hv (by decide)
  rw [show (10 : Int64) = lN 10 from rfl, lN_div hv2 (ten_lt h), lN_rem (Nat.lt_of_le_of_lt (Nat.div_le_self _ _) hv2) (by decide), show (48 : Int64) = lN 48 from rfl, lN_add, lN_i]
theorem i2l_nn {x : Int32} (h : ¬ x < 0) : x.toInt64 = lN x.toNatClampNeg := by
  obtain ⟨j, hj, rfl⟩ := nI_of h
  rw [nI_clamp hj, nI_l hj]
theorem nn_lt {x : Int32} (h : ¬ x < 0) : x.toNatClampNeg < 10 ^ 10 := by
  obtain ⟨j, hj, rfl⟩ := nI_of h
  rw [nI_clamp hj]
  exact Nat.lt_trans hj (by decide)
theorem stt_nn (A : RA) (t : Int32) (i : Nat) : ¬ sR_stt A t i < 0 := by
  unfold sR_stt
  split
  · split
    · split
      · decide
      · split <;> decide
    · decide
  · decide

set_option maxHeartbeats 4000000 in
set_option maxRecDepth 100000 in
theorem k_R_put (l : Launch) (G : va_G) (cs : Nat → ClassId) (L : List Nat) (f : Nat → va_E) (sz : Nat) (ad : Nat → Nat) (t lm : Int32) (nN nM : Nat) (rs lk : Int32) (A : RA) (Bq : RB) (x : Int32) (h0 : RS cs L f ad t lm nN nM rs lk A Bq) : Met l yX4_put (Cond.code yX4_put cX4_put 2 none :: wg) ({ frames := 0, cells := 0, slots := 0, locals := 0 }) (pc_P [.ref (ad 0), .int x] G vwCl (tyl cs) L f sz (fun _ => True)) (va_Qv (fun u => L = u.1 ∧ RS cs u.1 u.2 ad t lm nN nM (sR_put (rs, lk) x).1 (sR_put (rs, lk) x).2 A Bq) (pc_B G vwCl L sz) (pw_A L sz)) 0 0 (pw_A L sz) := by
  refine Met.ofW (cc := cX4_put) (maxL := 2) (ret := none) (by decide) rfl ?_
  intro p e s m args below meth c s₁ B hml hv
  obtain ⟨rfl, hsz, hP, hK, hD0, hX⟩ := hv
  have hx := B.exec
  have hb := B.bytes
  have hr := B.returns
  have hts0 := atoms_spec (ws := (Cond.code yX4_put cX4_put 2 none :: wg)) B.pre
  have hts := fun (w : Cond) (h : w ∈ wg) => hts0 w (List.mem_cons_of_mem _ h)
  have hown : s.vm.findClass RX4 = some m.cls := findClass_of_methodNamed B.named
  have hlocks := B.notSynchronized
  subst hsz
  have hD := pw_selfD (sz := s.heap.size) hD0
  have hA : ∀ q : Nat, s.heap.size ≤ q → pw_A L s.heap.size q := fun q h => Or.inr h
  have hS : va_S (pw_A L s.heap.size) s.heap s.heap [] := va_S.rf
  have hl := lv_entry ([.ref (ad 0), .int x]) (n := 2) (Nat.le_of_ble_eq_true rfl)
  rw [lg_entry_eq]
  generalize (lg_sl ([.ref (ad 0), .int x]) ++ List.replicate (2 - (lg_sl ([.ref (ad 0), .int x])).length) Slot.unset).toArray = ls at hl ⊢
  have hl : lv_has ls 2 [(0, .ref (ad 0)), (1, .int x)] := hl
  have hN6 := h0.nN6
  have hM12 := h0.nM12
  have m0 := h0.mem 0 (by decide)
  have e0 := h0.e0
  refine lv_aload_n hx hb dX4_put_0 rfl (lv_at hl 0 rfl) ?_
  refine lv_aload_n hx hb dX4_put_1 rfl (lv_at hl 0 rfl) ?_
  refine pw_get (ci := 4) (C := RX4) (T := TX4) (N := 23) hx hb hts inX4 hown hK hP m0 e0 rfl 21 (by decide) (hts _ mw_348) (fun _ h9 => h9) rfl dX4_put_2 ?_
  refine lv_if_ne (tgt := 12) hx hb dX4_put_5 (by decide) (fun c_5 => ?_) (fun c_5 => ?_)
  · refine lv_aload_n hx hb dX4_put_12 rfl (lv_at hl 0 rfl) ?_
    refine pw_get (ci := 4) (C := RX4) (T := TX4) (N := 23) hx hb hts inX4 hown hK hP m0 e0 rfl 22 (by decide) (hts _ mw_349) (fun _ h9 => h9) rfl dX4_put_13 ?_
    refine pw_put (ty := .int) (ci := 4) (v := .int lk) (C := RX4) (T := TX4) (N := 23) hx hb hts inX4 tyX4 tyX4_ok nmX4 hown hK hP hD hS m0 e0 rfl 22 (by decide) (hts _ mw_349) (fun _ h9 => h9) rfl (by decide +kernel) rfl rfl (Nat.le_of_ble_eq_true rfl) dX4_put_16 (fun H locs hP hD hS => ?_)
    obtain ⟨f_1, ef_1⟩ : ∃ zz : Nat → va_E, zz = va_up f (ad 0) (.inr (4, [.int t, .int (nI nN), .ref (ad 1), .ref (ad 2), .ref (ad 3), .ref (ad 4), .ref (ad 5), .ref (ad 6), .ref (ad 7), .ref (ad 8), .int (nI nM), .ref (ad 9), .ref (ad 10), .ref (ad 11), .ref (ad 12), .ref (ad 13), .ref (ad 14), .ref (ad 15), .ref (ad 16), .ref (ad 17), .int lm, .int rs, .int lk])) := ⟨_, rfl⟩
    have hP : va_P G vwCl (va_pl L f_1) H := by rw [ef_1]; exact hP
    have hD : va_D (pw_A L s.heap.size) (va_pl L f_1) := by rw [ef_1]; exact hD
    have hf_1_ad_0 : f_1 (ad 0) = .inr (4, [.int t, .int (nI nN), .ref (ad 1), .ref (ad 2), .ref (ad 3), .ref (ad 4), .ref (ad 5), .ref (ad 6), .ref (ad 7), .ref (ad 8), .int (nI nM), .ref (ad 9), .ref (ad 10), .ref (ad 11), .ref (ad 12), .ref (ad 13), .ref (ad 14), .ref (ad 15), .ref (ad 16), .ref (ad 17), .int lm, .int rs, .int lk]) := by rw [ef_1]; exact va_up_self _ _ _
    have qf_1 : RS cs L f_1 ad t lm nN nM rs lk A Bq := by rw [ef_1]; exact h0.main t lm nN nM rs lk (by omega) (by omega)
    refine lv_aload_n hx hb dX4_put_19 rfl (lv_at hl 0 rfl) ?_
    refine lv_dup hx hb dX4_put_20 rfl ?_
    refine pw_get (ci := 4) (C := RX4) (T := TX4) (N := 23) hx hb hts inX4 hown hK hP m0 hf_1_ad_0 rfl 21 (by decide) (hts _ mw_348) (fun _ h9 => h9) rfl dX4_put_21 ?_
    refine lv_iconst (v := 1) hx hb dX4_put_24 (by decide) ?_
    refine lv_isub hx hb dX4_put_25 ?_
    refine pw_put (ty := .int) (ci := 4) (v := .int (rs - 1)) (C := RX4) (T := TX4) (N := 23) hx hb hts inX4 tyX4 tyX4_ok nmX4 hown hK hP hD hS m0 hf_1_ad_0 rfl 21 (by decide) (hts _ mw_348) (fun _ h9 => h9) rfl (by decide +kernel) rfl rfl (Nat.le_of_ble_eq_true rfl) dX4_put_26 (fun H locs hP hD hS => ?_)
    obtain ⟨f_2, ef_2⟩ : ∃ zz : Nat → va_E, zz = va_up f_1 (ad 0) (.inr (4, [.int t, .int (nI nN), .ref (ad 1), .ref (ad 2), .ref (ad 3), .ref (ad 4), .ref (ad 5), .ref (ad 6), .ref (ad 7), .ref (ad 8), .int (nI nM), .ref (ad 9), .ref (ad 10), .ref (ad 11), .ref (ad 12), .ref (ad 13), .ref (ad 14), .ref (ad 15), .ref (ad 16), .ref (ad 17), .int lm, .int (rs - 1), .int lk])) := ⟨_, rfl⟩
    have hP : va_P G vwCl (va_pl L f_2) H := by rw [ef_2]; exact hP
    have hD : va_D (pw_A L s.heap.size) (va_pl L f_2) := by rw [ef_2]; exact hD
    have hf_2_ad_0 : f_2 (ad 0) = .inr (4, [.int t, .int (nI nN), .ref (ad 1), .ref (ad 2), .ref (ad 3), .ref (ad 4), .ref (ad 5), .ref (ad 6), .ref (ad 7), .ref (ad 8), .int (nI nM), .ref (ad 9), .ref (ad 10), .ref (ad 11), .ref (ad 12), .ref (ad 13), .ref (ad 14), .ref (ad 15), .ref (ad 16), .ref (ad 17), .int lm, .int (rs - 1), .int lk]) := by rw [ef_2]; exact va_up_self _ _ _
    have qf_2 : RS cs L f_2 ad t lm nN nM (rs - 1) lk A Bq := by rw [ef_2]; exact qf_1.main t lm nN nM (rs - 1) lk (by omega) (by omega)
    have hsp : sR_put (rs, lk) x = (rs - 1, lk) := by simp [sR_put, c_5]
    exact pc_retv hx hb hr hlocks hP hD hS dX4_put_29 ⟨rfl, by rw [hsp]; exact qf_2⟩
  · refine lv_iload_n hx hb dX4_put_8 rfl (lv_at hl 1 rfl) ?_
    refine lv_goto (tgt := 16) hx hb dX4_put_9 (by decide) ?_
    refine pw_put (ty := .int) (ci := 4) (v := .int x) (C := RX4) (T := TX4) (N := 23) hx hb hts inX4 tyX4 tyX4_ok nmX4 hown hK hP hD hS m0 e0 rfl 22 (by decide) (hts _ mw_349) (fun _ h9 => h9) rfl (by decide +kernel) rfl rfl (Nat.le_of_ble_eq_true rfl) dX4_put_16 (fun H locs hP hD hS => ?_)
    obtain ⟨f_3, ef_3⟩ : ∃ zz : Nat → va_E, zz = va_up f (ad 0) (.inr (4, [.int t, .int (nI nN), .ref (ad 1), .ref (ad 2), .ref (ad 3), .ref (ad 4), .ref (ad 5), .ref (ad 6), .ref (ad 7), .ref (ad 8), .int (nI nM), .ref (ad 9), .ref (ad 10), .ref (ad 11), .ref (ad 12), .ref (ad 13), .ref (ad 14), .ref (ad 15), .ref (ad 16), .ref (ad 17), .int lm, .int rs, .int x])) := ⟨_, rfl⟩
    have hP : va_P G vwCl (va_pl L f_3) H := by rw [ef_3]; exact hP
    have hD : va_D (pw_A L s.heap.size) (va_pl L f_3) := by rw [ef_3]; exact hD
    have hf_3_ad_0 : f_3 (ad 0) = .inr (4, [.int t, .int (nI nN), .ref (ad 1), .ref (ad 2), .ref (ad 3), .ref (ad 4), .ref (ad 5), .ref (ad 6), .ref (ad 7), .ref (ad 8), .int (nI nM), .ref (ad 9), .ref (ad 10), .ref (ad 11), .ref (ad 12), .ref (ad 13), .ref (ad 14), .ref (ad 15), .ref (ad 16), .ref (ad 17), .int lm, .int rs, .int x]) := by rw [ef_3]; exact va_up_self _ _ _
    have qf_3 : RS cs L f_3 ad t lm nN nM rs x A Bq := by rw [ef_3]; exact h0.main t lm nN nM rs x (by omega) (by omega)
    refine lv_aload_n hx hb dX4_put_19 rfl (lv_at hl 0 rfl) ?_
    refine lv_dup hx hb dX4_put_20 rfl ?_
    refine pw_get (ci := 4) (C := RX4) (T := TX4) (N := 23) hx hb hts inX4 hown hK hP m0 hf_3_ad_0 rfl 21 (by decide) (hts _ mw_348) (fun _ h9 => h9) rfl dX4_put_21 ?_
    refine lv_iconst (v := 1) hx hb dX4_put_24 (by decide) ?_
    refine lv_isub hx hb dX4_put_25 ?_
    refine pw_put (ty := .int) (ci := 4) (v := .int (rs - 1)) (C := RX4) (T := TX4) (N := 23) hx hb hts inX4 tyX4 tyX4_ok nmX4 hown hK hP hD hS m0 hf_3_ad_0 rfl 21 (by decide) (hts _ mw_348) (fun _ h9 => h9) rfl (by decide +kernel) rfl rfl (Nat.le_of_ble_eq_true rfl) dX4_put_26 (fun H locs hP hD hS => ?_)
    obtain ⟨f_4, ef_4⟩ : ∃ zz : Nat → va_E, zz = va_up f_3 (ad 0) (.inr (4, [.int t, .int (nI nN), .ref (ad 1), .ref (ad 2), .ref (ad 3), .ref (ad 4), .ref (ad 5), .ref (ad 6), .ref (ad 7), .ref (ad 8), .int (nI nM), .ref (ad 9), .ref (ad 10), .ref (ad 11), .ref (ad 12), .ref (ad 13), .ref (ad 14), .ref (ad 15), .ref (ad 16), .ref (ad 17), .int lm, .int (rs - 1), .int x])) := ⟨_, rfl⟩
    have hP : va_P G vwCl (va_pl L f_4) H := by rw [ef_4]; exact hP
    have hD : va_D (pw_A L s.heap.size) (va_pl L f_4) := by rw [ef_4]; exact hD
    have hf_4_ad_0 : f_4 (ad 0) = .inr (4, [.int t, .int (nI nN), .ref (ad 1), .ref (ad 2), .ref (ad 3), .ref (ad 4), .ref (ad 5), .ref (ad 6), .ref (ad 7), .ref (ad 8), .int (nI nM), .ref (ad 9), .ref (ad 10), .ref (ad 11), .ref (ad 12), .ref (ad 13), .ref (ad 14), .ref (ad 15), .ref (ad 16), .ref (ad 17), .int lm, .int (rs - 1), .int x]) := by rw [ef_4]; exact va_up_self _ _ _
    have qf_4 : RS cs L f_4 ad t lm nN nM (rs - 1) x A Bq := by rw [ef_4]; exact qf_3.main t lm nN nM (rs - 1) x (by omega) (by omega)
    have hsp : sR_put (rs, lk) x = (rs - 1, x) := by simp [sR_put, c_5]
    exact pc_retv hx hb hr hlocks hP hD hS dX4_put_29 ⟨rfl, by rw [hsp]; exact qf_4⟩

set_option maxHeartbeats 4000000 in
set_option maxRecDepth 100000 in
theorem k_R_num (l : Launch) (G : va_G) (cs : Nat → ClassId) (L : List Nat) (f : Nat → va_E) (sz : Nat) (ad : Nat → Nat) (t lm : Int32) (nN nM : Nat) (rs lk : Int32) (A : RA) (Bq : RB) (v : Nat) (h0 : RS cs L f ad t lm nN nM rs lk A Bq) (hv9 : v < 10 ^ 10) : Met l yX4_putNumber (Cond.code yX4_putNumber cX4_putNumber 5 none :: wg) ({ frames := 1, cells := 0, slots := 0, locals := 21 }) (pc_P [.ref (ad 0), .long (lN v)] G vwCl (tyl cs) L f sz (fun _ => True)) (va_Qv (fun u => L = u.1 ∧ RS cs u.1 u.2 ad t lm nN nM (sR_puts (rs, lk) (tx_n v)).1 (sR_puts (rs, lk) (tx_n v)).2 A Bq) (pc_B G vwCl L sz) (pw_A L sz)) 0 0 (pw_A L sz) := by
  refine Met.ofW (cc := cX4_putNumber) (maxL := 5) (ret := none) (by decide) rfl ?_
  intro p e s m args below meth c s₁ B hml hv
  obtain ⟨rfl, hsz, hP, hK, hD0, hX⟩ := hv
  have hx := B.exec
  have hb := B.bytes
  have hr := B.returns
  have hts0 := atoms_spec (ws := (Cond.code yX4_putNumber cX4_putNumber 5 none :: wg)) B.pre
  have hts := fun (w : Cond) (h : w ∈ wg) => hts0 w (List.mem_cons_of_mem _ h)
  have hown : s.vm.findClass RX4 = some m.cls := findClass_of_methodNamed B.named
  have hlocks := B.notSynchronized
  subst hsz
  have hD := pw_selfD (sz := s.heap.size) hD0
  have hA : ∀ q : Nat, s.heap.size ≤ q → pw_A L s.heap.size q := fun q h => Or.inr h
  have hS : va_S (pw_A L s.heap.size) s.heap s.heap [] := va_S.rf
  have hl := lv_entry ([.ref (ad 0), .long (lN v)]) (n := 5) (Nat.le_of_ble_eq_true rfl)
  rw [lg_entry_eq]
  generalize (lg_sl ([.ref (ad 0), .long (lN v)]) ++ List.replicate (5 - (lg_sl ([.ref (ad 0), .long (lN v)])).length) Slot.unset).toArray = ls at hl ⊢
  have hl : lv_has ls 5 [(0, .ref (ad 0)), (1, .long (lN v))] := hl
  have hN6 := h0.nN6
  have hM12 := h0.nM12
  have m0 := h0.mem 0 (by decide)
  have e0 := h0.e0
  refine lv_lconst (v := 1) hx hb dX4_putNumber_0 (by decide) ?_
  refine lv_lstore_n (lv' := [(3, .long 1), (0, .ref (ad 0)), (1, .long (lN v))]) hx hb dX4_putNumber_1 rfl hl (by decide) rfl (fun ls hl => ?_)
  refine pr_loop (σ := Nat) (nL := 5) (fun p => 9 - p) (fun p => p ≤ 9 ∧ (p = 0 ∨ 10 ^ p ≤ v)) (fun p => [(3, .long (lN (10 ^ p))), (0, .ref (ad 0)), (1, .long (lN v))]) ?_ 0 ⟨Nat.zero_le _, Or.inl rfl⟩ ls (lv_sub hl [0, 1, 2] rfl)
  rintro p_ ⟨hp1, hp2⟩ ih ls hl
  have hp1 : p_ ≤ 9 := hp1
  have hp2 : p_ = 0 ∨ 10 ^ p_ ≤ v := hp2
  have hv2 : v < 2 ^ 63 := Nat.lt_trans hv9 (by decide)
  refine lv_lload_n hx hb dX4_putNumber_2 rfl (lv_at hl 2 rfl) ?_
  refine lv_lload_n hx hb dX4_putNumber_3 rfl (lv_at hl 0 rfl) ?_
  refine lv_ldiv hx hb dX4_putNumber_4 (ten_ne hp1) ?_
  rw [lN_div hv2 (ten_lt hp1)]
  refine lv_ldc2 hx hb hown (hts _ mw_514) dX4_putNumber_5 ?_
  refine W.lcmp hx hb dX4_putNumber_8 ?_
  refine lv_if_le (tgt := 21) hx hb dX4_putNumber_9 (by decide) (fun c_9 => ?_) (fun c_9 => ?_)
  · have c_9 := (lg_cmp_le _ _).mp c_9
    have d_9 : v / 10 ^ p_ ≤ 9 := (lN_lle (a := v / 10 ^ p_) (b := 9) (Nat.lt_of_le_of_lt (Nat.div_le_self _ _) hv2) (by decide)).mp c_9
    have d_9b : v < 10 ^ (p_ + 1) := by
      rw [Nat.pow_succ]
      have := (Nat.div_lt_iff_lt_mul (k := 10 ^ p_) (x := v) (y := 10) (Nat.pow_pos (by decide))).mp (by omega)
      rw [Nat.mul_comm]; exact this
    refine pc_loop (σ := Nat × (Nat → va_E) × sR_P) (nL := 5) (fun x => x.1) (fun x => x.1 ≤ 10 ∧ RS cs L x.2.1 ad t lm nN nM x.2.2.1 x.2.2.2 A Bq ∧ sR_puts x.2.2 (tx_num v x.1 true) = sR_puts (rs, lk) (tx_n v)) (fun x => (L, x.2.1)) (fun x => [(3, .long (bz x.1)), (0, .ref (ad 0)), (1, .long (lN v))]) ?_ (p_ + 1, f, (rs, lk)) ⟨by show p_ + 1 ≤ 10; omega, h0, by show _ = sR_puts (rs, lk) (tx_num v 10 false); rw [tx_skip d_9b hp2 10 (by omega)]⟩ hP hD hS ls (lv_sub hl [0, 1, 2] rfl)
    rintro ⟨k, fq, s1, s2⟩ ⟨hk, hq, hps⟩ ih2 H locs ls hP hD hS hl
    have hk : k ≤ 10 := hk
    have hq : RS cs L fq ad t lm nN nM s1 s2 A Bq := hq
    have e0 := hq.e0
    cases k with
    | zero =>
      have hps : (s1, s2) = sR_puts (rs, lk) (tx_n v) := hps
      have hl : lv_has ls 5 [(3, .long 0), (0, .ref (ad 0)), (1, .long (lN v))] := hl
      refine lv_lload_n hx hb dX4_putNumber_21 rfl (lv_at hl 0 rfl) ?_
      refine lv_lconst (v := 0) hx hb dX4_putNumber_22 (by decide) ?_
      refine W.lcmp hx hb dX4_putNumber_23 ?_
      refine lv_if_le (tgt := 52) hx hb dX4_putNumber_24 (by decide) (fun c_24 => ?_) (fun c_24 => absurd ((lg_cmp_le _ _).mpr (by decide)) c_24)
      exact pc_retv hx hb hr hlocks hP hD hS dX4_putNumber_52 ⟨rfl, by rw [← hps]; exact hq⟩
    | succ k =>
      have hps : sR_puts (sR_put (s1, s2) (nI (48 + v / 10 ^ k % 10))) (tx_num v k true) = sR_puts (rs, lk) (tx_n v) := hps
      have hl : lv_has ls 5 [(3, .long (lN (10 ^ k))), (0, .ref (ad 0)), (1, .long (lN v))] := hl
      refine lv_lload_n hx hb dX4_putNumber_21 rfl (lv_at hl 0 rfl) ?_
      refine lv_lconst (v := 0) hx hb dX4_putNumber_22 (by decide) ?_
      refine W.lcmp hx hb dX4_putNumber_23 ?_
      refine lv_if_le (tgt := 52) hx hb dX4_putNumber_24 (by decide) (fun c_24 => absurd ((lg_cmp_le _ _).mp c_24) (ten_nle (by omega))) (fun c_24 => ?_)
      refine lv_aload_n hx hb dX4_putNumber_27 rfl (lv_at hl 1 rfl) ?_
      refine lv_ldc2 hx hb hown (hts _ mw_516) dX4_putNumber_28 ?_
      refine lv_lload_n hx hb dX4_putNumber_31 rfl (lv_at hl 2 rfl) ?_
      refine lv_lload_n hx hb dX4_putNumber_32 rfl (lv_at hl 0 rfl) ?_
      refine lv_ldiv hx hb dX4_putNumber_33 (ten_ne (by omega)) ?_
      refine lv_ldc2 hx hb hown (hts _ mw_515) dX4_putNumber_34 ?_
      refine lv_lrem hx hb dX4_putNumber_37 (by decide) ?_
      refine lv_ladd hx hb dX4_putNumber_38 ?_
      refine lv_l2i hx hb dX4_putNumber_39 rfl ?_
      have edg : (48 + (((lN v) / (lN (10 ^ k))) - ((lN v) / (lN (10 ^ k))) / 10 * 10)).toInt32 = nI (48 + v / 10 ^ k % 10) := dig_e hv9 (by omega)
      rw [edg]
      refine pc_callVv (As := [.int (nI (48 + v / 10 ^ k % 10))]) (rest := []) ⟨hx, hb, hml, hown, hts⟩ (k_R_put l G cs L fq _ ad t lm nN nM s1 s2 A Bq (nI (48 + v / 10 ^ k % 10)) hq) (cwV 1 hts (wg_V mw_517 mw_519 ms_14 mw_3 mw_520) rfl rfl rfl (by decide +kernel) ⟨Nat.le_of_ble_eq_true rfl, Nat.le_of_ble_eq_true rfl⟩) hK hP hD hS hA m0 e0 rfl px_T (fun _ _ _ => trivial) rfl hl.1 rfl (lv_room (Nat.le_of_ble_eq_true rfl)) dX4_putNumber_40 ⟨Nat.le_of_ble_eq_true rfl, Nat.le_of_ble_eq_true rfl⟩ (fun L1 f1 H locs hr_1 hP hD hS => ?_)
      obtain ⟨rfl, hq2⟩ := hr_1
      refine lv_lload_n hx hb dX4_putNumber_43 rfl (lv_at hl 0 rfl) ?_
      refine lv_ldc2 hx hb hown (hts _ mw_515) dX4_putNumber_44 ?_
      refine lv_ldiv hx hb dX4_putNumber_47 (by decide) ?_
      rw [bz_div (by omega)]
      refine lv_lstore_n (lv' := [(3, .long (bz k)), (0, .ref (ad 0)), (1, .long (lN v))]) hx hb dX4_putNumber_48 rfl hl (by decide) rfl (fun ls hl => ?_)
      refine lv_goto (tgt := 21) hx hb dX4_putNumber_49 (by decide) ?_
      exact ih2 (k, f1, sR_put (s1, s2) (nI (48 + v / 10 ^ k % 10))) ⟨by show k ≤ 10; omega, hq2, hps⟩ (by show k < k + 1; omega) H locs ls hP hD hS (lv_sub hl [0, 1, 2] rfl)
  · have c_9 : ¬ (lN (v / 10 ^ p_)) ≤ 9 := fun h => c_9 ((lg_cmp_le _ _).mpr h)
    have d_9 : ¬ v / 10 ^ p_ ≤ 9 := fun z => c_9 ((lN_lle (a := v / 10 ^ p_) (b := 9) (Nat.lt_of_le_of_lt (Nat.div_le_self _ _) hv2) (by decide)).mpr z)
    have hp3 : 10 ^ (p_ + 1) ≤ v := by
      rw [Nat.pow_succ, Nat.mul_comm]
      exact (Nat.le_div_iff_mul_le (Nat.pow_pos (by decide))).mp (by omega)
    have hp4 : p_ ≠ 9 := fun z => by subst z; exact absurd (Nat.lt_of_lt_of_le hv9 hp3) (Nat.lt_irrefl _)
    refine lv_lload_n hx hb dX4_putNumber_12 rfl (lv_at hl 0 rfl) ?_
    refine lv_ldc2 hx hb hown (hts _ mw_515) dX4_putNumber_13 ?_
    refine lv_lmul hx hb dX4_putNumber_16 ?_
    rw [ten_s]
    refine lv_lstore_n (lv' := [(3, .long (lN (10 ^ (p_ + 1)))), (0, .ref (ad 0)), (1, .long (lN v))]) hx hb dX4_putNumber_17 rfl hl (by decide) rfl (fun ls hl => ?_)
    refine lv_goto (tgt := 2) hx hb dX4_putNumber_18 (by decide) ?_
    exact ih (p_ + 1) ⟨by show p_ + 1 ≤ 9; omega, Or.inr hp3⟩ (by show 9 - (p_ + 1) < 9 - p_; omega) ls (lv_sub hl [0, 1, 2] rfl)

set_option maxHeartbeats 4000000 in
set_option maxRecDepth 100000 in
theorem k_R_let (l : Launch) (G : va_G) (cs : Nat → ClassId) (L : List Nat) (f : Nat → va_E) (s1 : Nat) (hs1 : s1 ≤ 5) : Met l yX4_letterOf (Cond.code yX4_letterOf cX4_letterOf 1 (some FieldType.int) :: wg) ({ frames := 0, cells := 0, slots := 0, locals := 0 }) (pr_P [.int (nI s1)] G vwCl (tyl cs) L f (fun _ => True)) (vp_Si (fun r => r = sR_let (nI s1))) 0 0 (fun _ => False) := by
  refine Met.ofW (cc := cX4_letterOf) (maxL := 1) (ret := (some FieldType.int)) (by decide) rfl ?_
  intro p e s m args below meth c s₁ B hml hv
  obtain ⟨rfl, hP, hK, hX⟩ := hv
  have hx := B.exec
  have hb := B.bytes
  have hr := B.returns
  have hts0 := atoms_spec (ws := (Cond.code yX4_letterOf cX4_letterOf 1 (some FieldType.int) :: wg)) B.pre
  have hts := fun (w : Cond) (h : w ∈ wg) => hts0 w (List.mem_cons_of_mem _ h)
  have hown : s.vm.findClass RX4 = some m.cls := findClass_of_methodNamed B.named
  have hlocks := B.notSynchronized
  have hl := lv_entry ([.int (nI s1)]) (n := 1) (Nat.le_of_ble_eq_true rfl)
  rw [lg_entry_eq]
  generalize (lg_sl ([.int (nI s1)]) ++ List.replicate (1 - (lg_sl ([.int (nI s1)])).length) Slot.unset).toArray = ls at hl ⊢
  have hl : lv_has ls 1 [(0, .int (nI s1))] := hl
  refine lv_iload_n hx hb dX4_letterOf_0 rfl (lv_at hl 0 rfl) ?_
  obtain rfl | rfl | rfl | rfl | rfl | rfl : s1 = 0 ∨ s1 = 1 ∨ s1 = 2 ∨ s1 = 3 ∨ s1 = 4 ∨ s1 = 5 := by omega
  · refine lv_tableIn (x := nI 0) (off := 35) (tgt := 36) hx hb dX4_letterOf_1 (by decide) (by decide) rfl (by decide) ?_
    refine lv_bipush (v := 116) hx hb dX4_letterOf_36 (by decide) ?_
    exact pr_reti hx hb hr hlocks dX4_letterOf_38 (by simp [sR_let, show nI 0 = 0 from rfl])
  · refine lv_tableIn (x := nI 1) (off := 38) (tgt := 39) hx hb dX4_letterOf_1 (by decide) (by decide) rfl (by decide) ?_
    refine lv_bipush (v := 107) hx hb dX4_letterOf_39 (by decide) ?_
    exact pr_reti hx hb hr hlocks dX4_letterOf_41 (by simp [sR_let, show nI 1 = 1 from rfl])
  · refine lv_tableIn (x := nI 2) (off := 41) (tgt := 42) hx hb dX4_letterOf_1 (by decide) (by decide) rfl (by decide) ?_
    refine lv_bipush (v := 118) hx hb dX4_letterOf_42 (by decide) ?_
    exact pr_reti hx hb hr hlocks dX4_letterOf_44 (by simp [sR_let, show nI 2 = 2 from rfl])
  · refine lv_tableIn (x := nI 3) (off := 44) (tgt := 45) hx hb dX4_letterOf_1 (by decide) (by decide) rfl (by decide) ?_
    refine lv_bipush (v := 99) hx hb dX4_letterOf_45 (by decide) ?_
    exact pr_reti hx hb hr hlocks dX4_letterOf_47 (by simp [sR_let, show nI 3 = 3 from rfl])
  · refine lv_tableIn (x := nI 4) (off := 47) (tgt := 48) hx hb dX4_letterOf_1 (by decide) (by decide) rfl (by decide) ?_
    refine lv_bipush (v := 114) hx hb dX4_letterOf_48 (by decide) ?_
    exact pr_reti hx hb hr hlocks dX4_letterOf_50 (by simp [sR_let, show nI 4 = 4 from rfl])
  · refine lv_tableOut (x := nI 5) (tgt := 51) hx hb dX4_letterOf_1 (by decide) (by decide) ?_
    refine lv_bipush (v := 120) hx hb dX4_letterOf_51 (by decide) ?_
    exact pr_reti hx hb hr hlocks dX4_letterOf_53 (by simp [sR_let, show nI 5 = 5 from rfl])

set_option maxHeartbeats 4000000 in
set_option maxRecDepth 100000 in
theorem k_R_print (l : Launch) (G : va_G) (cs : Nat → ClassId) (L : List Nat) (f : Nat → va_E) (sz : Nat) (ad : Nat → Nat) (t lm : Int32) (nN nM : Nat) (rs lk : Int32) (A : RA) (Bq : RB) (n_ k_ : Int32) (h0 : RS cs L f ad t lm nN nM rs lk A Bq) (hpn : ∀ i, i < nN → Bq 1 i = lN (Bq 1 i).toNatClampNeg ∧ (Bq 1 i).toNatClampNeg < 10 ^ 10 ∧ ¬ A 2 i < 0 ∧ ¬ A 3 i < 0) (hpm : ∀ j, j < nM → Bq 10 j = lN (Bq 10 j).toNatClampNeg ∧ (Bq 10 j).toNatClampNeg < 10 ^ 10 ∧ ∃ s : Nat, s ≤ 5 ∧ A 12 j = nI s) : Met l yX4_print (Cond.code yX4_print cX4_print 4 (some FieldType.int) :: wg) ({ frames := 2, cells := 0, slots := 0, locals := 48 }) (pc_P [.ref (ad 0), .int n_, .int k_] G vwCl (tyl cs) L f sz (fun _ => True)) (va_Qi (fun r u => L = u.1 ∧ r = sR_print t nN nM A Bq n_ k_ ∧ ∃ rs' lk', RS cs u.1 u.2 ad t lm nN nM rs' lk' A Bq) (pc_B G vwCl L sz) (pw_A L sz)) 0 0 (pw_A L sz) := by
  refine Met.ofW (cc := cX4_print) (maxL := 4) (ret := (some FieldType.int)) (by decide) rfl ?_
  intro p e s m args below meth c s₁ B hml hv
  obtain ⟨rfl, hsz, hP, hK, hD0, hX⟩ := hv
  have hx := B.exec
  have hb := B.bytes
  have hr := B.returns
  have hts0 := atoms_spec (ws := (Cond.code yX4_print cX4_print 4 (some FieldType.int) :: wg)) B.pre
  have hts := fun (w : Cond) (h : w ∈ wg) => hts0 w (List.mem_cons_of_mem _ h)
  have hown : s.vm.findClass RX4 = some m.cls := findClass_of_methodNamed B.named
  have hlocks := B.notSynchronized
  subst hsz
  have hD := pw_selfD (sz := s.heap.size) hD0
  have hA : ∀ q : Nat, s.heap.size ≤ q → pw_A L s.heap.size q := fun q h => Or.inr h
  have hS : va_S (pw_A L s.heap.size) s.heap s.heap [] := va_S.rf
  have hl := lv_entry ([.ref (ad 0), .int n_, .int k_]) (n := 4) (Nat.le_of_ble_eq_true rfl)
  rw [lg_entry_eq]
  generalize (lg_sl ([.ref (ad 0), .int n_, .int k_]) ++ List.replicate (4 - (lg_sl ([.ref (ad 0), .int n_, .int k_])).length) Slot.unset).toArray = ls at hl ⊢
  have hl : lv_has ls 4 [(0, .ref (ad 0)), (1, .int n_), (2, .int k_)] := hl
  have hN6 := h0.nN6
  have hM12 := h0.nM12
  have m0 := h0.mem 0 (by decide)
  have e0 := h0.e0
  have m1 := h0.mem 1 (by decide)
  have e1 : f (ad 1) = .inl (cs 3, 6, .inr (.inl (Bq 1))) := h0.ea 1 (by decide) (by decide)
  have m2 := h0.mem 2 (by decide)
  have e2 : f (ad 2) = .inl (cs 0, 6, .inl (A 2)) := h0.ea 2 (by decide) (by decide)
  have m3 := h0.mem 3 (by decide)
  have e3 : f (ad 3) = .inl (cs 0, 6, .inl (A 3)) := h0.ea 3 (by decide) (by decide)
  have m9 := h0.mem 9 (by decide)
  have e9 : f (ad 9) = .inl (cs 0, 12, .inl (A 9)) := h0.ea 9 (by decide) (by decide)
  have m10 := h0.mem 10 (by decide)
  have e10 : f (ad 10) = .inl (cs 3, 12, .inr (.inl (Bq 10))) := h0.ea 10 (by decide) (by decide)
  have m12 := h0.mem 12 (by decide)
  have e12 : f (ad 12) = .inl (cs 0, 12, .inl (A 12)) := h0.ea 12 (by decide) (by decide)
  refine lv_aload_n hx hb dX4_print_0 rfl (lv_at hl 0 rfl) ?_
  refine lv_iload_n hx hb dX4_print_1 rfl (lv_at hl 1 rfl) ?_
  refine pr_callVi (As := [.int n_]) (rest := []) ⟨hx, hb, hml, hown, hts⟩ (k_R_isN l G cs L f ad t lm nN nM rs lk A Bq n_ h0) (cwV 1 hts (wg_V mw_419 mw_421 ms_11 mw_3 mw_422) rfl rfl rfl (by decide +kernel) ⟨Nat.le_of_ble_eq_true rfl, Nat.le_of_ble_eq_true rfl⟩) hK hP m0 e0 rfl px_T (fun _ _ _ => trivial) rfl hl.1 rfl (lv_room (Nat.le_of_ble_eq_true rfl)) dX4_print_2 ⟨Nat.le_of_ble_eq_true rfl, Nat.le_of_ble_eq_true rfl⟩ (fun r_1 hr_1 => ?_)
  rcases sp_in_cases (m := nN) (by omega) n_ with ⟨hxi, hsi⟩ | ⟨i, hi, eni, hxi, hsi⟩
  · obtain rfl : r_1 = 0 := by rw [hr_1, hsi]
    refine lv_if_eq (tgt := 12) hx hb dX4_print_5 (by decide) (fun c_5 => ?_) (fun c_5 => ?_)
    · refine lv_iconst (v := (-1)) hx hb dX4_print_12 (by decide) ?_
      exact pc_reti hx hb hr hlocks hP hD hS dX4_print_13 ⟨rfl, by simp [sR_print, hxi], rs, lk, h0⟩
    · exact absurd c_5 (by decide)
  · obtain rfl : r_1 = 1 := by rw [hr_1, hsi]
    subst eni
    refine lv_if_eq (tgt := 12) hx hb dX4_print_5 (by decide) (fun c_5 => ?_) (fun c_5 => ?_)
    · exact absurd c_5 (by decide)
    · refine lv_iload_n hx hb dX4_print_8 rfl (lv_at hl 2 rfl) ?_
      refine lv_if_ge (tgt := 14) hx hb dX4_print_9 (by decide) (fun c_9 => ?_) (fun c_9 => ?_)
      · have d_9 : ¬ k_ < 0 := Int32.not_lt.mpr c_9
        refine lv_aload_n hx hb dX4_print_14 rfl (lv_at hl 0 rfl) ?_
        refine lv_iload_n hx hb dX4_print_15 rfl (lv_at hl 2 rfl) ?_
        refine pw_put (ty := .int) (ci := 4) (v := .int k_) (C := RX4) (T := TX4) (N := 23) hx hb hts inX4 tyX4 tyX4_ok nmX4 hown hK hP hD hS m0 e0 rfl 21 (by decide) (hts _ mw_348) (fun _ h9 => h9) rfl (by decide +kernel) rfl rfl (Nat.le_of_ble_eq_true rfl) dX4_print_16 (fun H locs hP hD hS => ?_)
        obtain ⟨f_2, ef_2⟩ : ∃ zz : Nat → va_E, zz = va_up f (ad 0) (.inr (4, [.int t, .int (nI nN), .ref (ad 1), .ref (ad 2), .ref (ad 3), .ref (ad 4), .ref (ad 5), .ref (ad 6), .ref (ad 7), .ref (ad 8), .int (nI nM), .ref (ad 9), .ref (ad 10), .ref (ad 11), .ref (ad 12), .ref (ad 13), .ref (ad 14), .ref (ad 15), .ref (ad 16), .ref (ad 17), .int lm, .int k_, .int lk])) := ⟨_, rfl⟩
        have hP : va_P G vwCl (va_pl L f_2) H := by rw [ef_2]; exact hP
        have hD : va_D (pw_A L s.heap.size) (va_pl L f_2) := by rw [ef_2]; exact hD
        have hf_2_ad_0 : f_2 (ad 0) = .inr (4, [.int t, .int (nI nN), .ref (ad 1), .ref (ad 2), .ref (ad 3), .ref (ad 4), .ref (ad 5), .ref (ad 6), .ref (ad 7), .ref (ad 8), .int (nI nM), .ref (ad 9), .ref (ad 10), .ref (ad 11), .ref (ad 12), .ref (ad 13), .ref (ad 14), .ref (ad 15), .ref (ad 16), .ref (ad 17), .int lm, .int k_, .int lk]) := by rw [ef_2]; exact va_up_self _ _ _
        have hf_2_ad_1 := (show f_2 (ad 1) = f (ad 1) by rw [ef_2]; exact va_up_ne _ _ (h0.ne 1 0 (by decide) (by decide) (by decide))).trans e1
        have hf_2_ad_2 := (show f_2 (ad 2) = f (ad 2) by rw [ef_2]; exact va_up_ne _ _ (h0.ne 2 0 (by decide) (by decide) (by decide))).trans e2
        have hf_2_ad_3 := (show f_2 (ad 3) = f (ad 3) by rw [ef_2]; exact va_up_ne _ _ (h0.ne 3 0 (by decide) (by decide) (by decide))).trans e3
        have hf_2_ad_9 := (show f_2 (ad 9) = f (ad 9) by rw [ef_2]; exact va_up_ne _ _ (h0.ne 9 0 (by decide) (by decide) (by decide))).trans e9
        have hf_2_ad_10 := (show f_2 (ad 10) = f (ad 10) by rw [ef_2]; exact va_up_ne _ _ (h0.ne 10 0 (by decide) (by decide) (by decide))).trans e10
        have hf_2_ad_12 := (show f_2 (ad 12) = f (ad 12) by rw [ef_2]; exact va_up_ne _ _ (h0.ne 12 0 (by decide) (by decide) (by decide))).trans e12
        have qf_2 : RS cs L f_2 ad t lm nN nM k_ lk A Bq := by rw [ef_2]; exact h0.main t lm nN nM k_ lk (by omega) (by omega)
        refine lv_aload_n hx hb dX4_print_19 rfl (lv_at hl 0 rfl) ?_
        refine lv_iconst (v := (-1)) hx hb dX4_print_20 (by decide) ?_
        refine pw_put (ty := .int) (ci := 4) (v := .int (-1)) (C := RX4) (T := TX4) (N := 23) hx hb hts inX4 tyX4 tyX4_ok nmX4 hown hK hP hD hS m0 hf_2_ad_0 rfl 22 (by decide) (hts _ mw_349) (fun _ h9 => h9) rfl (by decide +kernel) rfl rfl (Nat.le_of_ble_eq_true rfl) dX4_print_21 (fun H locs hP hD hS => ?_)
        obtain ⟨f_3, ef_3⟩ : ∃ zz : Nat → va_E, zz = va_up f_2 (ad 0) (.inr (4, [.int t, .int (nI nN), .ref (ad 1), .ref (ad 2), .ref (ad 3), .ref (ad 4), .ref (ad 5), .ref (ad 6), .ref (ad 7), .ref (ad 8), .int (nI nM), .ref (ad 9), .ref (ad 10), .ref (ad 11), .ref (ad 12), .ref (ad 13), .ref (ad 14), .ref (ad 15), .ref (ad 16), .ref (ad 17), .int lm, .int k_, .int (-1)])) := ⟨_, rfl⟩
        have hP : va_P G vwCl (va_pl L f_3) H := by rw [ef_3]; exact hP
        have hD : va_D (pw_A L s.heap.size) (va_pl L f_3) := by rw [ef_3]; exact hD
        have hf_3_ad_0 : f_3 (ad 0) = .inr (4, [.int t, .int (nI nN), .ref (ad 1), .ref (ad 2), .ref (ad 3), .ref (ad 4), .ref (ad 5), .ref (ad 6), .ref (ad 7), .ref (ad 8), .int (nI nM), .ref (ad 9), .ref (ad 10), .ref (ad 11), .ref (ad 12), .ref (ad 13), .ref (ad 14), .ref (ad 15), .ref (ad 16), .ref (ad 17), .int lm, .int k_, .int (-1)]) := by rw [ef_3]; exact va_up_self _ _ _
        have hf_3_ad_1 := (show f_3 (ad 1) = f_2 (ad 1) by rw [ef_3]; exact va_up_ne _ _ (h0.ne 1 0 (by decide) (by decide) (by decide))).trans hf_2_ad_1
        have hf_3_ad_2 := (show f_3 (ad 2) = f_2 (ad 2) by rw [ef_3]; exact va_up_ne _ _ (h0.ne 2 0 (by decide) (by decide) (by decide))).trans hf_2_ad_2
        have hf_3_ad_3 := (show f_3 (ad 3) = f_2 (ad 3) by rw [ef_3]; exact va_up_ne _ _ (h0.ne 3 0 (by decide) (by decide) (by decide))).trans hf_2_ad_3
        have hf_3_ad_9 := (show f_3 (ad 9) = f_2 (ad 9) by rw [ef_3]; exact va_up_ne _ _ (h0.ne 9 0 (by decide) (by decide) (by decide))).trans hf_2_ad_9
        have hf_3_ad_10 := (show f_3 (ad 10) = f_2 (ad 10) by rw [ef_3]; exact va_up_ne _ _ (h0.ne 10 0 (by decide) (by decide) (by decide))).trans hf_2_ad_10
        have hf_3_ad_12 := (show f_3 (ad 12) = f_2 (ad 12) by rw [ef_3]; exact va_up_ne _ _ (h0.ne 12 0 (by decide) (by decide) (by decide))).trans hf_2_ad_12
        have qf_3 : RS cs L f_3 ad t lm nN nM k_ (-1) A Bq := by rw [ef_3]; exact qf_2.main t lm nN nM k_ (-1) (by omega) (by omega)
        refine lv_aload_n hx hb dX4_print_24 rfl (lv_at hl 0 rfl) ?_
        refine lv_iload_n hx hb dX4_print_25 rfl (lv_at hl 1 rfl) ?_
        refine lv_i2l hx hb dX4_print_26 rfl ?_
        have en27 : (nI i).toInt64 = lN i := nI_l (by omega)
        rw [en27]
        refine pc_callVv (As := [.long (lN i)]) (rest := []) ⟨hx, hb, hml, hown, hts⟩ (k_R_num l G cs L f_3 _ ad t lm nN nM k_ (-1) A Bq i qf_3 (by omega)) (cwV 1 hts (wg_V mw_510 mw_512 ms_13 mw_3 mw_513) rfl rfl rfl (by decide +kernel) ⟨Nat.le_of_ble_eq_true rfl, Nat.le_of_ble_eq_true rfl⟩) hK hP hD hS hA m0 hf_3_ad_0 rfl px_T (fun _ _ _ => trivial) rfl hl.1 rfl (lv_room (Nat.le_of_ble_eq_true rfl)) dX4_print_27 ⟨Nat.le_of_ble_eq_true rfl, Nat.le_of_ble_eq_true rfl⟩ (fun L1 f1 H locs hr_4 hP hD hS => ?_)
        obtain ⟨rfl, hq1⟩ := hr_4
        obtain ⟨P1, eP1⟩ : ∃ z : sR_P, z = sR_puts (k_, -1) (tx_n i) := ⟨_, rfl⟩
        have hq1 : RS cs L f1 ad t lm nN nM P1.1 P1.2 A Bq := by rw [eP1]; exact hq1
        have e0 := hq1.e0
        have e1 : f1 (ad 1) = .inl (cs 3, 6, .inr (.inl (Bq 1))) := hq1.ea 1 (by decide) (by decide)
        have e2 : f1 (ad 2) = .inl (cs 0, 6, .inl (A 2)) := hq1.ea 2 (by decide) (by decide)
        have e3 : f1 (ad 3) = .inl (cs 0, 6, .inl (A 3)) := hq1.ea 3 (by decide) (by decide)
        have e9 : f1 (ad 9) = .inl (cs 0, 12, .inl (A 9)) := hq1.ea 9 (by decide) (by decide)
        have e10 : f1 (ad 10) = .inl (cs 3, 12, .inr (.inl (Bq 10))) := hq1.ea 10 (by decide) (by decide)
        have e12 : f1 (ad 12) = .inl (cs 0, 12, .inl (A 12)) := hq1.ea 12 (by decide) (by decide)
        refine lv_aload_n hx hb dX4_print_30 rfl (lv_at hl 0 rfl) ?_
        refine lv_bipush (v := 32) hx hb dX4_print_31 (by decide) ?_
        refine pc_callVv (As := [.int 32]) (rest := []) ⟨hx, hb, hml, hown, hts⟩ (k_R_put l G cs L f1 _ ad t lm nN nM P1.1 P1.2 A Bq 32 hq1) (cwV 1 hts (wg_V mw_517 mw_519 ms_14 mw_3 mw_520) rfl rfl rfl (by decide +kernel) ⟨Nat.le_of_ble_eq_true rfl, Nat.le_of_ble_eq_true rfl⟩) hK hP hD hS hA m0 e0 rfl px_T (fun _ _ _ => trivial) rfl hl.1 rfl (lv_room (Nat.le_of_ble_eq_true rfl)) dX4_print_33 ⟨Nat.le_of_ble_eq_true rfl, Nat.le_of_ble_eq_true rfl⟩ (fun L1 f1 H locs hr_5 hP hD hS => ?_)
        obtain ⟨rfl, hq2⟩ := hr_5
        obtain ⟨P2, eP2⟩ : ∃ z : sR_P, z = sR_put P1 32 := ⟨_, rfl⟩
        have hq2 : RS cs L f1 ad t lm nN nM P2.1 P2.2 A Bq := by rw [eP2]; exact hq2
        have e0 := hq2.e0
        have e1 : f1 (ad 1) = .inl (cs 3, 6, .inr (.inl (Bq 1))) := hq2.ea 1 (by decide) (by decide)
        have e2 : f1 (ad 2) = .inl (cs 0, 6, .inl (A 2)) := hq2.ea 2 (by decide) (by decide)
        have e3 : f1 (ad 3) = .inl (cs 0, 6, .inl (A 3)) := hq2.ea 3 (by decide) (by decide)
        have e9 : f1 (ad 9) = .inl (cs 0, 12, .inl (A 9)) := hq2.ea 9 (by decide) (by decide)
        have e10 : f1 (ad 10) = .inl (cs 3, 12, .inr (.inl (Bq 10))) := hq2.ea 10 (by decide) (by decide)
        have e12 : f1 (ad 12) = .inl (cs 0, 12, .inl (A 12)) := hq2.ea 12 (by decide) (by decide)
        refine lv_aload_n hx hb dX4_print_36 rfl (lv_at hl 0 rfl) ?_
        refine lv_aload_n hx hb dX4_print_37 rfl (lv_at hl 0 rfl) ?_
        refine pw_get (ci := 4) (C := RX4) (T := TX4) (N := 23) hx hb hts inX4 hown hK hP m0 e0 rfl 2 (by decide) (hts _ mw_329) (fun _ h9 => h9) rfl dX4_print_38 ?_
        refine lv_iload_n hx hb dX4_print_41 rfl (lv_at hl 1 rfl) ?_
        refine pw_laldN (k := i) hx hb hK hP m1 3 e1 rfl (by omega) (by decide) dX4_print_42 ?_
        have en43 : (Bq 1) i = lN ((Bq 1 i).toNatClampNeg) := (hpn i hi).1
        rw [en43]
        refine pc_callVv (As := [.long (lN ((Bq 1 i).toNatClampNeg))]) (rest := []) ⟨hx, hb, hml, hown, hts⟩ (k_R_num l G cs L f1 _ ad t lm nN nM P2.1 P2.2 A Bq ((Bq 1 i).toNatClampNeg) hq2 (hpn i hi).2.1) (cwV 1 hts (wg_V mw_510 mw_512 ms_13 mw_3 mw_513) rfl rfl rfl (by decide +kernel) ⟨Nat.le_of_ble_eq_true rfl, Nat.le_of_ble_eq_true rfl⟩) hK hP hD hS hA m0 e0 rfl px_T (fun _ _ _ => trivial) rfl hl.1 rfl (lv_room (Nat.le_of_ble_eq_true rfl)) dX4_print_43 ⟨Nat.le_of_ble_eq_true rfl, Nat.le_of_ble_eq_true rfl⟩ (fun L1 f1 H locs hr_6 hP hD hS => ?_)
        obtain ⟨rfl, hq3⟩ := hr_6
        obtain ⟨P3, eP3⟩ : ∃ z : sR_P, z = sR_puts P2 (tx_n ((Bq 1 i).toNatClampNeg)) := ⟨_, rfl⟩
        have hq3 : RS cs L f1 ad t lm nN nM P3.1 P3.2 A Bq := by rw [eP3]; exact hq3
        have e0 := hq3.e0
        have e1 : f1 (ad 1) = .inl (cs 3, 6, .inr (.inl (Bq 1))) := hq3.ea 1 (by decide) (by decide)
        have e2 : f1 (ad 2) = .inl (cs 0, 6, .inl (A 2)) := hq3.ea 2 (by decide) (by decide)
        have e3 : f1 (ad 3) = .inl (cs 0, 6, .inl (A 3)) := hq3.ea 3 (by decide) (by decide)
        have e9 : f1 (ad 9) = .inl (cs 0, 12, .inl (A 9)) := hq3.ea 9 (by decide) (by decide)
        have e10 : f1 (ad 10) = .inl (cs 3, 12, .inr (.inl (Bq 10))) := hq3.ea 10 (by decide) (by decide)
        have e12 : f1 (ad 12) = .inl (cs 0, 12, .inl (A 12)) := hq3.ea 12 (by decide) (by decide)
        refine lv_aload_n hx hb dX4_print_46 rfl (lv_at hl 0 rfl) ?_
        refine lv_bipush (v := 32) hx hb dX4_print_47 (by decide) ?_
        refine pc_callVv (As := [.int 32]) (rest := []) ⟨hx, hb, hml, hown, hts⟩ (k_R_put l G cs L f1 _ ad t lm nN nM P3.1 P3.2 A Bq 32 hq3) (cwV 1 hts (wg_V mw_517 mw_519 ms_14 mw_3 mw_520) rfl rfl rfl (by decide +kernel) ⟨Nat.le_of_ble_eq_true rfl, Nat.le_of_ble_eq_true rfl⟩) hK hP hD hS hA m0 e0 rfl px_T (fun _ _ _ => trivial) rfl hl.1 rfl (lv_room (Nat.le_of_ble_eq_true rfl)) dX4_print_49 ⟨Nat.le_of_ble_eq_true rfl, Nat.le_of_ble_eq_true rfl⟩ (fun L1 f1 H locs hr_7 hP hD hS => ?_)
        obtain ⟨rfl, hq4⟩ := hr_7
        obtain ⟨P4, eP4⟩ : ∃ z : sR_P, z = sR_put P3 32 := ⟨_, rfl⟩
        have hq4 : RS cs L f1 ad t lm nN nM P4.1 P4.2 A Bq := by rw [eP4]; exact hq4
        have e0 := hq4.e0
        have e1 : f1 (ad 1) = .inl (cs 3, 6, .inr (.inl (Bq 1))) := hq4.ea 1 (by decide) (by decide)
        have e2 : f1 (ad 2) = .inl (cs 0, 6, .inl (A 2)) := hq4.ea 2 (by decide) (by decide)
        have e3 : f1 (ad 3) = .inl (cs 0, 6, .inl (A 3)) := hq4.ea 3 (by decide) (by decide)
        have e9 : f1 (ad 9) = .inl (cs 0, 12, .inl (A 9)) := hq4.ea 9 (by decide) (by decide)
        have e10 : f1 (ad 10) = .inl (cs 3, 12, .inr (.inl (Bq 10))) := hq4.ea 10 (by decide) (by decide)
        have e12 : f1 (ad 12) = .inl (cs 0, 12, .inl (A 12)) := hq4.ea 12 (by decide) (by decide)
        refine lv_aload_n hx hb dX4_print_52 rfl (lv_at hl 0 rfl) ?_
        refine lv_aload_n hx hb dX4_print_53 rfl (lv_at hl 0 rfl) ?_
        refine pw_get (ci := 4) (C := RX4) (T := TX4) (N := 23) hx hb hts inX4 hown hK hP m0 e0 rfl 3 (by decide) (hts _ mw_330) (fun _ h9 => h9) rfl dX4_print_54 ?_
        refine lv_iload_n hx hb dX4_print_57 rfl (lv_at hl 1 rfl) ?_
        refine pw_ialdN (k := i) hx hb hK hP m2 0 e2 rfl (by omega) (by decide) dX4_print_58 ?_
        refine lv_i2l hx hb dX4_print_59 rfl ?_
        have en60 : ((A 2) i).toInt64 = lN ((A 2 i).toNatClampNeg) := i2l_nn (hpn i hi).2.2.1
        rw [en60]
        refine pc_callVv (As := [.long (lN ((A 2 i).toNatClampNeg))]) (rest := []) ⟨hx, hb, hml, hown, hts⟩ (k_R_num l G cs L f1 _ ad t lm nN nM P4.1 P4.2 A Bq ((A 2 i).toNatClampNeg) hq4 (nn_lt (hpn i hi).2.2.1)) (cwV 1 hts (wg_V mw_510 mw_512 ms_13 mw_3 mw_513) rfl rfl rfl (by decide +kernel) ⟨Nat.le_of_ble_eq_true rfl, Nat.le_of_ble_eq_true rfl⟩) hK hP hD hS hA m0 e0 rfl px_T (fun _ _ _ => trivial) rfl hl.1 rfl (lv_room (Nat.le_of_ble_eq_true rfl)) dX4_print_60 ⟨Nat.le_of_ble_eq_true rfl, Nat.le_of_ble_eq_true rfl⟩ (fun L1 f1 H locs hr_8 hP hD hS => ?_)
        obtain ⟨rfl, hq5⟩ := hr_8
        obtain ⟨P5, eP5⟩ : ∃ z : sR_P, z = sR_puts P4 (tx_n ((A 2 i).toNatClampNeg)) := ⟨_, rfl⟩
        have hq5 : RS cs L f1 ad t lm nN nM P5.1 P5.2 A Bq := by rw [eP5]; exact hq5
        have e0 := hq5.e0
        have e1 : f1 (ad 1) = .inl (cs 3, 6, .inr (.inl (Bq 1))) := hq5.ea 1 (by decide) (by decide)
        have e2 : f1 (ad 2) = .inl (cs 0, 6, .inl (A 2)) := hq5.ea 2 (by decide) (by decide)
        have e3 : f1 (ad 3) = .inl (cs 0, 6, .inl (A 3)) := hq5.ea 3 (by decide) (by decide)
        have e9 : f1 (ad 9) = .inl (cs 0, 12, .inl (A 9)) := hq5.ea 9 (by decide) (by decide)
        have e10 : f1 (ad 10) = .inl (cs 3, 12, .inr (.inl (Bq 10))) := hq5.ea 10 (by decide) (by decide)
        have e12 : f1 (ad 12) = .inl (cs 0, 12, .inl (A 12)) := hq5.ea 12 (by decide) (by decide)
        refine lv_aload_n hx hb dX4_print_63 rfl (lv_at hl 0 rfl) ?_
        refine lv_bipush (v := 32) hx hb dX4_print_64 (by decide) ?_
        refine pc_callVv (As := [.int 32]) (rest := []) ⟨hx, hb, hml, hown, hts⟩ (k_R_put l G cs L f1 _ ad t lm nN nM P5.1 P5.2 A Bq 32 hq5) (cwV 1 hts (wg_V mw_517 mw_519 ms_14 mw_3 mw_520) rfl rfl rfl (by decide +kernel) ⟨Nat.le_of_ble_eq_true rfl, Nat.le_of_ble_eq_true rfl⟩) hK hP hD hS hA m0 e0 rfl px_T (fun _ _ _ => trivial) rfl hl.1 rfl (lv_room (Nat.le_of_ble_eq_true rfl)) dX4_print_66 ⟨Nat.le_of_ble_eq_true rfl, Nat.le_of_ble_eq_true rfl⟩ (fun L1 f1 H locs hr_9 hP hD hS => ?_)
        obtain ⟨rfl, hq6⟩ := hr_9
        obtain ⟨P6, eP6⟩ : ∃ z : sR_P, z = sR_put P5 32 := ⟨_, rfl⟩
        have hq6 : RS cs L f1 ad t lm nN nM P6.1 P6.2 A Bq := by rw [eP6]; exact hq6
        have e0 := hq6.e0
        have e1 : f1 (ad 1) = .inl (cs 3, 6, .inr (.inl (Bq 1))) := hq6.ea 1 (by decide) (by decide)
        have e2 : f1 (ad 2) = .inl (cs 0, 6, .inl (A 2)) := hq6.ea 2 (by decide) (by decide)
        have e3 : f1 (ad 3) = .inl (cs 0, 6, .inl (A 3)) := hq6.ea 3 (by decide) (by decide)
        have e9 : f1 (ad 9) = .inl (cs 0, 12, .inl (A 9)) := hq6.ea 9 (by decide) (by decide)
        have e10 : f1 (ad 10) = .inl (cs 3, 12, .inr (.inl (Bq 10))) := hq6.ea 10 (by decide) (by decide)
        have e12 : f1 (ad 12) = .inl (cs 0, 12, .inl (A 12)) := hq6.ea 12 (by decide) (by decide)
        refine lv_aload_n hx hb dX4_print_69 rfl (lv_at hl 0 rfl) ?_
        refine lv_aload_n hx hb dX4_print_70 rfl (lv_at hl 0 rfl) ?_
        refine pw_get (ci := 4) (C := RX4) (T := TX4) (N := 23) hx hb hts inX4 hown hK hP m0 e0 rfl 4 (by decide) (hts _ mw_331) (fun _ h9 => h9) rfl dX4_print_71 ?_
        refine lv_iload_n hx hb dX4_print_74 rfl (lv_at hl 1 rfl) ?_
        refine pw_ialdN (k := i) hx hb hK hP m3 0 e3 rfl (by omega) (by decide) dX4_print_75 ?_
        refine lv_i2l hx hb dX4_print_76 rfl ?_
        have en77 : ((A 3) i).toInt64 = lN ((A 3 i).toNatClampNeg) := i2l_nn (hpn i hi).2.2.2
        rw [en77]
        refine pc_callVv (As := [.long (lN ((A 3 i).toNatClampNeg))]) (rest := []) ⟨hx, hb, hml, hown, hts⟩ (k_R_num l G cs L f1 _ ad t lm nN nM P6.1 P6.2 A Bq ((A 3 i).toNatClampNeg) hq6 (nn_lt (hpn i hi).2.2.2)) (cwV 1 hts (wg_V mw_510 mw_512 ms_13 mw_3 mw_513) rfl rfl rfl (by decide +kernel) ⟨Nat.le_of_ble_eq_true rfl, Nat.le_of_ble_eq_true rfl⟩) hK hP hD hS hA m0 e0 rfl px_T (fun _ _ _ => trivial) rfl hl.1 rfl (lv_room (Nat.le_of_ble_eq_true rfl)) dX4_print_77 ⟨Nat.le_of_ble_eq_true rfl, Nat.le_of_ble_eq_true rfl⟩ (fun L1 f1 H locs hr_10 hP hD hS => ?_)
        obtain ⟨rfl, hq7⟩ := hr_10
        obtain ⟨P7, eP7⟩ : ∃ z : sR_P, z = sR_puts P6 (tx_n ((A 3 i).toNatClampNeg)) := ⟨_, rfl⟩
        have hq7 : RS cs L f1 ad t lm nN nM P7.1 P7.2 A Bq := by rw [eP7]; exact hq7
        have e0 := hq7.e0
        have e1 : f1 (ad 1) = .inl (cs 3, 6, .inr (.inl (Bq 1))) := hq7.ea 1 (by decide) (by decide)
        have e2 : f1 (ad 2) = .inl (cs 0, 6, .inl (A 2)) := hq7.ea 2 (by decide) (by decide)
        have e3 : f1 (ad 3) = .inl (cs 0, 6, .inl (A 3)) := hq7.ea 3 (by decide) (by decide)
        have e9 : f1 (ad 9) = .inl (cs 0, 12, .inl (A 9)) := hq7.ea 9 (by decide) (by decide)
        have e10 : f1 (ad 10) = .inl (cs 3, 12, .inr (.inl (Bq 10))) := hq7.ea 10 (by decide) (by decide)
        have e12 : f1 (ad 12) = .inl (cs 0, 12, .inl (A 12)) := hq7.ea 12 (by decide) (by decide)
        refine lv_aload_n hx hb dX4_print_80 rfl (lv_at hl 0 rfl) ?_
        refine lv_bipush (v := 32) hx hb dX4_print_81 (by decide) ?_
        refine pc_callVv (As := [.int 32]) (rest := []) ⟨hx, hb, hml, hown, hts⟩ (k_R_put l G cs L f1 _ ad t lm nN nM P7.1 P7.2 A Bq 32 hq7) (cwV 1 hts (wg_V mw_517 mw_519 ms_14 mw_3 mw_520) rfl rfl rfl (by decide +kernel) ⟨Nat.le_of_ble_eq_true rfl, Nat.le_of_ble_eq_true rfl⟩) hK hP hD hS hA m0 e0 rfl px_T (fun _ _ _ => trivial) rfl hl.1 rfl (lv_room (Nat.le_of_ble_eq_true rfl)) dX4_print_83 ⟨Nat.le_of_ble_eq_true rfl, Nat.le_of_ble_eq_true rfl⟩ (fun L1 f1 H locs hr_11 hP hD hS => ?_)
        obtain ⟨rfl, hq8⟩ := hr_11
        obtain ⟨P8, eP8⟩ : ∃ z : sR_P, z = sR_put P7 32 := ⟨_, rfl⟩
        have hq8 : RS cs L f1 ad t lm nN nM P8.1 P8.2 A Bq := by rw [eP8]; exact hq8
        have e0 := hq8.e0
        have e1 : f1 (ad 1) = .inl (cs 3, 6, .inr (.inl (Bq 1))) := hq8.ea 1 (by decide) (by decide)
        have e2 : f1 (ad 2) = .inl (cs 0, 6, .inl (A 2)) := hq8.ea 2 (by decide) (by decide)
        have e3 : f1 (ad 3) = .inl (cs 0, 6, .inl (A 3)) := hq8.ea 3 (by decide) (by decide)
        have e9 : f1 (ad 9) = .inl (cs 0, 12, .inl (A 9)) := hq8.ea 9 (by decide) (by decide)
        have e10 : f1 (ad 10) = .inl (cs 3, 12, .inr (.inl (Bq 10))) := hq8.ea 10 (by decide) (by decide)
        have e12 : f1 (ad 12) = .inl (cs 0, 12, .inl (A 12)) := hq8.ea 12 (by decide) (by decide)
        refine lv_aload_n hx hb dX4_print_86 rfl (lv_at hl 0 rfl) ?_
        refine lv_aload_n hx hb dX4_print_87 rfl (lv_at hl 0 rfl) ?_
        refine lv_iload_n hx hb dX4_print_88 rfl (lv_at hl 1 rfl) ?_
        refine pr_callVi (As := [.int (nI i)]) (rest := [.ref (ad 0)]) ⟨hx, hb, hml, hown, hts⟩ (k_R_state l G cs L f1 ad t lm nN nM P8.1 P8.2 A Bq (nI i) hq8) (cwV 1 hts (wg_V mw_439 mw_432 mw_433 mw_3 mw_434) rfl rfl rfl (by decide +kernel) ⟨Nat.le_of_ble_eq_true rfl, Nat.le_of_ble_eq_true rfl⟩) hK hP m0 e0 rfl px_T (fun _ _ _ => trivial) rfl hl.1 rfl (lv_room (Nat.le_of_ble_eq_true rfl)) dX4_print_89 ⟨Nat.le_of_ble_eq_true rfl, Nat.le_of_ble_eq_true rfl⟩ (fun r_12 hr_12 => ?_)
        subst hr_12
        have est : sR_state t nN A (nI i) = sR_stt A t i := by simp [sR_state, hxi]
        rw [est]
        refine lv_i2l hx hb dX4_print_92 rfl ?_
        have en93 : (sR_stt A t i).toInt64 = lN ((sR_stt A t i).toNatClampNeg) := i2l_nn (stt_nn A t i)
        rw [en93]
        refine pc_callVv (As := [.long (lN ((sR_stt A t i).toNatClampNeg))]) (rest := []) ⟨hx, hb, hml, hown, hts⟩ (k_R_num l G cs L f1 _ ad t lm nN nM P8.1 P8.2 A Bq ((sR_stt A t i).toNatClampNeg) hq8 (nn_lt (stt_nn A t i))) (cwV 1 hts (wg_V mw_510 mw_512 ms_13 mw_3 mw_513) rfl rfl rfl (by decide +kernel) ⟨Nat.le_of_ble_eq_true rfl, Nat.le_of_ble_eq_true rfl⟩) hK hP hD hS hA m0 e0 rfl px_T (fun _ _ _ => trivial) rfl hl.1 rfl (lv_room (Nat.le_of_ble_eq_true rfl)) dX4_print_93 ⟨Nat.le_of_ble_eq_true rfl, Nat.le_of_ble_eq_true rfl⟩ (fun L1 f1 H locs hr_13 hP hD hS => ?_)
        obtain ⟨rfl, hq9⟩ := hr_13
        obtain ⟨P9, eP9⟩ : ∃ z : sR_P, z = sR_puts P8 (tx_n ((sR_stt A t i).toNatClampNeg)) := ⟨_, rfl⟩
        have hq9 : RS cs L f1 ad t lm nN nM P9.1 P9.2 A Bq := by rw [eP9]; exact hq9
        have e0 := hq9.e0
        have e1 : f1 (ad 1) = .inl (cs 3, 6, .inr (.inl (Bq 1))) := hq9.ea 1 (by decide) (by decide)
        have e2 : f1 (ad 2) = .inl (cs 0, 6, .inl (A 2)) := hq9.ea 2 (by decide) (by decide)
        have e3 : f1 (ad 3) = .inl (cs 0, 6, .inl (A 3)) := hq9.ea 3 (by decide) (by decide)
        have e9 : f1 (ad 9) = .inl (cs 0, 12, .inl (A 9)) := hq9.ea 9 (by decide) (by decide)
        have e10 : f1 (ad 10) = .inl (cs 3, 12, .inr (.inl (Bq 10))) := hq9.ea 10 (by decide) (by decide)
        have e12 : f1 (ad 12) = .inl (cs 0, 12, .inl (A 12)) := hq9.ea 12 (by decide) (by decide)
        refine lv_iconst (v := 0) hx hb dX4_print_96 (by decide) ?_
        refine lv_istore_n (lv' := [(3, .int 0), (0, .ref (ad 0)), (1, .int (nI i)), (2, .int k_)]) hx hb dX4_print_97 rfl hl (by decide) rfl (fun ls hl => ?_)
        have eH : P9 = sR_puts (k_, -1) (tR_head t A Bq i) := by
          unfold tR_head tx_head
          rw [sR_puts_app, sR_puts_app, sR_puts_app, sR_puts_app, eP9, eP8, eP7, eP6, eP5, eP4, eP3, eP2, eP1]
          rfl
        refine pc_loop (σ := Nat × (Nat → va_E) × sR_P) (nL := 4) (fun x => nM - x.1) (fun x => x.1 ≤ nM ∧ RS cs L x.2.1 ad t lm nN nM x.2.2.1 x.2.2.2 A Bq ∧ x.2.2 = sR_puts (k_, -1) (tR_head t A Bq i ++ tR_moves A Bq (nI i) x.1)) (fun x => (L, x.2.1)) (fun x => [(3, .int (nI x.1)), (0, .ref (ad 0)), (1, .int (nI i)), (2, .int k_)]) ?_ (0, f1, P9) ⟨Nat.zero_le _, hq9, by rw [eH]; show _ = sR_puts (k_, -1) (tR_head t A Bq i ++ []); rw [List.append_nil]⟩ hP hD hS ls (lv_sub hl [0, 1, 2, 3] rfl)
        rintro ⟨k, fq, P0⟩ ⟨hk, hq, eP0⟩ ih H locs ls hP hD hS hl
        have hk : k ≤ nM := hk
        have hq : RS cs L fq ad t lm nN nM P0.1 P0.2 A Bq := hq
        have eP0 : P0 = sR_puts (k_, -1) (tR_head t A Bq i ++ tR_moves A Bq (nI i) k) := eP0
        have e0 := hq.e0
        have e1 : fq (ad 1) = .inl (cs 3, 6, .inr (.inl (Bq 1))) := hq.ea 1 (by decide) (by decide)
        have e2 : fq (ad 2) = .inl (cs 0, 6, .inl (A 2)) := hq.ea 2 (by decide) (by decide)
        have e3 : fq (ad 3) = .inl (cs 0, 6, .inl (A 3)) := hq.ea 3 (by decide) (by decide)
        have e9 : fq (ad 9) = .inl (cs 0, 12, .inl (A 9)) := hq.ea 9 (by decide) (by decide)
        have e10 : fq (ad 10) = .inl (cs 3, 12, .inr (.inl (Bq 10))) := hq.ea 10 (by decide) (by decide)
        have e12 : fq (ad 12) = .inl (cs 0, 12, .inl (A 12)) := hq.ea 12 (by decide) (by decide)
        refine lv_iload_n hx hb dX4_print_98 rfl (lv_at hl 0 rfl) ?_
        refine lv_aload_n hx hb dX4_print_99 rfl (lv_at hl 1 rfl) ?_
        refine pw_get (ci := 4) (C := RX4) (T := TX4) (N := 23) hx hb hts inX4 hown hK hP m0 e0 rfl 10 (by decide) (hts _ mw_337) (fun _ h9 => h9) rfl dX4_print_100 ?_
        refine lv_icmp_ge (tgt := 163) hx hb dX4_print_103 (by decide) (fun c_103 => ?_) (fun c_103 => ?_)
        · have hk2 : k = nM := Nat.le_antisymm hk (nI_of_le c_103 (by omega))
          rw [hk2] at eP0
          refine lv_aload_n hx hb dX4_print_163 rfl (lv_at hl 1 rfl) ?_
          refine pw_get (ci := 4) (C := RX4) (T := TX4) (N := 23) hx hb hts inX4 hown hK hP m0 e0 rfl 22 (by decide) (hts _ mw_349) (fun _ h9 => h9) rfl dX4_print_164 ?_
          exact pc_reti hx hb hr hlocks hP hD hS dX4_print_167 ⟨rfl, by rw [eP0]; simp [sR_print, hxi, d_9], P0.1, P0.2, hq⟩
        · have hk2 : k < nM := nI_of_ge c_103 (by omega)
          refine lv_aload_n hx hb dX4_print_106 rfl (lv_at hl 1 rfl) ?_
          refine pw_get (ci := 4) (C := RX4) (T := TX4) (N := 23) hx hb hts inX4 hown hK hP m0 e0 rfl 11 (by decide) (hts _ mw_338) (fun _ h9 => h9) rfl dX4_print_107 ?_
          refine lv_iload_n hx hb dX4_print_110 rfl (lv_at hl 0 rfl) ?_
          refine pw_ialdN (k := k) hx hb hK hP m9 0 e9 rfl (by omega) (by decide) dX4_print_111 ?_
          refine lv_iload_n hx hb dX4_print_112 rfl (lv_at hl 2 rfl) ?_
          refine lv_icmp_ne (tgt := 157) hx hb dX4_print_113 (by decide) (fun c_113 => ?_) (fun c_113 => ?_)
          · obtain ⟨z_14, ez_14⟩ : ∃ z : Int32, z = (nI k) + 1 := ⟨_, rfl⟩
            refine lv_iinc (v := z_14) (lv' := [(3, .int z_14), (0, .ref (ad 0)), (1, .int (nI i)), (2, .int k_)]) hx hb dX4_print_157 hl (k := 0) rfl (by rw [ez_14]; rfl) (by decide) rfl (fun ls hl => ?_)
            refine lv_goto (tgt := 98) hx hb dX4_print_160 (by decide) ?_
            obtain rfl : z_14 = nI (k + 1) := by rw [ez_14]; exact nI_1 k
            have ePn : P0 = sR_puts (k_, -1) (tR_head t A Bq i ++ tR_moves A Bq (nI i) (k + 1)) := by
              have em : tR_moves A Bq (nI i) (k + 1) = tR_moves A Bq (nI i) k := by simp [tR_moves, c_113]
              rw [em, ← eP0]
            exact ih (k + 1, fq, P0) ⟨by show k + 1 ≤ nM; omega, hq, ePn⟩ (by show nM - (k + 1) < nM - k; omega) H locs ls hP hD hS (lv_sub hl [0, 1, 2, 3] rfl)
          · refine lv_aload_n hx hb dX4_print_116 rfl (lv_at hl 1 rfl) ?_
            refine lv_bipush (v := 44) hx hb dX4_print_117 (by decide) ?_
            refine pc_callVv (As := [.int 44]) (rest := []) ⟨hx, hb, hml, hown, hts⟩ (k_R_put l G cs L fq _ ad t lm nN nM P0.1 P0.2 A Bq 44 hq) (cwV 1 hts (wg_V mw_517 mw_519 ms_14 mw_3 mw_520) rfl rfl rfl (by decide +kernel) ⟨Nat.le_of_ble_eq_true rfl, Nat.le_of_ble_eq_true rfl⟩) hK hP hD hS hA m0 e0 rfl px_T (fun _ _ _ => trivial) rfl hl.1 rfl (lv_room (Nat.le_of_ble_eq_true rfl)) dX4_print_119 ⟨Nat.le_of_ble_eq_true rfl, Nat.le_of_ble_eq_true rfl⟩ (fun L1 f1 H locs hr_15 hP hD hS => ?_)
            obtain ⟨rfl, hq10⟩ := hr_15
            obtain ⟨P10, eP10⟩ : ∃ z : sR_P, z = sR_put P0 44 := ⟨_, rfl⟩
            have hq10 : RS cs L f1 ad t lm nN nM P10.1 P10.2 A Bq := by rw [eP10]; exact hq10
            have e0 := hq10.e0
            have e1 : f1 (ad 1) = .inl (cs 3, 6, .inr (.inl (Bq 1))) := hq10.ea 1 (by decide) (by decide)
            have e2 : f1 (ad 2) = .inl (cs 0, 6, .inl (A 2)) := hq10.ea 2 (by decide) (by decide)
            have e3 : f1 (ad 3) = .inl (cs 0, 6, .inl (A 3)) := hq10.ea 3 (by decide) (by decide)
            have e9 : f1 (ad 9) = .inl (cs 0, 12, .inl (A 9)) := hq10.ea 9 (by decide) (by decide)
            have e10 : f1 (ad 10) = .inl (cs 3, 12, .inr (.inl (Bq 10))) := hq10.ea 10 (by decide) (by decide)
            have e12 : f1 (ad 12) = .inl (cs 0, 12, .inl (A 12)) := hq10.ea 12 (by decide) (by decide)
            refine lv_aload_n hx hb dX4_print_122 rfl (lv_at hl 1 rfl) ?_
            refine lv_iload_n hx hb dX4_print_123 rfl (lv_at hl 0 rfl) ?_
            refine lv_i2l hx hb dX4_print_124 rfl ?_
            have en125 : (nI k).toInt64 = lN k := nI_l (by omega)
            rw [en125]
            refine pc_callVv (As := [.long (lN k)]) (rest := []) ⟨hx, hb, hml, hown, hts⟩ (k_R_num l G cs L f1 _ ad t lm nN nM P10.1 P10.2 A Bq k hq10 (by omega)) (cwV 1 hts (wg_V mw_510 mw_512 ms_13 mw_3 mw_513) rfl rfl rfl (by decide +kernel) ⟨Nat.le_of_ble_eq_true rfl, Nat.le_of_ble_eq_true rfl⟩) hK hP hD hS hA m0 e0 rfl px_T (fun _ _ _ => trivial) rfl hl.1 rfl (lv_room (Nat.le_of_ble_eq_true rfl)) dX4_print_125 ⟨Nat.le_of_ble_eq_true rfl, Nat.le_of_ble_eq_true rfl⟩ (fun L1 f1 H locs hr_16 hP hD hS => ?_)
            obtain ⟨rfl, hq11⟩ := hr_16
            obtain ⟨P11, eP11⟩ : ∃ z : sR_P, z = sR_puts P10 (tx_n k) := ⟨_, rfl⟩
            have hq11 : RS cs L f1 ad t lm nN nM P11.1 P11.2 A Bq := by rw [eP11]; exact hq11
            have e0 := hq11.e0
            have e1 : f1 (ad 1) = .inl (cs 3, 6, .inr (.inl (Bq 1))) := hq11.ea 1 (by decide) (by decide)
            have e2 : f1 (ad 2) = .inl (cs 0, 6, .inl (A 2)) := hq11.ea 2 (by decide) (by decide)
            have e3 : f1 (ad 3) = .inl (cs 0, 6, .inl (A 3)) := hq11.ea 3 (by decide) (by decide)
            have e9 : f1 (ad 9) = .inl (cs 0, 12, .inl (A 9)) := hq11.ea 9 (by decide) (by decide)
            have e10 : f1 (ad 10) = .inl (cs 3, 12, .inr (.inl (Bq 10))) := hq11.ea 10 (by decide) (by decide)
            have e12 : f1 (ad 12) = .inl (cs 0, 12, .inl (A 12)) := hq11.ea 12 (by decide) (by decide)
            refine lv_aload_n hx hb dX4_print_128 rfl (lv_at hl 1 rfl) ?_
            refine lv_bipush (v := 58) hx hb dX4_print_129 (by decide) ?_
            refine pc_callVv (As := [.int 58]) (rest := []) ⟨hx, hb, hml, hown, hts⟩ (k_R_put l G cs L f1 _ ad t lm nN nM P11.1 P11.2 A Bq 58 hq11) (cwV 1 hts (wg_V mw_517 mw_519 ms_14 mw_3 mw_520) rfl rfl rfl (by decide +kernel) ⟨Nat.le_of_ble_eq_true rfl, Nat.le_of_ble_eq_true rfl⟩) hK hP hD hS hA m0 e0 rfl px_T (fun _ _ _ => trivial) rfl hl.1 rfl (lv_room (Nat.le_of_ble_eq_true rfl)) dX4_print_131 ⟨Nat.le_of_ble_eq_true rfl, Nat.le_of_ble_eq_true rfl⟩ (fun L1 f1 H locs hr_17 hP hD hS => ?_)
            obtain ⟨rfl, hq12⟩ := hr_17
            obtain ⟨P12, eP12⟩ : ∃ z : sR_P, z = sR_put P11 58 := ⟨_, rfl⟩
            have hq12 : RS cs L f1 ad t lm nN nM P12.1 P12.2 A Bq := by rw [eP12]; exact hq12
            have e0 := hq12.e0
            have e1 : f1 (ad 1) = .inl (cs 3, 6, .inr (.inl (Bq 1))) := hq12.ea 1 (by decide) (by decide)
            have e2 : f1 (ad 2) = .inl (cs 0, 6, .inl (A 2)) := hq12.ea 2 (by decide) (by decide)
            have e3 : f1 (ad 3) = .inl (cs 0, 6, .inl (A 3)) := hq12.ea 3 (by decide) (by decide)
            have e9 : f1 (ad 9) = .inl (cs 0, 12, .inl (A 9)) := hq12.ea 9 (by decide) (by decide)
            have e10 : f1 (ad 10) = .inl (cs 3, 12, .inr (.inl (Bq 10))) := hq12.ea 10 (by decide) (by decide)
            have e12 : f1 (ad 12) = .inl (cs 0, 12, .inl (A 12)) := hq12.ea 12 (by decide) (by decide)
            refine lv_aload_n hx hb dX4_print_134 rfl (lv_at hl 1 rfl) ?_
            refine lv_aload_n hx hb dX4_print_135 rfl (lv_at hl 1 rfl) ?_
            refine pw_get (ci := 4) (C := RX4) (T := TX4) (N := 23) hx hb hts inX4 hown hK hP m0 e0 rfl 12 (by decide) (hts _ mw_339) (fun _ h9 => h9) rfl dX4_print_136 ?_
            refine lv_iload_n hx hb dX4_print_139 rfl (lv_at hl 0 rfl) ?_
            refine pw_laldN (k := k) hx hb hK hP m10 3 e10 rfl (by omega) (by decide) dX4_print_140 ?_
            have en141 : (Bq 10) k = lN ((Bq 10 k).toNatClampNeg) := (hpm k hk2).1
            rw [en141]
            refine pc_callVv (As := [.long (lN ((Bq 10 k).toNatClampNeg))]) (rest := []) ⟨hx, hb, hml, hown, hts⟩ (k_R_num l G cs L f1 _ ad t lm nN nM P12.1 P12.2 A Bq ((Bq 10 k).toNatClampNeg) hq12 (hpm k hk2).2.1) (cwV 1 hts (wg_V mw_510 mw_512 ms_13 mw_3 mw_513) rfl rfl rfl (by decide +kernel) ⟨Nat.le_of_ble_eq_true rfl, Nat.le_of_ble_eq_true rfl⟩) hK hP hD hS hA m0 e0 rfl px_T (fun _ _ _ => trivial) rfl hl.1 rfl (lv_room (Nat.le_of_ble_eq_true rfl)) dX4_print_141 ⟨Nat.le_of_ble_eq_true rfl, Nat.le_of_ble_eq_true rfl⟩ (fun L1 f1 H locs hr_18 hP hD hS => ?_)
            obtain ⟨rfl, hq13⟩ := hr_18
            obtain ⟨P13, eP13⟩ : ∃ z : sR_P, z = sR_puts P12 (tx_n ((Bq 10 k).toNatClampNeg)) := ⟨_, rfl⟩
            have hq13 : RS cs L f1 ad t lm nN nM P13.1 P13.2 A Bq := by rw [eP13]; exact hq13
            have e0 := hq13.e0
            have e1 : f1 (ad 1) = .inl (cs 3, 6, .inr (.inl (Bq 1))) := hq13.ea 1 (by decide) (by decide)
            have e2 : f1 (ad 2) = .inl (cs 0, 6, .inl (A 2)) := hq13.ea 2 (by decide) (by decide)
            have e3 : f1 (ad 3) = .inl (cs 0, 6, .inl (A 3)) := hq13.ea 3 (by decide) (by decide)
            have e9 : f1 (ad 9) = .inl (cs 0, 12, .inl (A 9)) := hq13.ea 9 (by decide) (by decide)
            have e10 : f1 (ad 10) = .inl (cs 3, 12, .inr (.inl (Bq 10))) := hq13.ea 10 (by decide) (by decide)
            have e12 : f1 (ad 12) = .inl (cs 0, 12, .inl (A 12)) := hq13.ea 12 (by decide) (by decide)
            refine lv_aload_n hx hb dX4_print_144 rfl (lv_at hl 1 rfl) ?_
            refine lv_aload_n hx hb dX4_print_145 rfl (lv_at hl 1 rfl) ?_
            refine pw_get (ci := 4) (C := RX4) (T := TX4) (N := 23) hx hb hts inX4 hown hK hP m0 e0 rfl 14 (by decide) (hts _ mw_341) (fun _ h9 => h9) rfl dX4_print_146 ?_
            refine lv_iload_n hx hb dX4_print_149 rfl (lv_at hl 0 rfl) ?_
            refine pw_ialdN (k := k) hx hb hK hP m12 0 e12 rfl (by omega) (by decide) dX4_print_150 ?_
            obtain ⟨s1, hs1, es1⟩ := (hpm k hk2).2.2
            rw [es1]
            refine pr_callSi (As := [.int (nI s1)]) (rest := [.ref (ad 0)]) ⟨hx, hb, hml, hown, hts⟩ (k_R_let l G cs L f1 s1 hs1) (cwS 1 hts (wg_S mw_521 mw_522 mw_3 mw_523) rfl rfl rfl (by decide +kernel) ⟨Nat.le_of_ble_eq_true rfl, Nat.le_of_ble_eq_true rfl⟩) hK hP px_T (fun _ _ _ => trivial) rfl hl.1 rfl (lv_room (Nat.le_of_ble_eq_true rfl)) dX4_print_151 ⟨Nat.le_of_ble_eq_true rfl, Nat.le_of_ble_eq_true rfl⟩ (fun r_19 hr_19 => ?_)
            subst hr_19
            refine pc_callVv (As := [.int (sR_let (nI s1))]) (rest := []) ⟨hx, hb, hml, hown, hts⟩ (k_R_put l G cs L f1 _ ad t lm nN nM P13.1 P13.2 A Bq (sR_let (nI s1)) hq13) (cwV 1 hts (wg_V mw_517 mw_519 ms_14 mw_3 mw_520) rfl rfl rfl (by decide +kernel) ⟨Nat.le_of_ble_eq_true rfl, Nat.le_of_ble_eq_true rfl⟩) hK hP hD hS hA m0 e0 rfl px_T (fun _ _ _ => trivial) rfl hl.1 rfl (lv_room (Nat.le_of_ble_eq_true rfl)) dX4_print_154 ⟨Nat.le_of_ble_eq_true rfl, Nat.le_of_ble_eq_true rfl⟩ (fun L1 f1 H locs hr_20 hP hD hS => ?_)
            obtain ⟨rfl, hq14⟩ := hr_20
            obtain ⟨P14, eP14⟩ : ∃ z : sR_P, z = sR_put P13 (sR_let (nI s1)) := ⟨_, rfl⟩
            have hq14 : RS cs L f1 ad t lm nN nM P14.1 P14.2 A Bq := by rw [eP14]; exact hq14
            have e0 := hq14.e0
            have e1 : f1 (ad 1) = .inl (cs 3, 6, .inr (.inl (Bq 1))) := hq14.ea 1 (by decide) (by decide)
            have e2 : f1 (ad 2) = .inl (cs 0, 6, .inl (A 2)) := hq14.ea 2 (by decide) (by decide)
            have e3 : f1 (ad 3) = .inl (cs 0, 6, .inl (A 3)) := hq14.ea 3 (by decide) (by decide)
            have e9 : f1 (ad 9) = .inl (cs 0, 12, .inl (A 9)) := hq14.ea 9 (by decide) (by decide)
            have e10 : f1 (ad 10) = .inl (cs 3, 12, .inr (.inl (Bq 10))) := hq14.ea 10 (by decide) (by decide)
            have e12 : f1 (ad 12) = .inl (cs 0, 12, .inl (A 12)) := hq14.ea 12 (by decide) (by decide)
            obtain ⟨z_21, ez_21⟩ : ∃ z : Int32, z = (nI k) + 1 := ⟨_, rfl⟩
            refine lv_iinc (v := z_21) (lv' := [(3, .int z_21), (0, .ref (ad 0)), (1, .int (nI i)), (2, .int k_)]) hx hb dX4_print_157 hl (k := 0) rfl (by rw [ez_21]; rfl) (by decide) rfl (fun ls hl => ?_)
            refine lv_goto (tgt := 98) hx hb dX4_print_160 (by decide) ?_
            obtain rfl : z_21 = nI (k + 1) := by rw [ez_21]; exact nI_1 k
            have ePn : P14 = sR_puts (k_, -1) (tR_head t A Bq i ++ tR_moves A Bq (nI i) (k + 1)) := by
              have em : tR_moves A Bq (nI i) (k + 1) = tR_moves A Bq (nI i) k ++ tx_move k (Bq 10 k).toNatClampNeg (sR_let (A 12 k)) := by simp [tR_moves, c_113]
              rw [em, ← List.append_assoc, sR_puts_app, ← eP0, es1]
              unfold tx_move
              rw [sR_puts_app, sR_puts_app, eP14, eP13, eP12, eP11, eP10]
              rfl
            exact ih (k + 1, f1, P14) ⟨by show k + 1 ≤ nM; omega, hq14, ePn⟩ (by show nM - (k + 1) < nM - k; omega) H locs ls hP hD hS (lv_sub hl [0, 1, 2, 3] rfl)
      · have d_9 : k_ < 0 := Int32.not_le.mp c_9
        refine lv_iconst (v := (-1)) hx hb dX4_print_12 (by decide) ?_
        exact pc_reti hx hb hr hlocks hP hD hS dX4_print_13 ⟨rfl, by simp [sR_print, hxi, d_9], rs, lk, h0⟩
