/-! CONTRACT FORMS over one pool: methods that only read (pr_), methods that write (pc_); X: what else they ask of the state -/
def pw_A (L : List Nat) (sz : Nat) : Nat → Prop := fun q => q ∈ L ∨ sz ≤ q
abbrev pw_M : Type := List Nat × (Nat → va_E)
def pr_P (av : List Value) (D : va_G) (cl : List vw_C) (tys : List (ClassId × FieldType)) (L : List Nat) (f : Nat → va_E) (X : State → Prop) : Array Value → State → Prop := va_Pc av (fun U => va_P D cl (va_pl L f) U.heap ∧ va_K D cl tys U ∧ X U)
def pc_P (av : List Value) (D : va_G) (cl : List vw_C) (tys : List (ClassId × FieldType)) (L : List Nat) (f : Nat → va_E) (sz : Nat) (X : State → Prop) : Array Value → State → Prop := va_Pc av (fun U => U.heap.size = sz ∧ va_P D cl (va_pl L f) U.heap ∧ va_K D cl tys U ∧ va_D (fun _ => True) (va_pl L f) ∧ X U)
def pc_B (D : va_G) (cl : List vw_C) (L : List Nat) (sz : Nat) (u : pw_M) (t : State) : Prop := va_P D cl (va_pl u.1 u.2) t.heap ∧ va_D (pw_A L sz) (va_pl u.1 u.2)
/-- X holds on when a call begins -/
def px_b (X : State → Prop) : Prop := ∀ (a : Array Value) (U : State) (g : JFrame) (mk : MethodId), X U → X (U.calling g mk a)
theorem px_T : px_b (fun _ => True) := fun _ _ _ _ _ => trivial
section PC
variable {p : Program} {l : Launch} {e : Env} {R : Room} {s : State} {m : MethodId} {args : Array Value} {below : List Frame} {meth : Method} {c : Code} {H : Heap} {locs : List Loc} {cells slots : Nat} {Q : State → Prop}
variable {cc : ByteArray} {pc : Nat} {ls : Array Slot} {rest st0 : List Value} {D : va_G} {cl : List vw_C} {A : Nat → Prop} {tys : List (ClassId × FieldType)} {H0 : Heap} {L : List Nat} {f : Nat → va_E} {X : State → Prop}
variable {y : MethodName} {bytes : ByteArray} {maxL nL mc ms n index ci : Nat} {ret : Option FieldType} {ws : List Cond} {rm : Room} {Ts : List Cond} {own C : String} {T : u_T} {N : Nat} {fs : List Value} {b : Nat} {As : List Value}
theorem pr_blind {av : List Value} (hX : px_b X) : FrameBlind (pr_P av D cl tys L f X) := fun a U g mk q => ⟨q.1, q.2.1, va_K.moved (u := U) (U := U.calling g mk a) (Vm.Alike.refl U.vm) q.2.2.1, hX a U g mk q.2.2.2⟩
theorem pc_blind {av : List Value} {sz : Nat} (hX : px_b X) : FrameBlind (pc_P av D cl tys L f sz X) := fun a U g mk q => ⟨q.1, q.2.1, q.2.2.1, va_K.moved (u := U) (U := U.calling g mk a) (Vm.Alike.refl U.vm) q.2.2.2.1, q.2.2.2.2.1, hX a U g mk q.2.2.2.2.2⟩
theorem pr_preS (hK : va_K D cl tys s) (hP : va_P D cl (va_pl L f) H) (hX : px_b X) (hXc : ∀ U : State, U.heap = H → s.WarmedH U.vm → X U) : PreS s H (pr_P As D cl tys L f X) As :=
  ⟨pr_blind hX, fun U hU hW => ⟨rfl, by rw [hU]; exact hP, va_K.moved hW.alike hK, hXc U hU hW⟩⟩
theorem pr_preV (hK : va_K D cl tys s) (hP : va_P D cl (va_pl L f) H) (hm : b ∈ L) (he : f b = .inr (ci, fs)) (hc : cl[ci]? = some (C, T, N)) (hX : px_b X) (hXc : ∀ U : State, U.heap = H → s.WarmedH U.vm → X U) : PreV s H C b (pr_P (.ref b :: As) D cl tys L f X) As :=
  ⟨pr_blind hX, pw_recv hK hP hm he hc, fun U hU hW => ⟨rfl, by rw [hU]; exact hP, va_K.moved hW.alike hK, hXc U hU hW⟩⟩
theorem pc_preS (hK : va_K D cl tys s) (hP : va_P D cl (va_pl L f) H) (hD : va_D A (va_pl L f)) (hX : px_b X) (hXc : ∀ U : State, U.heap = H → s.WarmedH U.vm → X U) : PreS s H (pc_P As D cl tys L f H.size X) As :=
  ⟨pc_blind hX, fun U hU hW => ⟨rfl, by rw [hU], by rw [hU]; exact hP, va_K.moved hW.alike hK, hD.weaken (fun _ _ _ _ => trivial), hXc U hU hW⟩⟩
theorem pc_preV (hK : va_K D cl tys s) (hP : va_P D cl (va_pl L f) H) (hD : va_D A (va_pl L f)) (hm : b ∈ L) (he : f b = .inr (ci, fs)) (hc : cl[ci]? = some (C, T, N)) (hX : px_b X) (hXc : ∀ U : State, U.heap = H → s.WarmedH U.vm → X U) : PreV s H C b (pc_P (.ref b :: As) D cl tys L f H.size X) As :=
  ⟨pc_blind hX, pw_recv hK hP hm he hc, fun U hU hW => ⟨rfl, by rw [hU], by rw [hU]; exact hP, va_K.moved hW.alike hK, hD.weaken (fun _ _ _ _ => trivial), hXc U hU hW⟩⟩
theorem pw_free (hD : va_D A (va_pl L f)) (hS : va_S A H0 H locs) (hA : ∀ q, H0.size ≤ q → A q) : ∀ q, pw_A L H.size q → A q := by
  intro q hq
  rcases hq with hq | hq
  · obtain ⟨k, hk⟩ := pw_at (f := f) hq
    exact hD.2 k _ hk
  · exact hA q (Nat.le_trans hS.1 hq)
theorem pw_selfD {sz : Nat} (hD : va_D A (va_pl L f)) : va_D (pw_A L sz) (va_pl L f) := ⟨hD.1, fun k q hk => Or.inl (by
  have h := List.mem_of_getElem? hk
  obtain ⟨z, hz, he⟩ := List.mem_map.mp h
  rw [← he]
  exact hz)⟩
-- calls of methods that only read
theorem pr_callVi {post : Int32 → Prop} (S : CallFix p m c cc nL s args Ts own) (hM : Met l y ws rm (pr_P (.ref b :: As) D cl tys L f X) (vp_Si post) 0 0 (fun _ => False)) (cw : CallW R s args own C index y bytes maxL ret ws rm 0 0 n) (hK : va_K D cl tys s) (hP : va_P D cl (va_pl L f) H) (hm : b ∈ L) (he : f b = .inr (ci, fs)) (hc : cl[ci]? = some (C, T, N)) (hX : px_b X) (hXc : ∀ U : State, U.heap = H → s.WarmedH U.vm → X U)
    (hn : As.length = n) (hsize : ls.size = nL) (hst : st0 = As.reverse ++ .ref b :: rest) (hW : 2 * (F0 m pc ls st0).monitorRoom + (rest.map fun v => v.category).sum ≤ 8) (hdg : decode cc pc = .ok (.invokevirtual index, 3)) (hf : cells + 0 ≤ R.cells ∧ slots + 0 ≤ R.slots)
    (kk : ∀ r : Int32, post r → W p l e R s m args below meth c H locs cells slots Q (F0 m (pc + 3) ls (.int r :: rest))) : W p l e R s m args below meth c H locs cells slots Q (F0 m pc ls st0) :=
  vp_callSi (W.runV S hM cw (pr_preV hK hP hm he hc hX hXc) rfl hn hsize hst hW hdg hf) kk
theorem pr_callVl {post : Int64 → Prop} (S : CallFix p m c cc nL s args Ts own) (hM : Met l y ws rm (pr_P (.ref b :: As) D cl tys L f X) (vp_Sl post) 0 0 (fun _ => False)) (cw : CallW R s args own C index y bytes maxL ret ws rm 0 0 n) (hK : va_K D cl tys s) (hP : va_P D cl (va_pl L f) H) (hm : b ∈ L) (he : f b = .inr (ci, fs)) (hc : cl[ci]? = some (C, T, N)) (hX : px_b X) (hXc : ∀ U : State, U.heap = H → s.WarmedH U.vm → X U)
    (hn : As.length = n) (hsize : ls.size = nL) (hst : st0 = As.reverse ++ .ref b :: rest) (hW : 2 * (F0 m pc ls st0).monitorRoom + (rest.map fun v => v.category).sum ≤ 8) (hdg : decode cc pc = .ok (.invokevirtual index, 3)) (hf : cells + 0 ≤ R.cells ∧ slots + 0 ≤ R.slots)
    (kk : ∀ r : Int64, post r → W p l e R s m args below meth c H locs cells slots Q (F0 m (pc + 3) ls (.long r :: rest))) : W p l e R s m args below meth c H locs cells slots Q (F0 m pc ls st0) :=
  vp_callSl (W.runV S hM cw (pr_preV hK hP hm he hc hX hXc) rfl hn hsize hst hW hdg hf) kk
theorem pr_callVq {post : Option Nat → Prop} (S : CallFix p m c cc nL s args Ts own) (hM : Met l y ws rm (pr_P (.ref b :: As) D cl tys L f X) (va_Sq post) 0 0 (fun _ => False)) (cw : CallW R s args own C index y bytes maxL ret ws rm 0 0 n) (hK : va_K D cl tys s) (hP : va_P D cl (va_pl L f) H) (hm : b ∈ L) (he : f b = .inr (ci, fs)) (hc : cl[ci]? = some (C, T, N)) (hX : px_b X) (hXc : ∀ U : State, U.heap = H → s.WarmedH U.vm → X U)
    (hn : As.length = n) (hsize : ls.size = nL) (hst : st0 = As.reverse ++ .ref b :: rest) (hW : 2 * (F0 m pc ls st0).monitorRoom + (rest.map fun v => v.category).sum ≤ 8) (hdg : decode cc pc = .ok (.invokevirtual index, 3)) (hf : cells + 0 ≤ R.cells ∧ slots + 0 ≤ R.slots)
    (kk : ∀ r : Option Nat, post r → W p l e R s m args below meth c H locs cells slots Q (F0 m (pc + 3) ls (va_rf r :: rest))) : W p l e R s m args below meth c H locs cells slots Q (F0 m pc ls st0) :=
  va_csq (W.runV S hM cw (pr_preV hK hP hm he hc hX hXc) rfl hn hsize hst hW hdg hf) kk
theorem pr_callSi {post : Int32 → Prop} (S : CallFix p m c cc nL s args Ts own) (hM : Met l y ws rm (pr_P As D cl tys L f X) (vp_Si post) 0 0 (fun _ => False)) (cw : CallB R s args own index y bytes maxL ret ws rm 0 0 n ∧ (Cond.static y).before args s = true) (hK : va_K D cl tys s) (hP : va_P D cl (va_pl L f) H) (hX : px_b X) (hXc : ∀ U : State, U.heap = H → s.WarmedH U.vm → X U)
    (hn : As.length = n) (hsize : ls.size = nL) (hst : st0 = As.reverse ++ rest) (hW : 2 * (F0 m pc ls st0).monitorRoom + (rest.map fun v => v.category).sum ≤ 8) (hdg : decode cc pc = .ok (.invokestatic index, 3)) (hf : cells + 0 ≤ R.cells ∧ slots + 0 ≤ R.slots)
    (kk : ∀ r : Int32, post r → W p l e R s m args below meth c H locs cells slots Q (F0 m (pc + 3) ls (.int r :: rest))) : W p l e R s m args below meth c H locs cells slots Q (F0 m pc ls st0) :=
  vp_callSi (W.runS S hM cw (pr_preS hK hP hX hXc) rfl hn hsize hst hW hdg hf) kk
theorem pr_callSl {post : Int64 → Prop} (S : CallFix p m c cc nL s args Ts own) (hM : Met l y ws rm (pr_P As D cl tys L f X) (vp_Sl post) 0 0 (fun _ => False)) (cw : CallB R s args own index y bytes maxL ret ws rm 0 0 n ∧ (Cond.static y).before args s = true) (hK : va_K D cl tys s) (hP : va_P D cl (va_pl L f) H) (hX : px_b X) (hXc : ∀ U : State, U.heap = H → s.WarmedH U.vm → X U)
    (hn : As.length = n) (hsize : ls.size = nL) (hst : st0 = As.reverse ++ rest) (hW : 2 * (F0 m pc ls st0).monitorRoom + (rest.map fun v => v.category).sum ≤ 8) (hdg : decode cc pc = .ok (.invokestatic index, 3)) (hf : cells + 0 ≤ R.cells ∧ slots + 0 ≤ R.slots)
    (kk : ∀ r : Int64, post r → W p l e R s m args below meth c H locs cells slots Q (F0 m (pc + 3) ls (.long r :: rest))) : W p l e R s m args below meth c H locs cells slots Q (F0 m pc ls st0) :=
  vp_callSl (W.runS S hM cw (pr_preS hK hP hX hXc) rfl hn hsize hst hW hdg hf) kk
-- calls of methods that write
theorem pc_callVi {post : Int32 → pw_M → Prop} (S : CallFix p m c cc nL s args Ts own) (hM : Met l y ws rm (pc_P (.ref b :: As) D cl tys L f H.size X) (va_Qi post (pc_B D cl L H.size) (pw_A L H.size)) mc ms (pw_A L H.size)) (cw : CallW R s args own C index y bytes maxL ret ws rm mc ms n) (hK : va_K D cl tys s) (hP : va_P D cl (va_pl L f) H) (hD : va_D A (va_pl L f)) (hS : va_S A H0 H locs) (hA : ∀ q, H0.size ≤ q → A q) (hm : b ∈ L) (he : f b = .inr (ci, fs)) (hc : cl[ci]? = some (C, T, N)) (hX : px_b X) (hXc : ∀ U : State, U.heap = H → s.WarmedH U.vm → X U)
    (hn : As.length = n) (hsize : ls.size = nL) (hst : st0 = As.reverse ++ .ref b :: rest) (hW : 2 * (F0 m pc ls st0).monitorRoom + (rest.map fun v => v.category).sum ≤ 8) (hdg : decode cc pc = .ok (.invokevirtual index, 3)) (hf : cells + mc ≤ R.cells ∧ slots + ms ≤ R.slots)
    (kk : ∀ (r : Int32) (L1 : List Nat) (f1 : Nat → va_E) (H1 : Heap) (locs1 : List Loc), post r (L1, f1) → va_P D cl (va_pl L1 f1) H1 → va_D A (va_pl L1 f1) → va_S A H0 H1 locs1 → W p l e R s m args below meth c H1 locs1 (cells + mc) (slots + ms) Q (F0 m (pc + 3) ls (.int r :: rest))) : W p l e R s m args below meth c H locs cells slots Q (F0 m pc ls st0) := by
  have hF := pw_free hD hS hA
  refine va_calli (va_runV S hM cw (pc_preV hK hP hD hm he hc hX hXc) rfl hn hsize hst hW hdg hf) hS (fun q _ h => hF q h) hF (fun r u t H1 locs1 ht hvm hp hB hz hk hS1 => ?_)
  obtain ⟨L1, f1⟩ := u
  exact kk r L1 f1 H1 locs1 hp (by rw [← ht]; exact hB.1) (hB.2.weaken (fun k q _ h => hF q.1 h)) hS1
theorem pc_callVv {post : pw_M → Prop} (S : CallFix p m c cc nL s args Ts own) (hM : Met l y ws rm (pc_P (.ref b :: As) D cl tys L f H.size X) (va_Qv post (pc_B D cl L H.size) (pw_A L H.size)) mc ms (pw_A L H.size)) (cw : CallW R s args own C index y bytes maxL ret ws rm mc ms n) (hK : va_K D cl tys s) (hP : va_P D cl (va_pl L f) H) (hD : va_D A (va_pl L f)) (hS : va_S A H0 H locs) (hA : ∀ q, H0.size ≤ q → A q) (hm : b ∈ L) (he : f b = .inr (ci, fs)) (hc : cl[ci]? = some (C, T, N)) (hX : px_b X) (hXc : ∀ U : State, U.heap = H → s.WarmedH U.vm → X U)
    (hn : As.length = n) (hsize : ls.size = nL) (hst : st0 = As.reverse ++ .ref b :: rest) (hW : 2 * (F0 m pc ls st0).monitorRoom + (rest.map fun v => v.category).sum ≤ 8) (hdg : decode cc pc = .ok (.invokevirtual index, 3)) (hf : cells + mc ≤ R.cells ∧ slots + ms ≤ R.slots)
    (kk : ∀ (L1 : List Nat) (f1 : Nat → va_E) (H1 : Heap) (locs1 : List Loc), post (L1, f1) → va_P D cl (va_pl L1 f1) H1 → va_D A (va_pl L1 f1) → va_S A H0 H1 locs1 → W p l e R s m args below meth c H1 locs1 (cells + mc) (slots + ms) Q (F0 m (pc + 3) ls rest)) : W p l e R s m args below meth c H locs cells slots Q (F0 m pc ls st0) := by
  have hF := pw_free hD hS hA
  refine va_callv (va_runV S hM cw (pc_preV hK hP hD hm he hc hX hXc) rfl hn hsize hst hW hdg hf) hS (fun q _ h => hF q h) hF (fun u t H1 locs1 ht hvm hp hB hz hk hS1 => ?_)
  obtain ⟨L1, f1⟩ := u
  exact kk L1 f1 H1 locs1 hp (by rw [← ht]; exact hB.1) (hB.2.weaken (fun k q _ h => hF q.1 h)) hS1
theorem pc_callI {post : pw_M → Prop} (S : CallFix p m c cc nL s args Ts own) (hM : Met l y ws rm (pc_P (.ref b :: As) D cl tys L f H.size X) (va_Qv post (pc_B D cl L H.size) (pw_A L H.size)) mc ms (pw_A L H.size)) (cw : CallB R s args own index y bytes maxL none ws rm mc ms n ∧ y.name = "<init>" ∧ (Cond.instanceMethod y).before args s = true) (hK : va_K D cl tys s) (hP : va_P D cl (va_pl L f) H) (hD : va_D A (va_pl L f)) (hS : va_S A H0 H locs) (hA : ∀ q, H0.size ≤ q → A q) (hX : px_b X) (hXc : ∀ U : State, U.heap = H → s.WarmedH U.vm → X U)
    (hn : As.length = n) (hsize : ls.size = nL) (hst : st0 = As.reverse ++ .ref b :: rest) (hW : 2 * (F0 m pc ls st0).monitorRoom + (rest.map fun v => v.category).sum ≤ 8) (hdg : decode cc pc = .ok (.invokespecial index, 3)) (hf : cells + mc ≤ R.cells ∧ slots + ms ≤ R.slots)
    (kk : ∀ (L1 : List Nat) (f1 : Nat → va_E) (H1 : Heap) (locs1 : List Loc), post (L1, f1) → va_P D cl (va_pl L1 f1) H1 → va_D A (va_pl L1 f1) → va_S A H0 H1 locs1 → W p l e R s m args below meth c H1 locs1 (cells + mc) (slots + ms) Q (F0 m (pc + 3) ls rest)) : W p l e R s m args below meth c H locs cells slots Q (F0 m pc ls st0) := by
  have hF := pw_free hD hS hA
  refine va_callv (va_runI S hM cw (pc_preS hK hP hD hX hXc) rfl hn hsize hst hW hdg hf) hS (fun q _ h => hF q h) hF (fun u t H1 locs1 ht hvm hp hB hz hk hS1 => ?_)
  obtain ⟨L1, f1⟩ := u
  exact kk L1 f1 H1 locs1 hp (by rw [← ht]; exact hB.1) (hB.2.weaken (fun k q _ h => hF q.1 h)) hS1
-- ends
theorem pr_reti {post : Int32 → Prop} {v : Int32} (hexec : p.tables.exec = Jvm.exec) (hb : c.code = cc) (hr : meth.sig.returnType = some .int) (hlocks : meth.locks = false) (hdg : decode cc pc = .ok (.ireturn, 1)) (hp : post v) : W p l e R s m args below meth c s.heap [] cells slots (MQ below (vp_Si post) args s cells slots (fun _ => False)) (F0 m pc ls [.int v]) :=
  W.iret hexec hb hr (fun t ht _ => ⟨v, rfl, hp, ht⟩) (fun _ h => by cases h) hdg hlocks
theorem pr_retz {post : Int32 → Prop} {v : Int32} {ty : FieldType} (hexec : p.tables.exec = Jvm.exec) (hb : c.code = cc) (hr : meth.sig.returnType = some ty) (hn : narrow ty (.int v) = .int v) (hlocks : meth.locks = false) (hdg : decode cc pc = .ok (.ireturn, 1)) (hp : post v) : W p l e R s m args below meth c s.heap [] cells slots (MQ below (vp_Si post) args s cells slots (fun _ => False)) (F0 m pc ls [.int v]) :=
  W.zret hexec hb hr hn (fun t ht _ => ⟨v, rfl, hp, ht⟩) (fun _ h => by cases h) hdg hlocks
theorem pr_retl {post : Int64 → Prop} {v : Int64} (hexec : p.tables.exec = Jvm.exec) (hb : c.code = cc) (hr : meth.sig.returnType = some .long) (hlocks : meth.locks = false) (hdg : decode cc pc = .ok (.lreturn, 1)) (hp : post v) : W p l e R s m args below meth c s.heap [] cells slots (MQ below (vp_Sl post) args s cells slots (fun _ => False)) (F0 m pc ls [.long v]) :=
  W.lret hexec hb hr (fun t ht _ => ⟨v, rfl, hp, ht⟩) (fun _ h => by cases h) hdg hlocks
theorem pr_retq {post : Option Nat → Prop} {r : Option Nat} {C0 : String} (hexec : p.tables.exec = Jvm.exec) (hb : c.code = cc) (hr : meth.sig.returnType = some (.object C0)) (hlocks : meth.locks = false) (hdg : decode cc pc = .ok (.areturn, 1)) (hp : post r) : W p l e R s m args below meth c s.heap [] cells slots (MQ below (va_Sq post) args s cells slots (fun _ => False)) (F0 m pc ls [va_rf r]) :=
  W.aret hexec hb hr (Or.inl ⟨C0, rfl⟩) (va_rf_or r) (fun t ht _ => ⟨r, rfl, hp, ht⟩) (fun _ h => by cases h) hdg hlocks
theorem pc_reti {post : Int32 → pw_M → Prop} {v : Int32} {L0 : List Nat} {sz : Nat} (hexec : p.tables.exec = Jvm.exec) (hb : c.code = cc) (hr : meth.sig.returnType = some .int) (hlocks : meth.locks = false) (hP : va_P D cl (va_pl L f) H) (hD : va_D (pw_A L0 sz) (va_pl L f)) (hS : va_S (pw_A L0 sz) s.heap H locs) (hdg : decode cc pc = .ok (.ireturn, 1)) (hp : post v (L, f)) : W p l e R s m args below meth c H locs cells slots (MQ below (va_Qi post (pc_B D cl L0 sz) (pw_A L0 sz)) args s cells slots (pw_A L0 sz)) (F0 m pc ls [.int v]) :=
  W.iret hexec hb hr (fun t ht _ => ⟨⟨v, (L, f), rfl, hp, by rw [ht]; exact hP, hD⟩, hS.F ht⟩) hS.2.2 hdg hlocks
theorem pc_retz {post : Int32 → pw_M → Prop} {v : Int32} {ty : FieldType} {L0 : List Nat} {sz : Nat} (hexec : p.tables.exec = Jvm.exec) (hb : c.code = cc) (hr : meth.sig.returnType = some ty) (hn : narrow ty (.int v) = .int v) (hlocks : meth.locks = false) (hP : va_P D cl (va_pl L f) H) (hD : va_D (pw_A L0 sz) (va_pl L f)) (hS : va_S (pw_A L0 sz) s.heap H locs) (hdg : decode cc pc = .ok (.ireturn, 1)) (hp : post v (L, f)) : W p l e R s m args below meth c H locs cells slots (MQ below (va_Qi post (pc_B D cl L0 sz) (pw_A L0 sz)) args s cells slots (pw_A L0 sz)) (F0 m pc ls [.int v]) :=
  W.zret hexec hb hr hn (fun t ht _ => ⟨⟨v, (L, f), rfl, hp, by rw [ht]; exact hP, hD⟩, hS.F ht⟩) hS.2.2 hdg hlocks
theorem pc_retv {post : pw_M → Prop} {L0 : List Nat} {sz : Nat} (hexec : p.tables.exec = Jvm.exec) (hb : c.code = cc) (hr : meth.sig.returnType = none) (hlocks : meth.locks = false) (hP : va_P D cl (va_pl L f) H) (hD : va_D (pw_A L0 sz) (va_pl L f)) (hS : va_S (pw_A L0 sz) s.heap H locs) (hdg : decode cc pc = .ok (.return_, 1)) (hp : post (L, f)) : W p l e R s m args below meth c H locs cells slots (MQ below (va_Qv post (pc_B D cl L0 sz) (pw_A L0 sz)) args s cells slots (pw_A L0 sz)) (F0 m pc ls []) :=
  W.vret hexec hb hr (fun t ht _ => ⟨⟨(L, f), rfl, hp, by rw [ht]; exact hP, hD⟩, hS.F ht⟩) hS.2.2 hdg hlocks
end PC
section PL
variable {p : Program} {l : Launch} {e : Env} {R : Room} {s : State} {m : MethodId} {args : Array Value} {below : List Frame} {meth : Method} {c : Code} {H : Heap} {locs : List Loc} {cells slots : Nat} {Q : State → Prop} {D : va_G} {cl : List vw_C} {A : Nat → Prop} {H0 : Heap}
/-- a loop that only reads: at its head with the state x of the loop -/
theorem pr_loop {σ : Type} {nL head : Nat} (μ : σ → Nat) (I : σ → Prop) (lv : σ → List (Nat × Value))
    (step : ∀ x, I x → (∀ x', I x' → μ x' < μ x → ∀ ls, lv_has ls nL (lv x') → W p l e R s m args below meth c H locs cells slots Q (F0 m head ls [])) → ∀ ls, lv_has ls nL (lv x) → W p l e R s m args below meth c H locs cells slots Q (F0 m head ls []))
    (x : σ) (hx : I x) (ls : Array Slot) (hl : lv_has ls nL (lv x)) : W p l e R s m args below meth c H locs cells slots Q (F0 m head ls []) := by
  have key : ∀ (n : Nat) (x : σ), μ x < n → I x → ∀ ls, lv_has ls nL (lv x) → W p l e R s m args below meth c H locs cells slots Q (F0 m head ls []) := by
    intro n
    induction n with
    | zero => intro x h; exact absurd h (Nat.not_lt_zero _)
    | succ n ih => exact fun x h hI ls hl => step x hI (fun x' hI' hlt => ih x' (by omega) hI') ls hl
  exact key (μ x + 1) x (Nat.lt_succ_self _) hx ls hl
/-- a loop that writes: its state says what the pool is -/
theorem pc_loop {σ : Type} {nL head : Nat} (μ : σ → Nat) (I : σ → Prop) (w : σ → pw_M) (lv : σ → List (Nat × Value))
    (step : ∀ x, I x → (∀ x', I x' → μ x' < μ x → ∀ H locs ls, va_P D cl (va_pl (w x').1 (w x').2) H → va_D A (va_pl (w x').1 (w x').2) → va_S A H0 H locs → lv_has ls nL (lv x') → W p l e R s m args below meth c H locs cells slots Q (F0 m head ls [])) → ∀ H locs ls, va_P D cl (va_pl (w x).1 (w x).2) H → va_D A (va_pl (w x).1 (w x).2) → va_S A H0 H locs → lv_has ls nL (lv x) → W p l e R s m args below meth c H locs cells slots Q (F0 m head ls []))
    (x : σ) (hx : I x) (hP : va_P D cl (va_pl (w x).1 (w x).2) H) (hD : va_D A (va_pl (w x).1 (w x).2)) (hS : va_S A H0 H locs) (ls : Array Slot) (hl : lv_has ls nL (lv x)) : W p l e R s m args below meth c H locs cells slots Q (F0 m head ls []) := by
  have key : ∀ (n : Nat) (x : σ), μ x < n → I x → ∀ H locs ls, va_P D cl (va_pl (w x).1 (w x).2) H → va_D A (va_pl (w x).1 (w x).2) → va_S A H0 H locs → lv_has ls nL (lv x) → W p l e R s m args below meth c H locs cells slots Q (F0 m head ls []) := by
    intro n
    induction n with
    | zero => intro x h; exact absurd h (Nat.not_lt_zero _)
    | succ n ih => exact fun x h hI H locs ls hP hD hS hl => step x hI (fun x' hI' hlt => ih x' (by omega) hI') H locs ls hP hD hS hl
  exact key (μ x + 1) x (Nat.lt_succ_self _) hx H locs ls hP hD hS hl
end PL
