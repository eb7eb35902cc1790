/-! TWO POOLS side by side, the class's and the reference's: a call changes one of them -/
def L2P (D : va_G) (cl : List vw_C) (A : Nat → Prop) (L1 : List Nat) (f1 : Nat → va_E) (L2 : List Nat) (f2 : Nat → va_E) (H : Heap) : Prop := (va_P D cl (va_pl L1 f1) H ∧ va_D A (va_pl L1 f1)) ∧ (va_P D cl (va_pl L2 f2) H ∧ va_D A (va_pl L2 f2)) ∧ ∀ a ∈ L2, a ∉ L1
section LWR
variable {p : Program} {l : Launch} {e : Env} {R : Room} {s : State} {m : MethodId} {args : Array Value} {below : List Frame} {meth : Method} {c : Code} {H : Heap} {locs : List Loc} {cells slots : Nat} {Q : State → Prop}
variable {cc : ByteArray} {pc : Nat} {ls : Array Slot} {rest st0 : List Value} {D : va_G} {cl : List vw_C} {A : Nat → Prop} {tys : List (ClassId × FieldType)} {H0 : Heap} {L1 L2 : List Nat} {f1 f2 : Nat → va_E} {X : State → Prop}
variable {y : MethodName} {bytes : ByteArray} {maxL nL mc ms n index ci : Nat} {ret : Option FieldType} {ws : List Cond} {rm : Room} {Ts : List Cond} {own C : String} {T : u_T} {N : Nat} {fs : List Value} {b : Nat} {As : List Value}
theorem L2P.swap (h : L2P D cl A L1 f1 L2 f2 H) : L2P D cl A L2 f2 L1 f1 H := ⟨h.2.1, h.1, fun a h1 h2 => h.2.2 a h2 h1⟩
theorem pw_lt {L : List Nat} {f : Nat → va_E} {a : Nat} (hP : va_P D cl (va_pl L f) H) (h : a ∈ L) : a < H.size := by
  obtain ⟨k, hk⟩ := pw_at (f := f) h
  exact (hP k _ hk).lt
theorem pw_in {L : List Nat} {f : Nat → va_E} {k : Nat} {q : Nat × va_E} (hk : (va_pl L f)[k]? = some q) : q.1 ∈ L := by
  obtain ⟨z, hz, he⟩ := List.mem_map.mp (List.mem_of_getElem? hk)
  rw [← he]
  exact hz
/-- after a call that wrote the first pool and fresh cells alone -/
theorem L2P.next {H1 : Heap} {L1' : List Nat} {f1' : Nat → va_E} (h : L2P D cl A L1 f1 L2 f2 H) (hk : ∀ q : Nat, q < H.size → ¬ pw_A L1 H.size q → H1[q]? = H[q]?) (hP1 : va_P D cl (va_pl L1' f1') H1) (hD1 : va_D (pw_A L1 H.size) (va_pl L1' f1')) (hF : ∀ q, pw_A L1 H.size q → A q) : L2P D cl A L1' f1' L2 f2 H1 := by
  obtain ⟨⟨a1, a2⟩, ⟨b1, b2⟩, hd⟩ := h
  have out : ∀ a ∈ L2, ¬ pw_A L1 H.size a := fun a ha z => z.elim (hd a ha) (fun z => absurd (pw_lt b1 ha) (Nat.not_lt.mpr z))
  refine ⟨⟨hP1, hD1.weaken (fun k q _ h => hF q.1 h)⟩, ⟨b1.kept (fun k q hq => hk q.1 (pw_lt b1 (pw_in hq)) (out _ (pw_in hq))), b2⟩, fun a ha h1 => ?_⟩
  obtain ⟨k, hk1⟩ := pw_at (f := f1') h1
  exact out a ha (hD1.2 k _ hk1)
theorem pl_callVi {post : Int32 → pw_M → Prop} (S : CallFix p m c cc nL s args Ts own) (hM : Met l y ws rm (pc_P (.ref b :: As) D cl tys L1 f1 H.size X) (va_Qi post (pc_B D cl L1 H.size) (pw_A L1 H.size)) mc ms (pw_A L1 H.size)) (cw : CallW R s args own C index y bytes maxL ret ws rm mc ms n) (hK : va_K D cl tys s) (h2 : L2P D cl A L1 f1 L2 f2 H) (hS : va_S A H0 H locs) (hA : ∀ q, H0.size ≤ q → A q) (hm : b ∈ L1) (he : f1 b = .inr (ci, fs)) (hc : cl[ci]? = some (C, T, N)) (hX : px_b X) (hXc : ∀ U : State, U.heap = H → s.WarmedH U.vm → X U)
    (hn : As.length = n) (hsize : ls.size = nL) (hst : st0 = As.reverse ++ .ref b :: rest) (hW : 2 * (F0 m pc ls st0).monitorRoom + (rest.map fun v => v.category).sum ≤ 8) (hdg : decode cc pc = .ok (.invokevirtual index, 3)) (hf : cells + mc ≤ R.cells ∧ slots + ms ≤ R.slots)
    (kk : ∀ (r : Int32) (L1' : List Nat) (f1' : Nat → va_E) (H1 : Heap) (locs1 : List Loc), post r (L1', f1') → L2P D cl A L1' f1' L2 f2 H1 → va_S A H0 H1 locs1 → W p l e R s m args below meth c H1 locs1 (cells + mc) (slots + ms) Q (F0 m (pc + 3) ls (.int r :: rest))) : W p l e R s m args below meth c H locs cells slots Q (F0 m pc ls st0) := by
  have hF := pw_free h2.1.2 hS hA
  refine va_calli (va_runV S hM cw (pc_preV hK h2.1.1 h2.1.2 hm he hc hX hXc) rfl hn hsize hst hW hdg hf) hS (fun q _ h => hF q h) hF (fun r u t H1 locs1 ht hvm hp hB hz hk hS1 => ?_)
  obtain ⟨L1', f1'⟩ := u
  exact kk r L1' f1' H1 locs1 hp (h2.next hk (by rw [← ht]; exact hB.1) hB.2 hF) hS1
theorem pl_callI {post : pw_M → Prop} (S : CallFix p m c cc nL s args Ts own) (hM : Met l y ws rm (pc_P (.ref b :: As) D cl tys L1 f1 H.size X) (va_Qv post (pc_B D cl L1 H.size) (pw_A L1 H.size)) mc ms (pw_A L1 H.size)) (cw : CallB R s args own index y bytes maxL none ws rm mc ms n ∧ y.name = "<init>" ∧ (Cond.instanceMethod y).before args s = true) (hK : va_K D cl tys s) (h2 : L2P D cl A L1 f1 L2 f2 H) (hS : va_S A H0 H locs) (hA : ∀ q, H0.size ≤ q → A q) (hX : px_b X) (hXc : ∀ U : State, U.heap = H → s.WarmedH U.vm → X U)
    (hn : As.length = n) (hsize : ls.size = nL) (hst : st0 = As.reverse ++ .ref b :: rest) (hW : 2 * (F0 m pc ls st0).monitorRoom + (rest.map fun v => v.category).sum ≤ 8) (hdg : decode cc pc = .ok (.invokespecial index, 3)) (hf : cells + mc ≤ R.cells ∧ slots + ms ≤ R.slots)
    (kk : ∀ (L1' : List Nat) (f1' : Nat → va_E) (H1 : Heap) (locs1 : List Loc), post (L1', f1') → L2P D cl A L1' f1' L2 f2 H1 → va_S A H0 H1 locs1 → W p l e R s m args below meth c H1 locs1 (cells + mc) (slots + ms) Q (F0 m (pc + 3) ls rest)) : W p l e R s m args below meth c H locs cells slots Q (F0 m pc ls st0) := by
  have hF := pw_free h2.1.2 hS hA
  refine va_callv (va_runI S hM cw (pc_preS hK h2.1.1 h2.1.2 hX hXc) rfl hn hsize hst hW hdg hf) hS (fun q _ h => hF q h) hF (fun u t H1 locs1 ht hvm hp hB hz hk hS1 => ?_)
  obtain ⟨L1', f1'⟩ := u
  exact kk L1' f1' H1 locs1 hp (h2.next hk (by rw [← ht]; exact hB.1) hB.2 hF) hS1
/-- a new object into the second pool, which is empty -/
theorem L2P.fst {H : Heap} (hP : va_P D cl (va_pl L1 f1) H) (hD : va_D A (va_pl L1 f1)) : L2P D cl A L1 f1 [] f1 H := ⟨⟨hP, hD⟩, ⟨fun k q h => by simp [va_pl] at h, ⟨fun i j x z h => by simp [va_pl] at h, fun k q h => by simp [va_pl] at h⟩⟩, fun a ha => absurd ha (List.not_mem_nil)⟩
end LWR
