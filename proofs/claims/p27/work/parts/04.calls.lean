/-! A METHOD'S CONTRACT: from the store σ with these arguments it returns r and leaves the store σ2 -/
abbrev RM (f lc mc ms : Nat) : Room := { frames := f, cells := mc, slots := ms, locals := lc }
def PostI (G : GG) (B : Nat) (r : Int32) (σ2 : St) := va_Qi (fun (r9 : Int32) (u : St) => r9 = r ∧ u = σ2) (Hp G B) (Ab B)
def PostL (G : GG) (B : Nat) (r : Int64) (σ2 : St) := va_Ql (fun (r9 : Int64) (u : St) => r9 = r ∧ u = σ2) (Hp G B) (Ab B)
def PostD (G : GG) (B : Nat) (r : UInt64) (σ2 : St) := va_Qd (fun (r9 : UInt64) (u : St) => r9 = r ∧ u = σ2) (Hp G B) (Ab B)
def PostV (G : GG) (B : Nat) (σ2 : St) := va_Qv (fun (u : St) => u = σ2) (Hp G B) (Ab B)
def PostQ (G : GG) (B : Nat) (r : Option Nat) (σ2 : St) := va_Qq (fun (r9 : Option Nat) (u : St) => r9 = r.map (fun i => B + i) ∧ u = σ2) (Hp G B) (Ab B)
abbrev Ct (l : Launch) (G : GG) (B dy : Nat) (y : MethodName) (cc : ByteArray) (maxL : Nat) (ret : Option FieldType) (f lc mc ms : Nat) (As : List Value) (σ : St) (Qc : Array Value → State → Outcome → State → Prop) : Prop :=
  Met l y (wq y cc maxL ret) (RM f lc mc ms) (va_Pc As (Hk G B dy σ)) Qc mc ms (Ab B)

section JC
variable {G : GG} {B dy : Nat} {own : String} {cc : ByteArray} {nL : Nat} {p : Program} {l : Launch} {e : Env} {R : Room} {s : State} {m : MethodId} {args : Array Value} {below : List Frame} {meth : Method} {c : Code} {k n : Nat} {Q : State → Prop}
variable {pc : Nat} {lv : List (Nat × Value)} {st : List Value} {σ : St}

theorem Ct_of {y : MethodName} {maxL f lc mc ms : Nat} {ret : Option FieldType} {As : List Value} {Qc : Array Value → State → Outcome → State → Prop} (hy : plainName y.cls = true) (lv0 : List (Nat × Value)) (hlen : (lg_sl As).length ≤ maxL) (hlv : lv_args 0 As = lv0)
    (body : ∀ {p : Program} {e : Env} {s : State} {m : MethodId} {args : Array Value} {below : List Frame} {meth : Method} {c : Code}, Cx G B dy y.cls cc maxL p s m args c → meth.sig.returnType = ret → meth.locks = false → WW G B p l e (RM f lc mc ms) s m args below meth c 0 0 (MQ below Qc args s mc ms (Ab B)) maxL 0 lv0 [] σ) :
    Ct l G B dy y cc maxL ret f lc mc ms As σ Qc := by
  refine Met.ofW (cc := cc) (maxL := maxL) (ret := ret) hy rfl ?_
  intro p e s m args below meth c s₁ B9 hml hv
  obtain ⟨rfl, hP, hK, hX⟩ := hv
  have hts := atoms_spec (ws := wq y cc maxL ret) B9.pre
  have hB : B ≤ s.heap.size := by
    have h1 := (hP 0 _ (wl_get G B σ (i := 0) (by decide))).lt
    have h1 : B + 0 < s.heap.size := h1
    omega
  have C : Cx G B dy y.cls cc maxL p s m As.toArray c := ⟨B9.exec, B9.bytes, hml, findClass_of_methodNamed B9.named, fun w hw => hts w (List.mem_cons_of_mem _ hw), hK, hX, hB⟩
  rw [lg_entry_eq]
  refine body C B9.returns B9.notSynchronized s.heap [] _ hP va_S.rf ?_
  rw [← hlv]
  exact lv_entry As hlen

theorem j_iret (C : Cx G B dy own cc nL p s m args c) (hr : meth.sig.returnType = some .int) (hlk : meth.locks = false) {v r : Int32} {σ2 : St} {mc ms : Nat} (h : some (v, σ) = some (r, σ2)) (hk : k ≤ mc ∧ n ≤ ms) (d : decode cc pc = .ok (.ireturn, 1)) : WW G B p l e R s m args below meth c k n (MQ below (PostI G B r σ2) args s mc ms (Ab B)) nL pc lv [.int v] σ := by
  intro H locs ls hP hS hl
  have h := Option.some.inj h
  obtain ⟨rfl, rfl⟩ := Prod.mk.injEq .. ▸ h
  refine W.widen hk.1 hk.2 ?_
  exact W.iret C.1 C.2.1 hr (fun t ht _ => ⟨⟨v, σ, rfl, ⟨rfl, rfl⟩, by rw [Hp, ht]; exact hP⟩, hS.F ht⟩) hS.2.2 d hlk
theorem nz01 {v : Int32} (hv : v = 0 ∨ v = 1) : narrow .boolean (.int v) = .int v := by rcases hv with rfl | rfl <;> rfl
theorem j_zret (C : Cx G B dy own cc nL p s m args c) (hr : meth.sig.returnType = some .boolean) (hlk : meth.locks = false) {v r : Int32} {σ2 : St} {mc ms : Nat} (hv : v = 0 ∨ v = 1) (h : some (v, σ) = some (r, σ2)) (hk : k ≤ mc ∧ n ≤ ms) (d : decode cc pc = .ok (.ireturn, 1)) : WW G B p l e R s m args below meth c k n (MQ below (PostI G B r σ2) args s mc ms (Ab B)) nL pc lv [.int v] σ := by
  intro H locs ls hP hS hl
  have h := Option.some.inj h
  obtain ⟨rfl, rfl⟩ := Prod.mk.injEq .. ▸ h
  refine W.widen hk.1 hk.2 ?_
  exact W.zret C.1 C.2.1 hr (nz01 hv) (fun t ht _ => ⟨⟨v, σ, rfl, ⟨rfl, rfl⟩, by rw [Hp, ht]; exact hP⟩, hS.F ht⟩) hS.2.2 d hlk
theorem j_lret (C : Cx G B dy own cc nL p s m args c) (hr : meth.sig.returnType = some .long) (hlk : meth.locks = false) {v r : Int64} {σ2 : St} {mc ms : Nat} (h : some (v, σ) = some (r, σ2)) (hk : k ≤ mc ∧ n ≤ ms) (d : decode cc pc = .ok (.lreturn, 1)) : WW G B p l e R s m args below meth c k n (MQ below (PostL G B r σ2) args s mc ms (Ab B)) nL pc lv [.long v] σ := by
  intro H locs ls hP hS hl
  have h := Option.some.inj h
  obtain ⟨rfl, rfl⟩ := Prod.mk.injEq .. ▸ h
  refine W.widen hk.1 hk.2 ?_
  exact W.lret C.1 C.2.1 hr (fun t ht _ => ⟨⟨v, σ, rfl, ⟨rfl, rfl⟩, by rw [Hp, ht]; exact hP⟩, hS.F ht⟩) hS.2.2 d hlk
theorem j_dret (C : Cx G B dy own cc nL p s m args c) (hr : meth.sig.returnType = some .double) (hlk : meth.locks = false) {v r : UInt64} {σ2 : St} {mc ms : Nat} (h : some (v, σ) = some (r, σ2)) (hk : k ≤ mc ∧ n ≤ ms) (d : decode cc pc = .ok (.dreturn, 1)) : WW G B p l e R s m args below meth c k n (MQ below (PostD G B r σ2) args s mc ms (Ab B)) nL pc lv [.double v] σ := by
  intro H locs ls hP hS hl
  have h := Option.some.inj h
  obtain ⟨rfl, rfl⟩ := Prod.mk.injEq .. ▸ h
  refine W.widen hk.1 hk.2 ?_
  exact W.dret C.1 C.2.1 hr (fun t ht _ => ⟨⟨v, σ, rfl, ⟨rfl, rfl⟩, by rw [Hp, ht]; exact hP⟩, hS.F ht⟩) hS.2.2 d hlk
theorem j_vret (C : Cx G B dy own cc nL p s m args c) (hr : meth.sig.returnType = none) (hlk : meth.locks = false) {σ2 : St} {mc ms : Nat} (h : some σ = some σ2) (hk : k ≤ mc ∧ n ≤ ms) (d : decode cc pc = .ok (.return_, 1)) : WW G B p l e R s m args below meth c k n (MQ below (PostV G B σ2) args s mc ms (Ab B)) nL pc lv [] σ := by
  intro H locs ls hP hS hl
  obtain rfl := Option.some.inj h
  refine W.widen hk.1 hk.2 ?_
  exact W.vret C.1 C.2.1 hr (fun t ht _ => ⟨⟨σ, rfl, rfl, by rw [Hp, ht]; exact hP⟩, hS.F ht⟩) hS.2.2 d hlk
theorem j_aret (C : Cx G B dy own cc nL p s m args c) {tn : String} (hr : meth.sig.returnType = some (.object tn)) (hlk : meth.locks = false) {i : Nat} {r : Option Nat} {σ2 : St} {mc ms : Nat} (h : some (some i, σ) = some (r, σ2)) (hk : k ≤ mc ∧ n ≤ ms) (d : decode cc pc = .ok (.areturn, 1)) : WW G B p l e R s m args below meth c k n (MQ below (PostQ G B r σ2) args s mc ms (Ab B)) nL pc lv [.ref (B + i)] σ := by
  intro H locs ls hP hS hl
  have h := Option.some.inj h
  obtain ⟨rfl, rfl⟩ := Prod.mk.injEq .. ▸ h
  refine W.widen hk.1 hk.2 ?_
  exact W.aret C.1 C.2.1 hr (Or.inl ⟨_, rfl⟩) (Or.inr ⟨_, rfl⟩) (fun t ht _ => ⟨⟨some (B + i), σ, rfl, ⟨rfl, rfl⟩, by rw [Hp, ht]; exact hP⟩, hS.F ht⟩) hS.2.2 d hlk
theorem j_aretN (C : Cx G B dy own cc nL p s m args c) {tn : String} (hr : meth.sig.returnType = some (.object tn)) (hlk : meth.locks = false) {r : Option Nat} {σ2 : St} {mc ms : Nat} (h : some (none, σ) = some (r, σ2)) (hk : k ≤ mc ∧ n ≤ ms) (d : decode cc pc = .ok (.areturn, 1)) : WW G B p l e R s m args below meth c k n (MQ below (PostQ G B r σ2) args s mc ms (Ab B)) nL pc lv [.null] σ := by
  intro H locs ls hP hS hl
  have h := Option.some.inj h
  obtain ⟨rfl, rfl⟩ := Prod.mk.injEq .. ▸ h
  refine W.widen hk.1 hk.2 ?_
  exact W.aret C.1 C.2.1 hr (Or.inl ⟨_, rfl⟩) (Or.inl rfl) (fun t ht _ => ⟨⟨none, σ, rfl, ⟨rfl, rfl⟩, by rw [Hp, ht]; exact hP⟩, hS.F ht⟩) hS.2.2 d hlk
theorem pre_of (C : Cx G B dy own cc nL p s m args c) {H : Heap} {locs : List Loc} {As : List Value} (hP : va_P G.1 vwCl (wl G B σ) H) (hS : va_S (Ab B) s.heap H locs) : ∀ U : State, U.heap = H → s.WarmedH U.vm → va_Pc As (Hk G B dy σ) As.toArray U :=
  fun U hU hW => ⟨rfl, by rw [hU]; exact hP, va_K.moved hW.alike C.2.2.2.2.2.1, C.2.2.2.2.2.2.1.carry C.2.2.2.2.2.2.2 hS hU hW⟩
theorem hA_of (C : Cx G B dy own cc nL p s m args c) {H : Heap} {locs : List Loc} (hS : va_S (Ab B) s.heap H locs) : ∀ q : Nat, q < H.size → Ab B q → Ab B q := fun _ _ h => h
theorem call_ws0 {y : MethodName} {cb : ByteArray} {maxL : Nat} {ret : Option FieldType} (w4 : Cond.code y cb maxL ret ∈ TG) : ∀ w ∈ wq y cb maxL ret, w ∈ TG := fun w hw => (List.mem_cons.mp hw).elim (fun h => h ▸ w4) id
theorem call_ws3 {own : String} {index : Nat} {y : MethodName} {cb : ByteArray} {maxL : Nat} {ret : Option FieldType} (w1 : Cond.methodLink own index y ∈ TG) (w2 : Cond.static y ∈ TG) (w3 : Cond.initialized own ∈ TG) (w4 : Cond.code y cb maxL ret ∈ TG) : ∀ w ∈ wsS own index y (wq y cb maxL ret), w ∈ TG := by
  intro w hw
  rcases List.mem_append.mp hw with h | h
  · simp only [List.mem_cons, List.not_mem_nil, or_false] at h
    rcases h with rfl | rfl | rfl
    · exact w1
    · exact w2
    · exact w3
  · exact call_ws0 w4 w h
theorem call_ws4 {own : String} {index : Nat} {y : MethodName} {cb : ByteArray} {maxL : Nat} {ret : Option FieldType} (w1 : Cond.methodLink own index y ∈ TG) (w2 : Cond.instanceMethod y ∈ TG) (w5 : Cond.selects y.cls y y ∈ TG) (w3 : Cond.initialized y.cls ∈ TG) (w4 : Cond.code y cb maxL ret ∈ TG) : ∀ w ∈ wsV own index y.cls y (wq y cb maxL ret), w ∈ TG := by
  intro w hw
  rcases List.mem_append.mp hw with h | h
  · simp only [List.mem_cons, List.not_mem_nil, or_false] at h
    rcases h with rfl | rfl | rfl | rfl
    · exact w1
    · exact w2
    · exact w5
    · exact w3
  · exact call_ws0 w4 w h
theorem j_callS_i (C : Cx G B dy own cc nL p s m args c) {y : MethodName} {cb : ByteArray} {maxL f lc mc ms a index : Nat} {ret : Option FieldType} {As rest : List Value} {i : Nat} {σ2 : St} {r : Int32} (hM : Ct l G B dy y cb maxL ret f lc mc ms As σ (PostI G B r σ2)) (w1 : Cond.methodLink own index y ∈ TG) (w2 : Cond.static y ∈ TG) (w3 : Cond.initialized y.cls ∈ TG) (w4 : Cond.code y cb maxL ret ∈ TG) (hd : y.cls = own ∧ y.cls ≠ "java/lang/invoke/MethodHandle" ∧ y.cls ≠ "java/lang/invoke/VarHandle" ∧ (parseMethodDescriptor y.desc).map (fun d => d.parameters.length) = some a) (hR : f + 1 ≤ R.frames ∧ 8 + (maxL + 11) + lc ≤ R.locals) (hf : k + mc ≤ R.cells ∧ n + ms ≤ R.slots) (hn : As.length = a) (hstk : st = As.reverse ++ rest) (hcat : (rest.map fun v => v.category).sum ≤ 8) (d : decode cc pc = .ok (.invokestatic index, 3)) (kk : WW G B p l e R s m args below meth c (k + mc) (n + ms) Q nL (pc + 3) lv (.int r :: rest) σ2) : WW G B p l e R s m args below meth c k n Q nL pc lv st σ := fun H locs ls hP hS hl => va_calli (va_runS (nL := nL) (As := As) (rest := rest) ⟨C.1, C.2.1, C.2.2.1, C.2.2.2.1, C.2.2.2.2.1⟩ hM (cwS a C.2.2.2.2.1 (TG_goodIn (call_ws3 w1 w2 (hd.1 ▸ w3) w4)) rfl rfl rfl hd hR) ⟨Hk.blind, pre_of C hP hS⟩ rfl hn hl.1 hstk (lv_room hcat) d hf) hS (fun _ _ h => h) (fun _ h => h) (fun r9 u t H1 locs1 ht hvm hw hB hz1 hk1 hS1 => by
    obtain ⟨rfl, rfl⟩ := hw
    rw [Hp, ht] at hB
    exact kk H1 locs1 ls hB hS1 hl)
theorem j_callS_l (C : Cx G B dy own cc nL p s m args c) {y : MethodName} {cb : ByteArray} {maxL f lc mc ms a index : Nat} {ret : Option FieldType} {As rest : List Value} {i : Nat} {σ2 : St} {r : Int64} (hM : Ct l G B dy y cb maxL ret f lc mc ms As σ (PostL G B r σ2)) (w1 : Cond.methodLink own index y ∈ TG) (w2 : Cond.static y ∈ TG) (w3 : Cond.initialized y.cls ∈ TG) (w4 : Cond.code y cb maxL ret ∈ TG) (hd : y.cls = own ∧ y.cls ≠ "java/lang/invoke/MethodHandle" ∧ y.cls ≠ "java/lang/invoke/VarHandle" ∧ (parseMethodDescriptor y.desc).map (fun d => d.parameters.length) = some a) (hR : f + 1 ≤ R.frames ∧ 8 + (maxL + 11) + lc ≤ R.locals) (hf : k + mc ≤ R.cells ∧ n + ms ≤ R.slots) (hn : As.length = a) (hstk : st = As.reverse ++ rest) (hcat : (rest.map fun v => v.category).sum ≤ 8) (d : decode cc pc = .ok (.invokestatic index, 3)) (kk : WW G B p l e R s m args below meth c (k + mc) (n + ms) Q nL (pc + 3) lv (.long r :: rest) σ2) : WW G B p l e R s m args below meth c k n Q nL pc lv st σ := fun H locs ls hP hS hl => va_calll (va_runS (nL := nL) (As := As) (rest := rest) ⟨C.1, C.2.1, C.2.2.1, C.2.2.2.1, C.2.2.2.2.1⟩ hM (cwS a C.2.2.2.2.1 (TG_goodIn (call_ws3 w1 w2 (hd.1 ▸ w3) w4)) rfl rfl rfl hd hR) ⟨Hk.blind, pre_of C hP hS⟩ rfl hn hl.1 hstk (lv_room hcat) d hf) hS (fun _ _ h => h) (fun _ h => h) (fun r9 u t H1 locs1 ht hvm hw hB hz1 hk1 hS1 => by
    obtain ⟨rfl, rfl⟩ := hw
    rw [Hp, ht] at hB
    exact kk H1 locs1 ls hB hS1 hl)
theorem j_callS_d (C : Cx G B dy own cc nL p s m args c) {y : MethodName} {cb : ByteArray} {maxL f lc mc ms a index : Nat} {ret : Option FieldType} {As rest : List Value} {i : Nat} {σ2 : St} {r : UInt64} (hM : Ct l G B dy y cb maxL ret f lc mc ms As σ (PostD G B r σ2)) (w1 : Cond.methodLink own index y ∈ TG) (w2 : Cond.static y ∈ TG) (w3 : Cond.initialized y.cls ∈ TG) (w4 : Cond.code y cb maxL ret ∈ TG) (hd : y.cls = own ∧ y.cls ≠ "java/lang/invoke/MethodHandle" ∧ y.cls ≠ "java/lang/invoke/VarHandle" ∧ (parseMethodDescriptor y.desc).map (fun d => d.parameters.length) = some a) (hR : f + 1 ≤ R.frames ∧ 8 + (maxL + 11) + lc ≤ R.locals) (hf : k + mc ≤ R.cells ∧ n + ms ≤ R.slots) (hn : As.length = a) (hstk : st = As.reverse ++ rest) (hcat : (rest.map fun v => v.category).sum ≤ 8) (d : decode cc pc = .ok (.invokestatic index, 3)) (kk : WW G B p l e R s m args below meth c (k + mc) (n + ms) Q nL (pc + 3) lv (.double r :: rest) σ2) : WW G B p l e R s m args below meth c k n Q nL pc lv st σ := fun H locs ls hP hS hl => va_calld (va_runS (nL := nL) (As := As) (rest := rest) ⟨C.1, C.2.1, C.2.2.1, C.2.2.2.1, C.2.2.2.2.1⟩ hM (cwS a C.2.2.2.2.1 (TG_goodIn (call_ws3 w1 w2 (hd.1 ▸ w3) w4)) rfl rfl rfl hd hR) ⟨Hk.blind, pre_of C hP hS⟩ rfl hn hl.1 hstk (lv_room hcat) d hf) hS (fun _ _ h => h) (fun _ h => h) (fun r9 u t H1 locs1 ht hvm hw hB hz1 hk1 hS1 => by
    obtain ⟨rfl, rfl⟩ := hw
    rw [Hp, ht] at hB
    exact kk H1 locs1 ls hB hS1 hl)
theorem j_callS_v (C : Cx G B dy own cc nL p s m args c) {y : MethodName} {cb : ByteArray} {maxL f lc mc ms a index : Nat} {ret : Option FieldType} {As rest : List Value} {i : Nat} {σ2 : St} (hM : Ct l G B dy y cb maxL ret f lc mc ms As σ (PostV G B σ2)) (w1 : Cond.methodLink own index y ∈ TG) (w2 : Cond.static y ∈ TG) (w3 : Cond.initialized y.cls ∈ TG) (w4 : Cond.code y cb maxL ret ∈ TG) (hd : y.cls = own ∧ y.cls ≠ "java/lang/invoke/MethodHandle" ∧ y.cls ≠ "java/lang/invoke/VarHandle" ∧ (parseMethodDescriptor y.desc).map (fun d => d.parameters.length) = some a) (hR : f + 1 ≤ R.frames ∧ 8 + (maxL + 11) + lc ≤ R.locals) (hf : k + mc ≤ R.cells ∧ n + ms ≤ R.slots) (hn : As.length = a) (hstk : st = As.reverse ++ rest) (hcat : (rest.map fun v => v.category).sum ≤ 8) (d : decode cc pc = .ok (.invokestatic index, 3)) (kk : WW G B p l e R s m args below meth c (k + mc) (n + ms) Q nL (pc + 3) lv (rest) σ2) : WW G B p l e R s m args below meth c k n Q nL pc lv st σ := fun H locs ls hP hS hl => va_callv (va_runS (nL := nL) (As := As) (rest := rest) ⟨C.1, C.2.1, C.2.2.1, C.2.2.2.1, C.2.2.2.2.1⟩ hM (cwS a C.2.2.2.2.1 (TG_goodIn (call_ws3 w1 w2 (hd.1 ▸ w3) w4)) rfl rfl rfl hd hR) ⟨Hk.blind, pre_of C hP hS⟩ rfl hn hl.1 hstk (lv_room hcat) d hf) hS (fun _ _ h => h) (fun _ h => h) (fun u t H1 locs1 ht hvm hw hB hz1 hk1 hS1 => by
    obtain rfl := hw
    rw [Hp, ht] at hB
    exact kk H1 locs1 ls hB hS1 hl)
theorem j_callS_q (C : Cx G B dy own cc nL p s m args c) {y : MethodName} {cb : ByteArray} {maxL f lc mc ms a index : Nat} {ret : Option FieldType} {As rest : List Value} {i : Nat} {σ2 : St} {r : Option Nat} (hM : Ct l G B dy y cb maxL ret f lc mc ms As σ (PostQ G B r σ2)) (w1 : Cond.methodLink own index y ∈ TG) (w2 : Cond.static y ∈ TG) (w3 : Cond.initialized y.cls ∈ TG) (w4 : Cond.code y cb maxL ret ∈ TG) (hd : y.cls = own ∧ y.cls ≠ "java/lang/invoke/MethodHandle" ∧ y.cls ≠ "java/lang/invoke/VarHandle" ∧ (parseMethodDescriptor y.desc).map (fun d => d.parameters.length) = some a) (hR : f + 1 ≤ R.frames ∧ 8 + (maxL + 11) + lc ≤ R.locals) (hf : k + mc ≤ R.cells ∧ n + ms ≤ R.slots) (hn : As.length = a) (hstk : st = As.reverse ++ rest) (hcat : (rest.map fun v => v.category).sum ≤ 8) (d : decode cc pc = .ok (.invokestatic index, 3)) (kk : WW G B p l e R s m args below meth c (k + mc) (n + ms) Q nL (pc + 3) lv (va_rf (r.map (fun i => B + i)) :: rest) σ2) : WW G B p l e R s m args below meth c k n Q nL pc lv st σ := fun H locs ls hP hS hl => va_callq (va_runS (nL := nL) (As := As) (rest := rest) ⟨C.1, C.2.1, C.2.2.1, C.2.2.2.1, C.2.2.2.2.1⟩ hM (cwS a C.2.2.2.2.1 (TG_goodIn (call_ws3 w1 w2 (hd.1 ▸ w3) w4)) rfl rfl rfl hd hR) ⟨Hk.blind, pre_of C hP hS⟩ rfl hn hl.1 hstk (lv_room hcat) d hf) hS (fun _ _ h => h) (fun _ h => h) (fun r9 u t H1 locs1 ht hvm hw hB hz1 hk1 hS1 => by
    obtain ⟨rfl, rfl⟩ := hw
    rw [Hp, ht] at hB
    exact kk H1 locs1 ls hB hS1 hl)
theorem j_callSN_i (C : Cx G B dy own cc nL p s m args c) {host : String} {y : MethodName} {cb : ByteArray} {maxL f lc mc ms a index : Nat} {ret : Option FieldType} {As rest : List Value} {i : Nat} {σ2 : St} {r : Int32} (hM : Ct l G B dy y cb maxL ret f lc mc ms As σ (PostI G B r σ2)) (w1 : (own, index, y, host) ∈ nestL) (w2 : Cond.static y ∈ TG) (w3 : Cond.initialized y.cls ∈ TG) (w4 : Cond.code y cb maxL ret ∈ TG) (hd : y.cls ≠ "java/lang/invoke/MethodHandle" ∧ y.cls ≠ "java/lang/invoke/VarHandle" ∧ (parseMethodDescriptor y.desc).map (fun d => d.parameters.length) = some a) (hR : f + 1 ≤ R.frames ∧ 8 + (maxL + 11) + lc ≤ R.locals) (hf : k + mc ≤ R.cells ∧ n + ms ≤ R.slots) (hn : As.length = a) (hstk : st = As.reverse ++ rest) (hcat : (rest.map fun v => v.category).sum ≤ 8) (d : decode cc pc = .ok (.invokestatic index, 3)) (kk : WW G B p l e R s m args below meth c (k + mc) (n + ms) Q nL (pc + 3) lv (.int r :: rest) σ2) : WW G B p l e R s m args below meth c k n Q nL pc lv st σ := fun H locs ls hP hS hl => va_calli (va_runSN (nL := nL) (As := As) (rest := rest) ⟨C.1, C.2.1, C.2.2.1, C.2.2.2.1, C.2.2.2.2.1⟩ hM ⟨va_cnB a C.2.2.2.2.1 (TG_goodIn (call_ws0 w4)) rfl rfl rfl (C.2.2.2.2.2.2.1.1 (own, index, y, host) w1) (C.2.2.2.2.1 _ w3) hd hR, C.2.2.2.2.1 _ w2, trivial⟩ ⟨Hk.blind, pre_of C hP hS⟩ rfl hn hl.1 hstk (lv_room hcat) d hf) hS (fun _ _ h => h) (fun _ h => h) (fun r9 u t H1 locs1 ht hvm hw hB hz1 hk1 hS1 => by
    obtain ⟨rfl, rfl⟩ := hw
    rw [Hp, ht] at hB
    exact kk H1 locs1 ls hB hS1 hl)
theorem j_callSN_l (C : Cx G B dy own cc nL p s m args c) {host : String} {y : MethodName} {cb : ByteArray} {maxL f lc mc ms a index : Nat} {ret : Option FieldType} {As rest : List Value} {i : Nat} {σ2 : St} {r : Int64} (hM : Ct l G B dy y cb maxL ret f lc mc ms As σ (PostL G B r σ2)) (w1 : (own, index, y, host) ∈ nestL) (w2 : Cond.static y ∈ TG) (w3 : Cond.initialized y.cls ∈ TG) (w4 : Cond.code y cb maxL ret ∈ TG) (hd : y.cls ≠ "java/lang/invoke/MethodHandle" ∧ y.cls ≠ "java/lang/invoke/VarHandle" ∧ (parseMethodDescriptor y.desc).map (fun d => d.parameters.length) = some a) (hR : f + 1 ≤ R.frames ∧ 8 + (maxL + 11) + lc ≤ R.locals) (hf : k + mc ≤ R.cells ∧ n + ms ≤ R.slots) (hn : As.length = a) (hstk : st = As.reverse ++ rest) (hcat : (rest.map fun v => v.category).sum ≤ 8) (d : decode cc pc = .ok (.invokestatic index, 3)) (kk : WW G B p l e R s m args below meth c (k + mc) (n + ms) Q nL (pc + 3) lv (.long r :: rest) σ2) : WW G B p l e R s m args below meth c k n Q nL pc lv st σ := fun H locs ls hP hS hl => va_calll (va_runSN (nL := nL) (As := As) (rest := rest) ⟨C.1, C.2.1, C.2.2.1, C.2.2.2.1, C.2.2.2.2.1⟩ hM ⟨va_cnB a C.2.2.2.2.1 (TG_goodIn (call_ws0 w4)) rfl rfl rfl (C.2.2.2.2.2.2.1.1 (own, index, y, host) w1) (C.2.2.2.2.1 _ w3) hd hR, C.2.2.2.2.1 _ w2, trivial⟩ ⟨Hk.blind, pre_of C hP hS⟩ rfl hn hl.1 hstk (lv_room hcat) d hf) hS (fun _ _ h => h) (fun _ h => h) (fun r9 u t H1 locs1 ht hvm hw hB hz1 hk1 hS1 => by
    obtain ⟨rfl, rfl⟩ := hw
    rw [Hp, ht] at hB
    exact kk H1 locs1 ls hB hS1 hl)
theorem j_callSN_d (C : Cx G B dy own cc nL p s m args c) {host : String} {y : MethodName} {cb : ByteArray} {maxL f lc mc ms a index : Nat} {ret : Option FieldType} {As rest : List Value} {i : Nat} {σ2 : St} {r : UInt64} (hM : Ct l G B dy y cb maxL ret f lc mc ms As σ (PostD G B r σ2)) (w1 : (own, index, y, host) ∈ nestL) (w2 : Cond.static y ∈ TG) (w3 : Cond.initialized y.cls ∈ TG) (w4 : Cond.code y cb maxL ret ∈ TG) (hd : y.cls ≠ "java/lang/invoke/MethodHandle" ∧ y.cls ≠ "java/lang/invoke/VarHandle" ∧ (parseMethodDescriptor y.desc).map (fun d => d.parameters.length) = some a) (hR : f + 1 ≤ R.frames ∧ 8 + (maxL + 11) + lc ≤ R.locals) (hf : k + mc ≤ R.cells ∧ n + ms ≤ R.slots) (hn : As.length = a) (hstk : st = As.reverse ++ rest) (hcat : (rest.map fun v => v.category).sum ≤ 8) (d : decode cc pc = .ok (.invokestatic index, 3)) (kk : WW G B p l e R s m args below meth c (k + mc) (n + ms) Q nL (pc + 3) lv (.double r :: rest) σ2) : WW G B p l e R s m args below meth c k n Q nL pc lv st σ := fun H locs ls hP hS hl => va_calld (va_runSN (nL := nL) (As := As) (rest := rest) ⟨C.1, C.2.1, C.2.2.1, C.2.2.2.1, C.2.2.2.2.1⟩ hM ⟨va_cnB a C.2.2.2.2.1 (TG_goodIn (call_ws0 w4)) rfl rfl rfl (C.2.2.2.2.2.2.1.1 (own, index, y, host) w1) (C.2.2.2.2.1 _ w3) hd hR, C.2.2.2.2.1 _ w2, trivial⟩ ⟨Hk.blind, pre_of C hP hS⟩ rfl hn hl.1 hstk (lv_room hcat) d hf) hS (fun _ _ h => h) (fun _ h => h) (fun r9 u t H1 locs1 ht hvm hw hB hz1 hk1 hS1 => by
    obtain ⟨rfl, rfl⟩ := hw
    rw [Hp, ht] at hB
    exact kk H1 locs1 ls hB hS1 hl)
theorem j_callSN_v (C : Cx G B dy own cc nL p s m args c) {host : String} {y : MethodName} {cb : ByteArray} {maxL f lc mc ms a index : Nat} {ret : Option FieldType} {As rest : List Value} {i : Nat} {σ2 : St} (hM : Ct l G B dy y cb maxL ret f lc mc ms As σ (PostV G B σ2)) (w1 : (own, index, y, host) ∈ nestL) (w2 : Cond.static y ∈ TG) (w3 : Cond.initialized y.cls ∈ TG) (w4 : Cond.code y cb maxL ret ∈ TG) (hd : y.cls ≠ "java/lang/invoke/MethodHandle" ∧ y.cls ≠ "java/lang/invoke/VarHandle" ∧ (parseMethodDescriptor y.desc).map (fun d => d.parameters.length) = some a) (hR : f + 1 ≤ R.frames ∧ 8 + (maxL + 11) + lc ≤ R.locals) (hf : k + mc ≤ R.cells ∧ n + ms ≤ R.slots) (hn : As.length = a) (hstk : st = As.reverse ++ rest) (hcat : (rest.map fun v => v.category).sum ≤ 8) (d : decode cc pc = .ok (.invokestatic index, 3)) (kk : WW G B p l e R s m args below meth c (k + mc) (n + ms) Q nL (pc + 3) lv (rest) σ2) : WW G B p l e R s m args below meth c k n Q nL pc lv st σ := fun H locs ls hP hS hl => va_callv (va_runSN (nL := nL) (As := As) (rest := rest) ⟨C.1, C.2.1, C.2.2.1, C.2.2.2.1, C.2.2.2.2.1⟩ hM ⟨va_cnB a C.2.2.2.2.1 (TG_goodIn (call_ws0 w4)) rfl rfl rfl (C.2.2.2.2.2.2.1.1 (own, index, y, host) w1) (C.2.2.2.2.1 _ w3) hd hR, C.2.2.2.2.1 _ w2, trivial⟩ ⟨Hk.blind, pre_of C hP hS⟩ rfl hn hl.1 hstk (lv_room hcat) d hf) hS (fun _ _ h => h) (fun _ h => h) (fun u t H1 locs1 ht hvm hw hB hz1 hk1 hS1 => by
    obtain rfl := hw
    rw [Hp, ht] at hB
    exact kk H1 locs1 ls hB hS1 hl)
theorem j_callSN_q (C : Cx G B dy own cc nL p s m args c) {host : String} {y : MethodName} {cb : ByteArray} {maxL f lc mc ms a index : Nat} {ret : Option FieldType} {As rest : List Value} {i : Nat} {σ2 : St} {r : Option Nat} (hM : Ct l G B dy y cb maxL ret f lc mc ms As σ (PostQ G B r σ2)) (w1 : (own, index, y, host) ∈ nestL) (w2 : Cond.static y ∈ TG) (w3 : Cond.initialized y.cls ∈ TG) (w4 : Cond.code y cb maxL ret ∈ TG) (hd : y.cls ≠ "java/lang/invoke/MethodHandle" ∧ y.cls ≠ "java/lang/invoke/VarHandle" ∧ (parseMethodDescriptor y.desc).map (fun d => d.parameters.length) = some a) (hR : f + 1 ≤ R.frames ∧ 8 + (maxL + 11) + lc ≤ R.locals) (hf : k + mc ≤ R.cells ∧ n + ms ≤ R.slots) (hn : As.length = a) (hstk : st = As.reverse ++ rest) (hcat : (rest.map fun v => v.category).sum ≤ 8) (d : decode cc pc = .ok (.invokestatic index, 3)) (kk : WW G B p l e R s m args below meth c (k + mc) (n + ms) Q nL (pc + 3) lv (va_rf (r.map (fun i => B + i)) :: rest) σ2) : WW G B p l e R s m args below meth c k n Q nL pc lv st σ := fun H locs ls hP hS hl => va_callq (va_runSN (nL := nL) (As := As) (rest := rest) ⟨C.1, C.2.1, C.2.2.1, C.2.2.2.1, C.2.2.2.2.1⟩ hM ⟨va_cnB a C.2.2.2.2.1 (TG_goodIn (call_ws0 w4)) rfl rfl rfl (C.2.2.2.2.2.2.1.1 (own, index, y, host) w1) (C.2.2.2.2.1 _ w3) hd hR, C.2.2.2.2.1 _ w2, trivial⟩ ⟨Hk.blind, pre_of C hP hS⟩ rfl hn hl.1 hstk (lv_room hcat) d hf) hS (fun _ _ h => h) (fun _ h => h) (fun r9 u t H1 locs1 ht hvm hw hB hz1 hk1 hS1 => by
    obtain ⟨rfl, rfl⟩ := hw
    rw [Hp, ht] at hB
    exact kk H1 locs1 ls hB hS1 hl)
theorem j_callV_i (C : Cx G B dy own cc nL p s m args c) {y : MethodName} {cb : ByteArray} {maxL f lc mc ms a index : Nat} {ret : Option FieldType} {As rest : List Value} {i : Nat} {σ2 : St} {r : Int32} (hM : Ct l G B dy y cb maxL ret f lc mc ms (.ref (B + i) :: As) σ (PostI G B r σ2)) {ci : Nat} {T : u_T} {N : Nat} {fs : List Value} (he : shp G B σ i = .inr (ci, fs)) (hi : i < NC) (hc : vwCl[ci]? = some (y.cls, T, N)) (w1 : Cond.methodLink own index y ∈ TG) (w2 : Cond.instanceMethod y ∈ TG) (w5 : Cond.selects y.cls y y ∈ TG) (w3 : Cond.initialized y.cls ∈ TG) (w4 : Cond.code y cb maxL ret ∈ TG) (hd : y.cls ≠ "java/lang/invoke/MethodHandle" ∧ y.cls ≠ "java/lang/invoke/VarHandle" ∧ (parseMethodDescriptor y.desc).map (fun d => d.parameters.length) = some a) (hR : f + 1 ≤ R.frames ∧ 8 + (maxL + 11) + lc ≤ R.locals) (hf : k + mc ≤ R.cells ∧ n + ms ≤ R.slots) (hn : As.length = a) (hstk : st = As.reverse ++ .ref (B + i) :: rest) (hcat : (rest.map fun v => v.category).sum ≤ 8) (d : decode cc pc = .ok (.invokevirtual index, 3)) (kk : WW G B p l e R s m args below meth c (k + mc) (n + ms) Q nL (pc + 3) lv (.int r :: rest) σ2) : WW G B p l e R s m args below meth c k n Q nL pc lv st σ := fun H locs ls hP hS hl => va_calli (va_runV (nL := nL) (C := y.cls) (As := As) (rest := rest) ⟨C.1, C.2.1, C.2.2.1, C.2.2.2.1, C.2.2.2.2.1⟩ hM (cwV a C.2.2.2.2.1 (TG_goodIn (call_ws4 w1 w2 w5 w3 w4)) rfl rfl rfl ⟨rfl, hd⟩ hR) ⟨Hk.blind, va_recv C.2.2.2.2.2.1 hP hc (wl_at G B σ hi he), pre_of (As := .ref (B + i) :: As) C hP hS⟩ rfl hn hl.1 hstk (lv_room hcat) d hf) hS (fun _ _ h => h) (fun _ h => h) (fun r9 u t H1 locs1 ht hvm hw hB hz1 hk1 hS1 => by
    obtain ⟨rfl, rfl⟩ := hw
    rw [Hp, ht] at hB
    exact kk H1 locs1 ls hB hS1 hl)
theorem j_callV_l (C : Cx G B dy own cc nL p s m args c) {y : MethodName} {cb : ByteArray} {maxL f lc mc ms a index : Nat} {ret : Option FieldType} {As rest : List Value} {i : Nat} {σ2 : St} {r : Int64} (hM : Ct l G B dy y cb maxL ret f lc mc ms (.ref (B + i) :: As) σ (PostL G B r σ2)) {ci : Nat} {T : u_T} {N : Nat} {fs : List Value} (he : shp G B σ i = .inr (ci, fs)) (hi : i < NC) (hc : vwCl[ci]? = some (y.cls, T, N)) (w1 : Cond.methodLink own index y ∈ TG) (w2 : Cond.instanceMethod y ∈ TG) (w5 : Cond.selects y.cls y y ∈ TG) (w3 : Cond.initialized y.cls ∈ TG) (w4 : Cond.code y cb maxL ret ∈ TG) (hd : y.cls ≠ "java/lang/invoke/MethodHandle" ∧ y.cls ≠ "java/lang/invoke/VarHandle" ∧ (parseMethodDescriptor y.desc).map (fun d => d.parameters.length) = some a) (hR : f + 1 ≤ R.frames ∧ 8 + (maxL + 11) + lc ≤ R.locals) (hf : k + mc ≤ R.cells ∧ n + ms ≤ R.slots) (hn : As.length = a) (hstk : st = As.reverse ++ .ref (B + i) :: rest) (hcat : (rest.map fun v => v.category).sum ≤ 8) (d : decode cc pc = .ok (.invokevirtual index, 3)) (kk : WW G B p l e R s m args below meth c (k + mc) (n + ms) Q nL (pc + 3) lv (.long r :: rest) σ2) : WW G B p l e R s m args below meth c k n Q nL pc lv st σ := fun H locs ls hP hS hl => va_calll (va_runV (nL := nL) (C := y.cls) (As := As) (rest := rest) ⟨C.1, C.2.1, C.2.2.1, C.2.2.2.1, C.2.2.2.2.1⟩ hM (cwV a C.2.2.2.2.1 (TG_goodIn (call_ws4 w1 w2 w5 w3 w4)) rfl rfl rfl ⟨rfl, hd⟩ hR) ⟨Hk.blind, va_recv C.2.2.2.2.2.1 hP hc (wl_at G B σ hi he), pre_of (As := .ref (B + i) :: As) C hP hS⟩ rfl hn hl.1 hstk (lv_room hcat) d hf) hS (fun _ _ h => h) (fun _ h => h) (fun r9 u t H1 locs1 ht hvm hw hB hz1 hk1 hS1 => by
    obtain ⟨rfl, rfl⟩ := hw
    rw [Hp, ht] at hB
    exact kk H1 locs1 ls hB hS1 hl)
theorem j_callV_d (C : Cx G B dy own cc nL p s m args c) {y : MethodName} {cb : ByteArray} {maxL f lc mc ms a index : Nat} {ret : Option FieldType} {As rest : List Value} {i : Nat} {σ2 : St} {r : UInt64} (hM : Ct l G B dy y cb maxL ret f lc mc ms (.ref (B + i) :: As) σ (PostD G B r σ2)) {ci : Nat} {T : u_T} {N : Nat} {fs : List Value} (he : shp G B σ i = .inr (ci, fs)) (hi : i < NC) (hc : vwCl[ci]? = some (y.cls, T, N)) (w1 : Cond.methodLink own index y ∈ TG) (w2 : Cond.instanceMethod y ∈ TG) (w5 : Cond.selects y.cls y y ∈ TG) (w3 : Cond.initialized y.cls ∈ TG) (w4 : Cond.code y cb maxL ret ∈ TG) (hd : y.cls ≠ "java/lang/invoke/MethodHandle" ∧ y.cls ≠ "java/lang/invoke/VarHandle" ∧ (parseMethodDescriptor y.desc).map (fun d => d.parameters.length) = some a) (hR : f + 1 ≤ R.frames ∧ 8 + (maxL + 11) + lc ≤ R.locals) (hf : k + mc ≤ R.cells ∧ n + ms ≤ R.slots) (hn : As.length = a) (hstk : st = As.reverse ++ .ref (B + i) :: rest) (hcat : (rest.map fun v => v.category).sum ≤ 8) (d : decode cc pc = .ok (.invokevirtual index, 3)) (kk : WW G B p l e R s m args below meth c (k + mc) (n + ms) Q nL (pc + 3) lv (.double r :: rest) σ2) : WW G B p l e R s m args below meth c k n Q nL pc lv st σ := fun H locs ls hP hS hl => va_calld (va_runV (nL := nL) (C := y.cls) (As := As) (rest := rest) ⟨C.1, C.2.1, C.2.2.1, C.2.2.2.1, C.2.2.2.2.1⟩ hM (cwV a C.2.2.2.2.1 (TG_goodIn (call_ws4 w1 w2 w5 w3 w4)) rfl rfl rfl ⟨rfl, hd⟩ hR) ⟨Hk.blind, va_recv C.2.2.2.2.2.1 hP hc (wl_at G B σ hi he), pre_of (As := .ref (B + i) :: As) C hP hS⟩ rfl hn hl.1 hstk (lv_room hcat) d hf) hS (fun _ _ h => h) (fun _ h => h) (fun r9 u t H1 locs1 ht hvm hw hB hz1 hk1 hS1 => by
    obtain ⟨rfl, rfl⟩ := hw
    rw [Hp, ht] at hB
    exact kk H1 locs1 ls hB hS1 hl)
theorem j_callV_v (C : Cx G B dy own cc nL p s m args c) {y : MethodName} {cb : ByteArray} {maxL f lc mc ms a index : Nat} {ret : Option FieldType} {As rest : List Value} {i : Nat} {σ2 : St} (hM : Ct l G B dy y cb maxL ret f lc mc ms (.ref (B + i) :: As) σ (PostV G B σ2)) {ci : Nat} {T : u_T} {N : Nat} {fs : List Value} (he : shp G B σ i = .inr (ci, fs)) (hi : i < NC) (hc : vwCl[ci]? = some (y.cls, T, N)) (w1 : Cond.methodLink own index y ∈ TG) (w2 : Cond.instanceMethod y ∈ TG) (w5 : Cond.selects y.cls y y ∈ TG) (w3 : Cond.initialized y.cls ∈ TG) (w4 : Cond.code y cb maxL ret ∈ TG) (hd : y.cls ≠ "java/lang/invoke/MethodHandle" ∧ y.cls ≠ "java/lang/invoke/VarHandle" ∧ (parseMethodDescriptor y.desc).map (fun d => d.parameters.length) = some a) (hR : f + 1 ≤ R.frames ∧ 8 + (maxL + 11) + lc ≤ R.locals) (hf : k + mc ≤ R.cells ∧ n + ms ≤ R.slots) (hn : As.length = a) (hstk : st = As.reverse ++ .ref (B + i) :: rest) (hcat : (rest.map fun v => v.category).sum ≤ 8) (d : decode cc pc = .ok (.invokevirtual index, 3)) (kk : WW G B p l e R s m args below meth c (k + mc) (n + ms) Q nL (pc + 3) lv (rest) σ2) : WW G B p l e R s m args below meth c k n Q nL pc lv st σ := fun H locs ls hP hS hl => va_callv (va_runV (nL := nL) (C := y.cls) (As := As) (rest := rest) ⟨C.1, C.2.1, C.2.2.1, C.2.2.2.1, C.2.2.2.2.1⟩ hM (cwV a C.2.2.2.2.1 (TG_goodIn (call_ws4 w1 w2 w5 w3 w4)) rfl rfl rfl ⟨rfl, hd⟩ hR) ⟨Hk.blind, va_recv C.2.2.2.2.2.1 hP hc (wl_at G B σ hi he), pre_of (As := .ref (B + i) :: As) C hP hS⟩ rfl hn hl.1 hstk (lv_room hcat) d hf) hS (fun _ _ h => h) (fun _ h => h) (fun u t H1 locs1 ht hvm hw hB hz1 hk1 hS1 => by
    obtain rfl := hw
    rw [Hp, ht] at hB
    exact kk H1 locs1 ls hB hS1 hl)
theorem j_callV_q (C : Cx G B dy own cc nL p s m args c) {y : MethodName} {cb : ByteArray} {maxL f lc mc ms a index : Nat} {ret : Option FieldType} {As rest : List Value} {i : Nat} {σ2 : St} {r : Option Nat} (hM : Ct l G B dy y cb maxL ret f lc mc ms (.ref (B + i) :: As) σ (PostQ G B r σ2)) {ci : Nat} {T : u_T} {N : Nat} {fs : List Value} (he : shp G B σ i = .inr (ci, fs)) (hi : i < NC) (hc : vwCl[ci]? = some (y.cls, T, N)) (w1 : Cond.methodLink own index y ∈ TG) (w2 : Cond.instanceMethod y ∈ TG) (w5 : Cond.selects y.cls y y ∈ TG) (w3 : Cond.initialized y.cls ∈ TG) (w4 : Cond.code y cb maxL ret ∈ TG) (hd : y.cls ≠ "java/lang/invoke/MethodHandle" ∧ y.cls ≠ "java/lang/invoke/VarHandle" ∧ (parseMethodDescriptor y.desc).map (fun d => d.parameters.length) = some a) (hR : f + 1 ≤ R.frames ∧ 8 + (maxL + 11) + lc ≤ R.locals) (hf : k + mc ≤ R.cells ∧ n + ms ≤ R.slots) (hn : As.length = a) (hstk : st = As.reverse ++ .ref (B + i) :: rest) (hcat : (rest.map fun v => v.category).sum ≤ 8) (d : decode cc pc = .ok (.invokevirtual index, 3)) (kk : WW G B p l e R s m args below meth c (k + mc) (n + ms) Q nL (pc + 3) lv (va_rf (r.map (fun i => B + i)) :: rest) σ2) : WW G B p l e R s m args below meth c k n Q nL pc lv st σ := fun H locs ls hP hS hl => va_callq (va_runV (nL := nL) (C := y.cls) (As := As) (rest := rest) ⟨C.1, C.2.1, C.2.2.1, C.2.2.2.1, C.2.2.2.2.1⟩ hM (cwV a C.2.2.2.2.1 (TG_goodIn (call_ws4 w1 w2 w5 w3 w4)) rfl rfl rfl ⟨rfl, hd⟩ hR) ⟨Hk.blind, va_recv C.2.2.2.2.2.1 hP hc (wl_at G B σ hi he), pre_of (As := .ref (B + i) :: As) C hP hS⟩ rfl hn hl.1 hstk (lv_room hcat) d hf) hS (fun _ _ h => h) (fun _ h => h) (fun r9 u t H1 locs1 ht hvm hw hB hz1 hk1 hS1 => by
    obtain ⟨rfl, rfl⟩ := hw
    rw [Hp, ht] at hB
    exact kk H1 locs1 ls hB hS1 hl)
end JC
/-! the pieces of a method's own function -/
def lt {α β : Type} (a : α) (k : α → β) : β := k a
theorem lt_at {α β : Type} {a x : α} {k : α → β} {r : β} (h : lt a k = r) (ex : x = a) : k x = r := by subst ex; exact h
def gd {β : Type} (b : Bool) (k : Option β) : Option β := if b = true then k else none
theorem gd_some {β : Type} {b : Bool} {k : Option β} {r : β} (h : gd b k = some r) : b = true ∧ k = some r := by
  cases b with
  | true => exact ⟨rfl, h⟩
  | false => exact absurd h (by intro q; cases q)
def bd {α β : Type} (x : Option (α × St)) (k : α → St → Option β) : Option β := match x with
  | none => none
  | some q => k q.1 q.2
theorem bd_some {α β : Type} {x : Option (α × St)} {k : α → St → Option β} {r : β} (h : bd x k = some r) : ∃ (a : α) (σ : St), x = some (a, σ) ∧ k a σ = some r := by
  cases x with
  | none => cases h
  | some q => exact ⟨q.1, q.2, rfl, h⟩
def bv {β : Type} (x : Option St) (k : St → Option β) : Option β := match x with
  | none => none
  | some q => k q
theorem bv_some {β : Type} {x : Option St} {k : St → Option β} {r : β} (h : bv x k = some r) : ∃ σ : St, x = some σ ∧ k σ = some r := by
  cases x with
  | none => cases h
  | some q => exact ⟨q, rfl, h⟩
def is01 (x : Int32) : Bool := decide (x = 0 ∨ x = 1)
theorem is01_or {x : Int32} (h : is01 x = true) : x = 0 ∨ x = 1 := of_decide_eq_true h
def isN (x k : Nat) : Bool := decide (x = k)
theorem isN_eq {x k : Nat} (h : isN x k = true) : x = k := of_decide_eq_true h
def nz (x : Int32) : Bool := decide (¬ x = 0)
theorem nz_ne {x : Int32} (h : nz x = true) : ¬ x = 0 := of_decide_eq_true h
theorem ite_t {α : Type} {c : Prop} [Decidable c] {a b : Option α} {r : α} (h : (if c then a else b) = some r) (hc : c) : a = some r := by rwa [if_pos hc] at h
theorem ite_f {α : Type} {c : Prop} [Decidable c] {a b : Option α} {r : α} (h : (if c then a else b) = some r) (hc : ¬ c) : b = some r := by rwa [if_neg hc] at h
