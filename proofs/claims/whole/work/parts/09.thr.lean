/-! METHODS THAT MAY THROW: the outcome is an exception's class and the store, or the answer and the store -/
abbrev Ex (α : Type) : Type := Sum (String × St) α
def exA : String := "java/lang/IllegalArgumentException"
def exS : String := "java/lang/IllegalStateException"
def exI : String := "java/lang/IndexOutOfBoundsException"
def exN : List String := ["java/lang/RuntimeException", "java/lang/Exception"]
def strL : List (Nat × String) := [(148, "the buffer is full"), (156, "no state is saved"), (243, "an argument is out of range"), (247, "there is no such feast"), (250, "there is no such stick"), (74, "the buffer does not tell feasts"), (92, "there is no feast")]
def declL : List MethodName := [Bundle.initS "java/lang/RuntimeException", Bundle.initS "java/lang/Exception", Bundle.initS Bundle.tN]
def exL : List String := [exA, exS, exI]
/-- what a throw needs beside the tables' good words -/
def Xe (B : Nat) (sa : Nat → Nat) (U : State) : Prop := (∀ q ∈ strL, vk_R RX6 q.1 q.2 (sa q.1) U) ∧ (∀ y ∈ declL, va_Nw (.declares y) U) ∧ (∀ X ∈ exL, va_Nw (.castable X X) U) ∧ vx_Zq Bundle.tN "UNASSIGNED_STACK" Bundle.steD (Ab B) U U.heap ∧ vx_Zq Bundle.tN "SUPPRESSED_SENTINEL" Bundle.listD (Ab B) U U.heap
theorem Xe.carry {B : Nat} {sa : Nat → Nat} {s U : State} {H : Heap} {locs : List Loc} (h : Xe B sa s) (hS : va_S (Ab B) s.heap H locs) (hU : U.heap = H) (hW : s.WarmedH U.vm) : Xe B sa U := by
  obtain ⟨h1, h2, h3, h4, h5⟩ := h
  refine ⟨fun q hq => vk_R.warm hW (h1 q hq), fun y hy => va_Nw.warmD hW (h2 y hy), fun X hX => va_Nw.warmC hW (h3 X hX), ?_, ?_⟩
  · rw [hU]; exact (h4.moved hW.alike).kept (fun a h6 h7 => hS.2.1 a h6 h7)
  · rw [hU]; exact (h5.moved hW.alike).kept (fun a h6 h7 => hS.2.1 a h6 h7)
theorem Xe.blind {B : Nat} {sa : Nat → Nat} {U : State} (g : JFrame) (mk : MethodId) (a : Array Value) (h : Xe B sa U) : Xe B sa (U.calling g mk a) := by
  obtain ⟨h1, h2, h3, h4, h5⟩ := h
  exact ⟨fun q hq => vk_R.same (u := U) (U := U.calling g mk a) rfl (h1 q hq), fun y hy => va_Nw.same (u := U) (U := U.calling g mk a) rfl rfl (h2 y hy), fun X hX => va_Nw.same (u := U) (U := U.calling g mk a) rfl rfl (h3 X hX), vx_Zq.moved (u := U) (U := U.calling g mk a) (Vm.Alike.refl U.vm) h4, vx_Zq.moved (u := U) (U := U.calling g mk a) (Vm.Alike.refl U.vm) h5⟩
def Hx (G : GG) (B dy : Nat) (sa : Nat → Nat) (σ : St) (U : State) : Prop := Hk G B dy σ U ∧ Xe B sa U
theorem Hx.blind {G : GG} {B dy : Nat} {sa : Nat → Nat} {σ : St} {As : List Value} : FrameBlind (va_Pc As (Hx G B dy sa σ)) := fun a U g mk q => ⟨q.1, (Hk.blind (As := As) a U g mk ⟨q.1, q.2.1⟩).2, q.2.2.blind g mk a⟩
def PX (G : GG) (B : Nat) (res : Ex (Int32 × St)) := va_Qi (fun (r9 : Int32) (u : St) => res = .inr (r9, u)) (Hp G B) (Ab B)
def PXv (G : GG) (B : Nat) (res : Ex St) := va_Qv (fun (u : St) => res = .inr u) (Hp G B) (Ab B)
def XX {α : Type} (G : GG) (B : Nat) (res : Ex α) : String → State → State → Prop := vx_X (fun (q : String × St) => res = .inl q) (fun E q t => E = q.1 ∧ Hp G B q.2 t) (Ab B)
abbrev CtX (l : Launch) (G : GG) (B dy : Nat) (sa : Nat → Nat) (y : MethodName) (cc : ByteArray) (maxL : Nat) (ret : Option FieldType) (f lc mc ms : Nat) (As : List Value) (σ : St) (Qc : Array Value → State → Outcome → State → Prop) (XC : String → State → State → Prop) : Prop :=
  vx_Met l y (wq y cc maxL ret) (RM f lc mc ms) (va_Pc As (Hx G B dy sa σ)) Qc XC mc ms (Ab B)
def bx {α β : Type} (x : Option (Ex α)) (k : α → Option (Ex β)) : Option (Ex β) := match x with
  | none => none
  | some (.inl q) => some (.inl q)
  | some (.inr a) => k a
theorem bx_some {α β : Type} {x : Option (Ex α)} {k : α → Option (Ex β)} {r : Ex β} (h : bx x k = some r) : (∃ q, x = some (.inl q) ∧ r = .inl q) ∨ ∃ a, x = some (.inr a) ∧ k a = some r := by
  cases x with
  | none => cases h
  | some v => cases v with
    | inl q => exact Or.inl ⟨q, rfl, (Option.some.inj h).symm⟩
    | inr a => exact Or.inr ⟨a, rfl, h⟩
section JX
variable {G : GG} {B dy : Nat} {sa : Nat → Nat} {own : String} {cc : ByteArray} {nL : Nat} {p : Program} {l : Launch} {e : Env} {R : Room} {s : State} {m : MethodId} {args : Array Value} {below : List Frame} {meth : Method} {c : Code} {k n : Nat} {Q : State → Prop}
variable {pc : Nat} {lv : List (Nat × Value)} {st : List Value} {σ : St}
theorem CtX_of {y : MethodName} {maxL f lc mc ms : Nat} {ret : Option FieldType} {As : List Value} {Qc : Array Value → State → Outcome → State → Prop} {XC : String → State → State → Prop} (hy : plainName y.cls = true) (lv0 : List (Nat × Value)) (hlen : (lg_sl As).length ≤ maxL) (hlv : lv_args 0 As = lv0)
    (body : ∀ {p : Program} {e : Env} {s : State} {m : MethodId} {args : Array Value} {below : List Frame} {meth : Method} {c : Code}, Cx G B dy y.cls cc maxL p s m args c → meth.sig.returnType = ret → meth.locks = false → Xe B sa s → (∀ x ∈ c.exceptionTable.toList, False) → WW G B p l e (RM f lc mc ms) s m args below meth c 0 0 (vx_MQ below Qc XC args s mc ms (Ab B)) maxL 0 lv0 [] σ) :
    CtX l G B dy sa y cc maxL ret f lc mc ms As σ Qc XC := by
  refine vx_ofW (cc := cc) (maxL := maxL) (ret := ret) hy rfl ?_
  intro p e s m args below meth c s₁ B9 hml hno hv
  obtain ⟨rfl, ⟨hP, hK, hX⟩, hE⟩ := hv
  have hts := atoms_spec (ws := wq y cc maxL ret) B9.pre
  have hB : B ≤ s.heap.size := by
    have h1 := (hP 0 _ (wl_get G B σ (i := 0) (by decide))).lt
    have h1 : B + 0 < s.heap.size := h1
    omega
  have C : Cx G B dy y.cls cc maxL p s m As.toArray c := ⟨B9.exec, B9.bytes, hml, findClass_of_methodNamed B9.named, fun w hw => hts w (List.mem_cons_of_mem _ hw), hK, hX, hB⟩
  rw [lg_entry_eq]
  refine body C B9.returns B9.notSynchronized hE hno s.heap [] _ hP va_S.rf ?_
  rw [← hlv]
  exact lv_entry As hlen
theorem jx_iret (C : Cx G B dy own cc nL p s m args c) (hr : meth.sig.returnType = some .int) (hlk : meth.locks = false) {v : Int32} {res : Ex (Int32 × St)} {mc ms : Nat} {XC : String → State → State → Prop} (h : some (Sum.inr (v, σ)) = some res) (hk : k ≤ mc ∧ n ≤ ms) (d : decode cc pc = .ok (.ireturn, 1)) : WW G B p l e R s m args below meth c k n (vx_MQ below (PX G B res) XC args s mc ms (Ab B)) nL pc lv [.int v] σ := by
  intro H locs ls hP hS hl
  obtain rfl := Option.some.inj h
  refine W.widen hk.1 hk.2 (vx_ret ?_)
  exact W.iret C.1 C.2.1 hr (fun t ht _ => ⟨⟨v, σ, rfl, rfl, by rw [Hp, ht]; exact hP⟩, hS.F ht⟩) hS.2.2 d hlk
theorem jx_vret (C : Cx G B dy own cc nL p s m args c) (hr : meth.sig.returnType = none) (hlk : meth.locks = false) {res : Ex St} {mc ms : Nat} {XC : String → State → State → Prop} (h : some (Sum.inr σ) = some res) (hk : k ≤ mc ∧ n ≤ ms) (d : decode cc pc = .ok (.return_, 1)) : WW G B p l e R s m args below meth c k n (vx_MQ below (PXv G B res) XC args s mc ms (Ab B)) nL pc lv [] σ := by
  intro H locs ls hP hS hl
  obtain rfl := Option.some.inj h
  refine W.widen hk.1 hk.2 (vx_ret ?_)
  exact W.vret C.1 C.2.1 hr (fun t ht _ => ⟨⟨σ, rfl, rfl, by rw [Hp, ht]; exact hP⟩, hS.F ht⟩) hS.2.2 d hlk
theorem preX_of {H : Heap} {locs : List Loc} {As : List Value} (C : Cx G B dy own cc nL p s m args c) (E : Xe B sa s) (hP : va_P G.1 vwCl (wl G B σ) H) (hS : va_S (Ab B) s.heap H locs) : ∀ U : State, U.heap = H → s.WarmedH U.vm → va_Pc As (Hx G B dy sa σ) As.toArray U :=
  fun U hU hW => ⟨rfl, (pre_of (As := As) C hP hS U hU hW).2, E.carry hS hU hW⟩
theorem x_out {α : Type} (hno : ∀ x ∈ c.exceptionTable.toList, False) (hlk : meth.locks = false) {Qc : Array Value → State → Outcome → State → Prop} {res : Ex α} {E : String} {u : String × St} {ce : Cell} {q9 : Addr} {t : State} {H1 : Heap} {locs1 : List Loc} {mc ms : Nat} {ls : Array Slot} {rest : List Value} (hr : res = .inl u) (ht : t.heap = H1) (hb : E = u.1 ∧ Hp G B u.2 t) (hS : va_S (Ab B) s.heap H1 locs1) (h9 : H1[q9]? = some ce) (hv : ce.vm = .none) (hc : s.vm.findClass E = some ce.cls) (hk : k ≤ mc ∧ n ≤ ms) :
    vx_W p l e R s m args below meth c H1 locs1 k n (vx_MQ below Qc (XX G B res) args s mc ms (Ab B)) (F0 m pc ls rest) q9 :=
  vx_out (fun x hx => (hno x hx).elim) hlk h9 hv hc (fun t2 ht2 _ => ⟨u, hr, ⟨hb.1, by have h := hb.2; rw [Hp, ht] at h; rw [Hp, ht2]; exact h⟩, hS.F ht2⟩) hS.2.2 hk.1 hk.2

theorem jx_okS_v (C : Cx G B dy own cc nL p s m args c) (E : Xe B sa s) {y : MethodName} {cb : ByteArray} {maxL f lc mc ms a index : Nat} {ret : Option FieldType} {As rest : List Value} {t5 : St} (hM : CtX l G B dy sa y cb maxL ret f lc mc ms As σ (PXv G B (.inr t5)) (XX G B (.inr t5 : Ex St))) (w1 : Cond.methodLink own index y ∈ TG) (w2 : Cond.static y ∈ TG) (w3 : Cond.initialized y.cls ∈ TG) (w4 : Cond.code y cb maxL ret ∈ TG) (hd : y.cls = own ∧ y.cls ≠ "java/lang/invoke/MethodHandle" ∧ y.cls ≠ "java/lang/invoke/VarHandle" ∧ (parseMethodDescriptor y.desc).map (fun d => d.parameters.length) = some a) (hR : f + 1 ≤ R.frames ∧ 8 + (maxL + 11) + lc ≤ R.locals) (hf : k + mc ≤ R.cells ∧ n + ms ≤ R.slots) (hn : As.length = a) (hstk : st = As.reverse ++ rest) (hcat : (rest.map fun v => v.category).sum ≤ 8) (d : decode cc pc = .ok (.invokestatic index, 3)) (kk : WW G B p l e R s m args below meth c (k + mc) (n + ms) Q nL (pc + 3) lv rest t5) : WW G B p l e R s m args below meth c k n Q nL pc lv st σ := fun H locs ls hP hS hl => vx_callv (vx_runS (nL := nL) (As := As) (rest := rest) ⟨C.1, C.2.1, C.2.2.1, C.2.2.2.1, C.2.2.2.2.1⟩ hM (cwS a C.2.2.2.2.1 (TG_goodIn (call_ws3 w1 w2 (hd.1 ▸ w3) w4)) rfl rfl rfl hd hR) ⟨Hx.blind, preX_of C E hP hS⟩ rfl hn hl.1 hstk (lv_room hcat) d hf) hS (fun _ _ h => h) (fun _ h => h) (fun _ _ h => h) (fun E9 ce q9 u t H1 locs1 ht hvm hw hB hz1 hk1 hS1 h9 hv hc9 => nomatch hw) (fun u t H1 locs1 ht hvm hw hB hz1 hk1 hS1 => by
    obtain rfl := Sum.inr.inj hw
    rw [Hp, ht] at hB
    exact kk H1 locs1 ls hB hS1 hl)
theorem jx_thS_v (C : Cx G B dy own cc nL p s m args c) (E : Xe B sa s) (hno : ∀ x ∈ c.exceptionTable.toList, False) (hlk : meth.locks = false) {y : MethodName} {cb : ByteArray} {maxL f lc mc ms a index : Nat} {ret : Option FieldType} {As rest : List Value} {q : String × St} (hM : CtX l G B dy sa y cb maxL ret f lc mc ms As σ (PXv G B (.inl q)) (XX G B (.inl q : Ex St))) (w1 : Cond.methodLink own index y ∈ TG) (w2 : Cond.static y ∈ TG) (w3 : Cond.initialized y.cls ∈ TG) (w4 : Cond.code y cb maxL ret ∈ TG) (hd : y.cls = own ∧ y.cls ≠ "java/lang/invoke/MethodHandle" ∧ y.cls ≠ "java/lang/invoke/VarHandle" ∧ (parseMethodDescriptor y.desc).map (fun d => d.parameters.length) = some a) (hR : f + 1 ≤ R.frames ∧ 8 + (maxL + 11) + lc ≤ R.locals) (hf : k + mc ≤ R.cells ∧ n + ms ≤ R.slots) (hn : As.length = a) (hstk : st = As.reverse ++ rest) (hcat : (rest.map fun v => v.category).sum ≤ 8) (d : decode cc pc = .ok (.invokestatic index, 3)) {α : Type} {res : Ex α} {mc2 ms2 : Nat} {Qc : Array Value → State → Outcome → State → Prop} (h : res = .inl q) (hk : k + mc ≤ mc2 ∧ n + ms ≤ ms2) : WW G B p l e R s m args below meth c k n (vx_MQ below Qc (XX G B res) args s mc2 ms2 (Ab B)) nL pc lv st σ := fun H locs ls hP hS hl => vx_callv (vx_runS (nL := nL) (As := As) (rest := rest) ⟨C.1, C.2.1, C.2.2.1, C.2.2.2.1, C.2.2.2.2.1⟩ hM (cwS a C.2.2.2.2.1 (TG_goodIn (call_ws3 w1 w2 (hd.1 ▸ w3) w4)) rfl rfl rfl hd hR) ⟨Hx.blind, preX_of C E hP hS⟩ rfl hn hl.1 hstk (lv_room hcat) d hf) hS (fun _ _ h => h) (fun _ h => h) (fun _ _ h => h) (fun E9 ce q9 u t H1 locs1 ht hvm hw hB hz1 hk1 hS1 h9 hv hc9 => x_out hno hlk (h.trans (congrArg Sum.inl (Sum.inl.inj hw))) ht hB hS1 h9 hv hc9 hk) (fun u t H1 locs1 ht hvm hw hB hz1 hk1 hS1 => nomatch hw)
theorem jx_okV_v (C : Cx G B dy own cc nL p s m args c) (E : Xe B sa s) {y : MethodName} {cb : ByteArray} {maxL f lc mc ms a index : Nat} {ret : Option FieldType} {As rest : List Value} {i : Nat} {t5 : St} (hM : CtX l G B dy sa y cb maxL ret f lc mc ms (.ref (B + i) :: As) σ (PXv G B (.inr t5)) (XX G B (.inr t5 : Ex St))) {ci : Nat} {T : u_T} {N : Nat} {fs : List Value} (he : shp G B σ i = .inr (ci, fs)) (hi : i < NC) (hc : vwCl[ci]? = some (y.cls, T, N)) (w1 : Cond.methodLink own index y ∈ TG) (w2 : Cond.instanceMethod y ∈ TG) (w5 : Cond.selects y.cls y y ∈ TG) (w3 : Cond.initialized y.cls ∈ TG) (w4 : Cond.code y cb maxL ret ∈ TG) (hd : y.cls ≠ "java/lang/invoke/MethodHandle" ∧ y.cls ≠ "java/lang/invoke/VarHandle" ∧ (parseMethodDescriptor y.desc).map (fun d => d.parameters.length) = some a) (hR : f + 1 ≤ R.frames ∧ 8 + (maxL + 11) + lc ≤ R.locals) (hf : k + mc ≤ R.cells ∧ n + ms ≤ R.slots) (hn : As.length = a) (hstk : st = As.reverse ++ .ref (B + i) :: rest) (hcat : (rest.map fun v => v.category).sum ≤ 8) (d : decode cc pc = .ok (.invokevirtual index, 3)) (kk : WW G B p l e R s m args below meth c (k + mc) (n + ms) Q nL (pc + 3) lv rest t5) : WW G B p l e R s m args below meth c k n Q nL pc lv st σ := fun H locs ls hP hS hl => vx_callv (vx_runV (nL := nL) (C := y.cls) (As := As) (rest := rest) ⟨C.1, C.2.1, C.2.2.1, C.2.2.2.1, C.2.2.2.2.1⟩ hM (cwV a C.2.2.2.2.1 (TG_goodIn (call_ws4 w1 w2 w5 w3 w4)) rfl rfl rfl ⟨rfl, hd⟩ hR) ⟨Hx.blind, va_recv C.2.2.2.2.2.1 hP hc (wl_at G B σ hi he), preX_of (As := .ref (B + i) :: As) C E hP hS⟩ rfl hn hl.1 hstk (lv_room hcat) d hf) hS (fun _ _ h => h) (fun _ h => h) (fun _ _ h => h) (fun E9 ce q9 u t H1 locs1 ht hvm hw hB hz1 hk1 hS1 h9 hv hc9 => nomatch hw) (fun u t H1 locs1 ht hvm hw hB hz1 hk1 hS1 => by
    obtain rfl := Sum.inr.inj hw
    rw [Hp, ht] at hB
    exact kk H1 locs1 ls hB hS1 hl)
theorem jx_thV_v (C : Cx G B dy own cc nL p s m args c) (E : Xe B sa s) (hno : ∀ x ∈ c.exceptionTable.toList, False) (hlk : meth.locks = false) {y : MethodName} {cb : ByteArray} {maxL f lc mc ms a index : Nat} {ret : Option FieldType} {As rest : List Value} {i : Nat} {q : String × St} (hM : CtX l G B dy sa y cb maxL ret f lc mc ms (.ref (B + i) :: As) σ (PXv G B (.inl q)) (XX G B (.inl q : Ex St))) {ci : Nat} {T : u_T} {N : Nat} {fs : List Value} (he : shp G B σ i = .inr (ci, fs)) (hi : i < NC) (hc : vwCl[ci]? = some (y.cls, T, N)) (w1 : Cond.methodLink own index y ∈ TG) (w2 : Cond.instanceMethod y ∈ TG) (w5 : Cond.selects y.cls y y ∈ TG) (w3 : Cond.initialized y.cls ∈ TG) (w4 : Cond.code y cb maxL ret ∈ TG) (hd : y.cls ≠ "java/lang/invoke/MethodHandle" ∧ y.cls ≠ "java/lang/invoke/VarHandle" ∧ (parseMethodDescriptor y.desc).map (fun d => d.parameters.length) = some a) (hR : f + 1 ≤ R.frames ∧ 8 + (maxL + 11) + lc ≤ R.locals) (hf : k + mc ≤ R.cells ∧ n + ms ≤ R.slots) (hn : As.length = a) (hstk : st = As.reverse ++ .ref (B + i) :: rest) (hcat : (rest.map fun v => v.category).sum ≤ 8) (d : decode cc pc = .ok (.invokevirtual index, 3)) {α : Type} {res : Ex α} {mc2 ms2 : Nat} {Qc : Array Value → State → Outcome → State → Prop} (h : res = .inl q) (hk : k + mc ≤ mc2 ∧ n + ms ≤ ms2) : WW G B p l e R s m args below meth c k n (vx_MQ below Qc (XX G B res) args s mc2 ms2 (Ab B)) nL pc lv st σ := fun H locs ls hP hS hl => vx_callv (vx_runV (nL := nL) (C := y.cls) (As := As) (rest := rest) ⟨C.1, C.2.1, C.2.2.1, C.2.2.2.1, C.2.2.2.2.1⟩ hM (cwV a C.2.2.2.2.1 (TG_goodIn (call_ws4 w1 w2 w5 w3 w4)) rfl rfl rfl ⟨rfl, hd⟩ hR) ⟨Hx.blind, va_recv C.2.2.2.2.2.1 hP hc (wl_at G B σ hi he), preX_of (As := .ref (B + i) :: As) C E hP hS⟩ rfl hn hl.1 hstk (lv_room hcat) d hf) hS (fun _ _ h => h) (fun _ h => h) (fun _ _ h => h) (fun E9 ce q9 u t H1 locs1 ht hvm hw hB hz1 hk1 hS1 h9 hv hc9 => x_out hno hlk (h.trans (congrArg Sum.inl (Sum.inl.inj hw))) ht hB hS1 h9 hv hc9 hk) (fun u t H1 locs1 ht hvm hw hB hz1 hk1 hS1 => nomatch hw)
theorem j_throw (C : Cx G B dy RX6 cc nL p s m args c) (E : Xe B sa s) (hls : l.stackTraces = false) (hno : ∀ x ∈ c.exceptionTable.toList, False) (hlk : meth.locks = false) {cls text : String} {ik is ic : Nat} (w0 : Bundle.fit cls = true) (wc : cls ∈ exL) (w1 : Cond.classLink RX6 ik cls ∈ TG) (w2 : Cond.initialized cls ∈ TG) (w3 : (is, text) ∈ strL)
    (w4 : ∀ w ∈ (vx_atS RX6 ic cls exN).filter goodWord, w ∈ TG) (w5 : ∀ w ∈ (vx_atS RX6 ic cls exN).filter (fun w => !goodWord w), w ∈ (declL.map Cond.declares ++ [Cond.castable cls cls]))
    (w6 : ∀ w ∈ Cond.classLink RX6 ik cls :: Cond.initialized cls :: vx_atS RX6 ic cls exN, vx_ot w = true)
    (d0 : decode cc pc = .ok (.new ik, 3)) (d3 : decode cc (pc + 3) = .ok (.dup, 1)) (d4 : decode cc (pc + 4) = .ok (.ldc is, 2)) (d6 : decode cc (pc + 6) = .ok (.invokespecial ic, 3)) (d9 : decode cc (pc + 9) = .ok (.athrow, 1))
    (hR : 5 < R.frames ∧ (st.map fun v => v.category).sum + 82 ≤ R.locals ∧ k + 1 ≤ R.cells ∧ n + 6 ≤ R.slots) {α : Type} {res : Ex α} {mc ms : Nat} {Qc : Array Value → State → Outcome → State → Prop} (h : some (Sum.inl (cls, σ)) = some res) (hk : k + 1 ≤ mc ∧ n + 6 ≤ ms) :
    WW G B p l e R s m args below meth c k n (vx_MQ below Qc (XX G B res) args s mc ms (Ab B)) nL pc lv st σ := by
  intro H locs ls hP hS hl
  obtain rfl := Option.some.inj h
  refine vx_throwS (names := exN) C.1 C.2.1 hls C.2.2.2.1 w0 (by decide +kernel) (C.2.2.2.2.1 _ w1) (C.2.2.2.2.1 _ w2) (E.1 _ w3) (vx_hat (fun w hw => C.2.2.2.2.1 _ (w4 w hw)) w5 ?_) w6 E.2.2.2.1 E.2.2.2.2 hS (hl.1.trans C.2.2.1.symm) d0 d3 d4 d6 d9 (fun x hx => (hno x hx).elim) hR.1 hR.2.1 hR.2.2.1 hR.2.2.2 hlk ?_ hS.2.2 hk.1 hk.2
  · intro w hw
    rcases List.mem_append.mp hw with h1 | h1
    · obtain ⟨y, hy, rfl⟩ := List.mem_map.mp h1
      exact va_Nw.use rfl (E.2.1 y hy)
    · obtain rfl := List.mem_singleton.mp h1
      exact va_Nw.use rfl (E.2.2.1 _ wc)
  · intro t _ hz hq
    refine ⟨(cls, σ), rfl, ⟨rfl, ?_⟩, ?_⟩
    · exact hP.kept (fun k q hk => hq _ ((hP k q hk).lt))
    · exact ⟨Nat.le_trans hS.1 hz, fun q h1 h2 => (hq q (Nat.lt_of_lt_of_le h1 hS.1)).trans (hS.2.1 q h1 h2)⟩
end JX
theorem x4A : ∀ w ∈ (vx_atS RX6 76 exA exN).filter goodWord, w ∈ TG := fun w hw => TG_in ((by decide +kernel : ∀ w ∈ (vx_atS RX6 76 exA exN).filter goodWord, w ∈ lw_tbl) w hw) (List.mem_filter.mp hw).2
theorem x5A : ∀ w ∈ (vx_atS RX6 76 exA exN).filter (fun w => !goodWord w), w ∈ (declL.map Cond.declares ++ [Cond.castable exA exA]) := by decide +kernel
theorem x6A : ∀ w ∈ Cond.classLink RX6 72 exA :: Cond.initialized exA :: vx_atS RX6 76 exA exN, vx_ot w = true := by decide +kernel
theorem x1A : Cond.classLink RX6 72 exA ∈ TG := TG_in (by decide +kernel) (by decide +kernel)
theorem x2A : Cond.initialized exA ∈ TG := TG_in (by decide +kernel) (by decide +kernel)
theorem x4S : ∀ w ∈ (vx_atS RX6 94 exS exN).filter goodWord, w ∈ TG := fun w hw => TG_in ((by decide +kernel : ∀ w ∈ (vx_atS RX6 94 exS exN).filter goodWord, w ∈ lw_tbl) w hw) (List.mem_filter.mp hw).2
theorem x5S : ∀ w ∈ (vx_atS RX6 94 exS exN).filter (fun w => !goodWord w), w ∈ (declL.map Cond.declares ++ [Cond.castable exS exS]) := by decide +kernel
theorem x6S : ∀ w ∈ Cond.classLink RX6 90 exS :: Cond.initialized exS :: vx_atS RX6 94 exS exN, vx_ot w = true := by decide +kernel
theorem x1S : Cond.classLink RX6 90 exS ∈ TG := TG_in (by decide +kernel) (by decide +kernel)
theorem x2S : Cond.initialized exS ∈ TG := TG_in (by decide +kernel) (by decide +kernel)
theorem x4I : ∀ w ∈ (vx_atS RX6 249 exI exN).filter goodWord, w ∈ TG := fun w hw => TG_in ((by decide +kernel : ∀ w ∈ (vx_atS RX6 249 exI exN).filter goodWord, w ∈ lw_tbl) w hw) (List.mem_filter.mp hw).2
theorem x5I : ∀ w ∈ (vx_atS RX6 249 exI exN).filter (fun w => !goodWord w), w ∈ (declL.map Cond.declares ++ [Cond.castable exI exI]) := by decide +kernel
theorem x6I : ∀ w ∈ Cond.classLink RX6 245 exI :: Cond.initialized exI :: vx_atS RX6 249 exI exN, vx_ot w = true := by decide +kernel
theorem x1I : Cond.classLink RX6 245 exI ∈ TG := TG_in (by decide +kernel) (by decide +kernel)
theorem x2I : Cond.initialized exI ∈ TG := TG_in (by decide +kernel) (by decide +kernel)
