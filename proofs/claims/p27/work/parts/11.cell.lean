/-! THE SCRIPT, and the law's method that reads it -/
def ScrB (B b L : Nat) (xs : Nat → Int32) (s : State) : Prop := va_X b L xs s s.heap ∧ b < s.heap.size ∧ ¬ Ab B b
def Hs (G : GG) (B dy b L : Nat) (xs : Nat → Int32) (σ : St) (U : State) : Prop := Hk G B dy σ U ∧ ScrB B b L xs U
theorem Hs.blind {G : GG} {B dy b L : Nat} {xs : Nat → Int32} {σ : St} {As : List Value} : FrameBlind (va_Pc As (Hs G B dy b L xs σ)) := fun a U g mk q => ⟨q.1, (Hk.blind (As := As) a U g mk ⟨q.1, q.2.1⟩).2, va_X.moved (u := U) (U := U.calling g mk a) (Vm.Alike.refl U.vm) q.2.2.1, q.2.2.2⟩
abbrev CtS (l : Launch) (G : GG) (B dy b L : Nat) (xs : Nat → Int32) (y : MethodName) (cc : ByteArray) (maxL : Nat) (ret : Option FieldType) (f lc mc ms : Nat) (As : List Value) (σ : St) (Qc : Array Value → State → Outcome → State → Prop) : Prop :=
  Met l y (wq y cc maxL ret) (RM f lc mc ms) (va_Pc As (Hs G B dy b L xs σ)) Qc mc ms (Ab B)
section JC3
variable {G : GG} {B dy b L : Nat} {xs : Nat → Int32} {own : String} {cc : ByteArray} {nL : Nat} {p : Program} {l : Launch} {e : Env} {R : Room} {s : State} {m : MethodId} {args : Array Value} {below : List Frame} {meth : Method} {c : Code} {k n : Nat} {Q : State → Prop}
variable {pc : Nat} {lv : List (Nat × Value)} {st : List Value} {σ : St}
theorem j_slen (C : Cx G B dy own cc nL p s m args c) (SB : ScrB B b L xs s) (d : decode cc pc = .ok (.arraylength, 1)) (kk : WW G B p l e R s m args below meth c k n Q nL (pc + 1) lv (.int (Int32.ofNat L) :: st) σ) : WW G B p l e R s m args below meth c k n Q nL pc lv (.ref b :: st) σ := fun H locs ls hP hS hl => va_slen C.1 C.2.1 SB.1 SB.2.1 SB.2.2 hS d (kk H locs ls hP hS hl)
theorem j_sld {x : Int32} (C : Cx G B dy own cc nL p s m args c) (SB : ScrB B b L xs s) (hin : vp_in x L) (d : decode cc pc = .ok (.iaload, 1)) (kk : WW G B p l e R s m args below meth c k n Q nL (pc + 1) lv (.int (xs x.toNatClampNeg) :: st) σ) : WW G B p l e R s m args below meth c k n Q nL pc lv (.int x :: .ref b :: st) σ := fun H locs ls hP hS hl => va_sld C.1 C.2.1 SB.1 SB.2.1 SB.2.2 hS hin d (kk H locs ls hP hS hl)
theorem preS_of {H : Heap} {locs : List Loc} {As : List Value} (C : Cx G B dy own cc nL p s m args c) (SB : ScrB B b L xs s) (hP : va_P G.1 vwCl (wl G B σ) H) (hS : va_S (Ab B) s.heap H locs) : ∀ U : State, U.heap = H → s.WarmedH U.vm → va_Pc As (Hs G B dy b L xs σ) As.toArray U :=
  fun U hU hW => ⟨rfl, (pre_of (As := As) C hP hS U hU hW).2, by rw [hU]; exact (SB.1.moved hW.alike).kept (hS.2.1 b SB.2.1 SB.2.2), by rw [hU]; exact Nat.lt_of_lt_of_le SB.2.1 hS.1, SB.2.2⟩
theorem CtS_of {y : MethodName} {maxL f lc mc ms : Nat} {ret : Option FieldType} {As : List Value} {Qc : Array Value → State → Outcome → State → Prop} (hy : plainName y.cls = true) (lv0 : List (Nat × Value)) (hlen : (lg_sl As).length ≤ maxL) (hlv : lv_args 0 As = lv0)
    (body : ∀ {p : Program} {e : Env} {s : State} {m : MethodId} {args : Array Value} {below : List Frame} {meth : Method} {c : Code}, Cx G B dy y.cls cc maxL p s m args c → meth.sig.returnType = ret → meth.locks = false → ScrB B b L xs s → WW G B p l e (RM f lc mc ms) s m args below meth c 0 0 (MQ below Qc args s mc ms (Ab B)) maxL 0 lv0 [] σ) :
    CtS l G B dy b L xs y cc maxL ret f lc mc ms As σ Qc := by
  refine Met.ofW (cc := cc) (maxL := maxL) (ret := ret) hy rfl ?_
  intro p e s m args below meth c s₁ B9 hml hv
  obtain ⟨rfl, ⟨hP, hK, hX⟩, hSB⟩ := hv
  have hts := atoms_spec (ws := wq y cc maxL ret) B9.pre
  have hB : B ≤ s.heap.size := by
    have h1 := (hP 0 _ (wl_get G B σ (i := 0) (by decide))).lt
    have h1 : B + 0 < s.heap.size := h1
    omega
  have C : Cx G B dy y.cls cc maxL p s m As.toArray c := ⟨B9.exec, B9.bytes, hml, findClass_of_methodNamed B9.named, fun w hw => hts w (List.mem_cons_of_mem _ hw), hK, hX, hB⟩
  rw [lg_entry_eq]
  refine body C B9.returns B9.notSynchronized hSB s.heap [] _ hP va_S.rf ?_
  rw [← hlv]
  exact lv_entry As hlen
theorem j_callC (C : Cx G B dy own cc nL p s m args c) (SB : ScrB B b L xs s) {y : MethodName} {cb : ByteArray} {maxL f lc mc ms a index : Nat} {ret : Option FieldType} {As rest : List Value} {r : Int32} {σ2 : St} (hM : CtS l G B dy b L xs y cb maxL ret f lc mc ms As σ (PostI G B r σ2)) (w1 : Cond.methodLink own index y ∈ TG) (w2 : Cond.static y ∈ TG) (w3 : Cond.initialized y.cls ∈ TG) (w4 : Cond.code y cb maxL ret ∈ TG)
    (hd : y.cls = own ∧ y.cls ≠ "java/lang/invoke/MethodHandle" ∧ y.cls ≠ "java/lang/invoke/VarHandle" ∧ (parseMethodDescriptor y.desc).map (fun d => d.parameters.length) = some a) (hR : f + 1 ≤ R.frames ∧ 8 + (maxL + 11) + lc ≤ R.locals) (hf : k + mc ≤ R.cells ∧ n + ms ≤ R.slots) (hn : As.length = a) (hstk : st = As.reverse ++ rest) (hcat : (rest.map fun v => v.category).sum ≤ 8) (d : decode cc pc = .ok (.invokestatic index, 3))
    (kk : WW G B p l e R s m args below meth c (k + mc) (n + ms) Q nL (pc + 3) lv (.int r :: rest) σ2) : WW G B p l e R s m args below meth c k n Q nL pc lv st σ := fun H locs ls hP hS hl =>
  va_calli (va_runS (nL := nL) (As := As) (rest := rest) ⟨C.1, C.2.1, C.2.2.1, C.2.2.2.1, C.2.2.2.2.1⟩ hM (cwS a C.2.2.2.2.1 (TG_goodIn (call_ws3 w1 w2 (hd.1 ▸ w3) w4)) rfl rfl rfl hd hR) ⟨Hs.blind, preS_of C SB hP hS⟩ rfl hn hl.1 hstk (lv_room hcat) d hf) hS (fun _ _ h => h) (fun _ h => h) (fun r9 u t H1 locs1 ht hvm hw hB hz1 hk1 hS1 => by
    obtain ⟨rfl, rfl⟩ := hw
    rw [Hp, ht] at hB
    exact kk H1 locs1 ls hB hS1 hl)
end JC3
def f_L_cell (xs : Nat → Int32) (L : Nat) (x1 : Int32) (t0 : St) : Option (Int32 × St) :=
  (if (Int32.ofNat L) ≤ x1 then some (((7919 * (x1 + 3)) * (x1 + 11)), t0) else gd (inB x1 L) <| some (xs (tc x1), t0))
set_option maxRecDepth 100000 in
set_option maxHeartbeats 4000000 in
theorem c_L_cell (l : Launch) (G : GG) (B dy b L : Nat) (xs : Nat → Int32) (x1 : Int32) (t0 : St) {r : Int32} {t9 : St} (h : f_L_cell xs L x1 t0 = some (r, t9)) : CtS l G B dy b L xs yL_cell cL_cell 2 (some .int) 0 0 0 0 [.ref b, .int x1] t0 (PostI G B r t9) := by
  refine CtS_of (by decide +kernel) [(0, .ref b), (1, .int x1)] (Nat.le_of_ble_eq_true rfl) rfl ?_
  intro p e s m args below meth c C hr hlk SB
  refine j_iload_n C (q := 1) dL_cell_0 rfl rfl ?_
  refine j_aload_n C (q := 0) dL_cell_1 rfl rfl ?_
  refine j_slen C SB dL_cell_2 ?_
  refine j_icmp_ge C (tgt := 12) dL_cell_3 (by decide) (fun c1 => ?_) (fun c1 => ?_)
  · have h := ite_t h c1
    refine j_sipush C (v := 7919) dL_cell_12 (by decide) ?_
    refine j_iload_n C (q := 1) dL_cell_15 rfl rfl ?_
    refine j_iconst C (v := 3) dL_cell_16 (by decide) ?_
    refine j_iadd C dL_cell_17 ?_
    refine j_imul C dL_cell_18 ?_
    refine j_iload_n C (q := 1) dL_cell_19 rfl rfl ?_
    refine j_bipush C (v := 11) dL_cell_20 (by decide) ?_
    refine j_iadd C dL_cell_22 ?_
    refine j_imul C dL_cell_23 ?_
    exact j_iret C hr hlk h ⟨Nat.le_of_ble_eq_true rfl, Nat.le_of_ble_eq_true rfl⟩ dL_cell_24
  · have h := ite_f h c1
    obtain ⟨g1, h⟩ := gd_some h
    refine j_aload_n C (q := 0) dL_cell_6 rfl rfl ?_
    refine j_iload_n C (q := 1) dL_cell_7 rfl rfl ?_
    refine j_sld C SB (inB_in g1) dL_cell_8 ?_
    refine j_goto C (tgt := 24) dL_cell_9 (by decide) ?_
    exact j_iret C hr hlk h ⟨Nat.le_of_ble_eq_true rfl, Nat.le_of_ble_eq_true rfl⟩ dL_cell_24
