/-! THE LAW'S WRAPPERS: a call, its answer put into the long[], or the number of the exception -/
def ncL : List (String × String) := [(exA, exI), (exS, exA)]
def Xn (U : State) : Prop := ∀ q ∈ ncL, va_Nc q.1 q.2 U
def Hl (G : GG) (B dy : Nat) (sa : Nat → Nat) (σ : St) (U : State) : Prop := Hx G B dy sa σ U ∧ Xn U
theorem Hl.blind {G : GG} {B dy : Nat} {sa : Nat → Nat} {σ : St} {As : List Value} : FrameBlind (va_Pc As (Hl G B dy sa σ)) := fun a U g mk q => ⟨q.1, (Hx.blind (As := As) a U g mk ⟨q.1, q.2.1⟩).2, fun x hx => va_Nc.moved (u := U) (U := U.calling g mk a) (Vm.Alike.refl U.vm) (q.2.2 x hx)⟩
abbrev wqW (y : MethodName) (cc : ByteArray) (maxL : Nat) (ret : Option FieldType) (hh : List (Nat × Nat × Nat × Nat)) : List Cond := .codeWith y cc maxL ret hh :: TG
abbrev CtW (l : Launch) (G : GG) (B dy : Nat) (sa : Nat → Nat) (y : MethodName) (cc : ByteArray) (maxL : Nat) (ret : Option FieldType) (hh : List (Nat × Nat × Nat × Nat)) (f lc mc ms : Nat) (As : List Value) (σ : St) (Qc : Array Value → State → Outcome → State → Prop) : Prop :=
  Met l y (wqW y cc maxL ret hh) (RM f lc mc ms) (va_Pc As (Hl G B dy sa σ)) Qc mc ms (Ab B)
theorem Met_ofWH {l : Launch} {y : MethodName} {ws ws' : List Cond} {rm : Room} {Pc : Array Value → State → Prop} {Qc : Array Value → State → Outcome → State → Prop} {mc ms : Nat} {free : Addr → Prop} {cc : ByteArray} {maxL : Nat} {ret : Option FieldType} {hh : List (Nat × Nat × Nat × Nat)}
    (hy : plainName y.cls = true) (hw : ws = Cond.codeWith y cc maxL ret hh :: ws')
    (body : ∀ p e s m args below meth c s₁, BodyLoose p l y (headSpec ws rm) cc maxL ret e s m args below meth c s₁ → c.maxLocals = maxL → c.exceptionTable.toList = tableOf hh → Pc args s →
      W p l e (headSpec ws rm).room s m args below meth c s.heap [] 0 0 (MQ below Qc args s mc ms free) (entryFrame m args maxL)) : Met l y ws rm Pc Qc mc ms free := by
  refine MetFree.of_bodyS (code := cc) (maxLocals := maxL) (ret := ret) hy ?_ ?_
  · intro args s m h hn
    obtain ⟨m9, meth, c, hn9, h1, h2, h3, h4, -, h5, h6, -⟩ := Cond.codeWith_spec (atoms_spec (ws := ws) h _ (by rw [hw]; exact List.mem_cons_self))
    cases hn.symm.trans hn9
    exact ⟨meth, c, h1, h2, h3, h4, h5, h6⟩
  · intro p e s m args below meth c s₁ B hml hP _
    have hh0 : s₁.heap = s.heap := by rw [B.state]; rfl
    have htab : c.exceptionTable.toList = tableOf hh := vx_table (x := y) B (atoms_spec (ws := ws) B.pre _ (by rw [hw]; exact List.mem_cons_self))
    obtain ⟨t, a1, o, b1, b2, b3⟩ := body p e s m args below meth c s₁ B hml htab hP s₁ hh0 (Stand.of_body B)
    exact ⟨t, o, a1, b1, b2, ⟨b3.1, b3.2⟩⟩
def wr1 (k1 : String) (x : Option (Ex (Int32 × St))) : Option (Int32 × St) := match x with
  | none => none
  | some (.inr a) => some (0, sL a.2 235 a.1.toInt64)
  | some (.inl q) => if q.1 = k1 then some (1, q.2) else none
def wr2 (k1 k2 : String) (x : Option (Ex (Int32 × St))) : Option (Int32 × St) := match x with
  | none => none
  | some (.inr a) => some (0, sL a.2 235 a.1.toInt64)
  | some (.inl q) => if q.1 = k1 then some (1, q.2) else if q.1 = k2 then some (2, q.2) else none
theorem wr1_some {k1 : String} {x : Option (Ex (Int32 × St))} {r : Int32 × St} (h : wr1 k1 x = some r) : ∃ res, x = some res ∧ ((∃ a, res = .inr a ∧ some (0, sL a.2 235 a.1.toInt64) = some r) ∨ (∃ t, res = .inl (k1, t) ∧ some (1, t) = some r)) := by
  cases x with
  | none => cases h
  | some v => cases v with
    | inr a => exact ⟨_, rfl, Or.inl ⟨a, rfl, h⟩⟩
    | inl q =>
      have h : (if q.1 = k1 then some ((1 : Int32), q.2) else none) = some r := h
      by_cases c1 : q.1 = k1
      · rw [if_pos c1] at h
        exact ⟨_, rfl, Or.inr ⟨q.2, by rw [← c1], h⟩⟩
      · rw [if_neg c1] at h; cases h
theorem wr2_some {k1 k2 : String} {x : Option (Ex (Int32 × St))} {r : Int32 × St} (h : wr2 k1 k2 x = some r) : ∃ res, x = some res ∧ ((∃ a, res = .inr a ∧ some (0, sL a.2 235 a.1.toInt64) = some r) ∨ (∃ t, res = .inl (k1, t) ∧ some (1, t) = some r) ∨ (∃ t, res = .inl (k2, t) ∧ some (2, t) = some r)) := by
  cases x with
  | none => cases h
  | some v => cases v with
    | inr a => exact ⟨_, rfl, Or.inl ⟨a, rfl, h⟩⟩
    | inl q =>
      have h : (if q.1 = k1 then some ((1 : Int32), q.2) else if q.1 = k2 then some (2, q.2) else none) = some r := h
      by_cases c1 : q.1 = k1
      · rw [if_pos c1] at h
        exact ⟨_, rfl, Or.inr (Or.inl ⟨q.2, by rw [← c1], h⟩)⟩
      · rw [if_neg c1] at h
        by_cases c2 : q.1 = k2
        · rw [if_pos c2] at h
          exact ⟨_, rfl, Or.inr (Or.inr ⟨q.2, by rw [← c2], h⟩)⟩
        · rw [if_neg c2] at h; cases h
section JL
variable {G : GG} {B dy : Nat} {sa : Nat → Nat} {own : String} {cc : ByteArray} {nL : Nat} {p : Program} {l : Launch} {e : Env} {R : Room} {s : State} {m : MethodId} {args : Array Value} {below : List Frame} {meth : Method} {c : Code} {k n : Nat} {Q : State → Prop}
variable {pc : Nat} {lv : List (Nat × Value)} {st : List Value} {σ : St}
theorem CtW_of {y : MethodName} {maxL f lc mc ms : Nat} {ret : Option FieldType} {hh : List (Nat × Nat × Nat × Nat)} {As : List Value} {Qc : Array Value → State → Outcome → State → Prop} (hy : plainName y.cls = true) (lv0 : List (Nat × Value)) (hlen : (lg_sl As).length ≤ maxL) (hlv : lv_args 0 As = lv0)
    (body : ∀ {p : Program} {e : Env} {s : State} {m : MethodId} {args : Array Value} {below : List Frame} {meth : Method} {c : Code}, Cx G B dy y.cls cc maxL p s m args c → meth.sig.returnType = ret → meth.locks = false → Xe B sa s → Xn s → c.exceptionTable.toList = tableOf hh → WW G B p l e (RM f lc mc ms) s m args below meth c 0 0 (MQ below Qc args s mc ms (Ab B)) maxL 0 lv0 [] σ) :
    CtW l G B dy sa y cc maxL ret hh f lc mc ms As σ Qc := by
  refine Met_ofWH (cc := cc) (maxL := maxL) (ret := ret) (hh := hh) hy rfl ?_
  intro p e s m args below meth c s₁ B9 hml htab hv
  obtain ⟨rfl, ⟨⟨hP, hK, hX⟩, hE⟩, hN⟩ := hv
  have hts := atoms_spec (ws := wqW y cc maxL ret hh) B9.pre
  have hB : B ≤ s.heap.size := by
    have h1 := (hP 0 _ (wl_get G B σ (i := 0) (by decide))).lt
    have h1 : B + 0 < s.heap.size := h1
    omega
  have C : Cx G B dy y.cls cc maxL p s m As.toArray c := ⟨B9.exec, B9.bytes, hml, findClass_of_methodNamed B9.named, fun w hw => hts w (List.mem_cons_of_mem _ hw), hK, hX, hB⟩
  rw [lg_entry_eq]
  refine body C B9.returns B9.notSynchronized hE hN htab s.heap [] _ hP va_S.rf ?_
  rw [← hlv]
  exact lv_entry As hlen
/-- the class E, thrown at pc, is caught at hp -/
def Cat (own : String) (s : State) (args : Array Value) (c : Code) (E : String) (pc hp : Nat) : Prop := ∃ (pre : List ExceptionTableEntry) (x : ExceptionTableEntry) (suf : List ExceptionTableEntry) (name : String), c.exceptionTable.toList = pre ++ x :: suf ∧
  (∀ z ∈ pre, covers z pc = false ∨ (z.catchType ≠ 0 ∧ ∃ nm : String, (Cond.classLink own z.catchType nm).before args s = true ∧ va_Nc E nm s)) ∧ covers x pc = true ∧ x.catchType ≠ 0 ∧ (Cond.classLink own x.catchType name).before args s = true ∧ (Cond.castable E name).before args s = true ∧ x.handlerPc = hp
theorem out_cell (cA : ClassId) {f g : Nat → Int64} (h : f 0 = g 0) : vp_cell cA (1, .inr (.inl f)) = vp_cell cA (1, .inr (.inl g)) := by
  rw [vp_cell_l, vp_cell_l]
  have e : (fun (j : Fin 1) => Value.long (f j.val)) = fun j => Value.long (g j.val) := by
    funext j
    have h0 : j.val = 0 := by omega
    rw [h0, h]
  unfold arrV
  rw [e]
theorem k235 : kd 235 = 10 := by decide +kernel
theorem a235 : aln 235 = 1 := by decide +kernel
theorem out_upd {H1 : Heap} {v : Int64} (h1 : va_P G.1 vwCl ((wl G B σ).set 235 (B + 235, .inl (G.2 2, aln 235, .inr (.inl (vp_updL (fun _ => σ.2 235) (0 : Int32).toNatClampNeg v))))) H1) : va_P G.1 vwCl (wl G B (sL σ 235 v)) H1 := by
  intro k q hk
  obtain ⟨hk2, rfl⟩ := wl_of hk
  by_cases hj : k = 235
  · subst hj
    have h9 := h1 235 _ (List.getElem?_set_self (by rw [wl_len]; exact hk2))
    show va_at G.1 vwCl (B + 235, shp G B (sL σ 235 v) 235) H1
    rw [shp10 G B _ k235]
    have h9 : H1[B + 235]? = some (vp_cell (G.2 2) (aln 235, .inr (.inl (vp_updL (fun _ => σ.2 235) (0 : Int32).toNatClampNeg v)))) := h9
    show H1[B + 235]? = some (vp_cell (G.2 2) (aln 235, .inr (.inl (fun _ => (sL σ 235 v).2 235))))
    rw [h9, a235]
    refine congrArg some (out_cell _ ?_)
    rw [sL_at]
    simp [vp_updL]
  · have h9 := h1 k (B + k, shp G B σ k) (by rw [List.getElem?_set_ne (Ne.symm hj)]; exact wl_get G B σ hk2)
    show va_at G.1 vwCl (B + k, shp G B (sL σ 235 v) k) H1
    rw [shp_ne G B (σ := σ) (σ2 := sL σ 235 v) (j := k) rfl (sL_ne σ v hj)]
    exact h9
theorem j_last0 (C : Cx G B dy own cc nL p s m args c) {v : Int64} (d : decode cc pc = .ok (.lastore, 1)) (kk : WW G B p l e R s m args below meth c k n Q nL (pc + 1) lv st (sL σ 235 v)) : WW G B p l e R s m args below meth c k n Q nL pc lv (.long v :: .int 0 :: .ref (B + 235) :: st) σ := fun H locs ls hP hS hl => va_last C.1 C.2.1 C.2.2.2.2.2.1 hP (wl_D G B σ) hS 235 2 (wl_at G B σ (kd_lt k235 (by decide)) (shp10 G B σ k235)) rfl (by rw [a235]; exact vp_in_nI (n := 0) (by decide) (by decide)) d (fun H1 locs1 h1 _ h3 => kk H1 locs1 ls (out_upd h1) h3 hl)
theorem j_tryV (C : Cx G B dy own cc nL p s m args c) (E : Xe B sa s) {y : MethodName} {cb : ByteArray} {maxL f lc mc ms a index : Nat} {As rest : List Value} {res : Ex (Int32 × St)} (hM : CtX l G B dy sa y cb maxL (some .int) f lc mc ms (.ref (B + 0) :: As) σ (PX G B res) (XX G B res)) (hy : y.cls = RX6) (w1 : Cond.methodLink own index y ∈ TG) (w2 : Cond.instanceMethod y ∈ TG) (w5 : Cond.selects y.cls y y ∈ TG) (w3 : Cond.initialized y.cls ∈ TG) (w4 : Cond.code y cb maxL (some .int) ∈ TG)
    (hd : y.cls ≠ "java/lang/invoke/MethodHandle" ∧ y.cls ≠ "java/lang/invoke/VarHandle" ∧ (parseMethodDescriptor y.desc).map (fun d => d.parameters.length) = some a) (hR : f + 1 ≤ R.frames ∧ 8 + (maxL + 11) + lc ≤ R.locals) (hf : k + mc ≤ R.cells ∧ n + ms ≤ R.slots) (hn : As.length = a) (hstk : st = As.reverse ++ .ref (B + 0) :: rest) (hcat : (rest.map fun v => v.category).sum ≤ 8) (d : decode cc pc = .ok (.invokevirtual index, 3))
    (kn : ∀ a9 : Int32 × St, res = .inr a9 → WW G B p l e R s m args below meth c (k + mc) (n + ms) Q nL (pc + 3) lv (.int a9.1 :: rest) a9.2)
    (kx : ∀ (E9 : String) (t : St), res = .inl (E9, t) → ∃ hp, Cat own s args c E9 pc hp ∧ ∀ q : Nat, WW G B p l e R s m args below meth c (k + mc) (n + ms) Q nL hp lv [.ref q] t) : WW G B p l e R s m args below meth c k n Q nL pc lv st σ := fun H locs ls hP hS hl =>
  vx_calli (vx_runV (nL := nL) (C := y.cls) (As := As) (rest := rest) ⟨C.1, C.2.1, C.2.2.1, C.2.2.2.1, C.2.2.2.2.1⟩ hM (cwV a C.2.2.2.2.1 (TG_goodIn (call_ws4 w1 w2 w5 w3 w4)) rfl rfl rfl ⟨rfl, hd⟩ hR) ⟨Hx.blind, va_recv C.2.2.2.2.2.1 hP (ci := 6) (q := (y.cls, TX6, 9)) (by rw [hy]; rfl) (wl_at G B σ (i := 0) (by decide +kernel) (shp6 G B σ kA_0)), preX_of (As := .ref (B + 0) :: As) C E hP hS⟩ rfl hn hl.1 hstk (lv_room hcat) d hf) hS (fun _ _ h => h) (fun _ h => h) (fun _ _ h => h)
    (fun E9 ce q9 u t H1 locs1 ht hvm hw hB hz1 hk1 hS1 h9 hv hc9 => by
      obtain ⟨rfl, hB⟩ := hB
      rw [Hp, ht] at hB
      obtain ⟨hp, ⟨pre, x, suf, name, h1, h2, h3, h4, h5, h6, rfl⟩, kq⟩ := kx u.1 u.2 hw
      exact vx_catch C.2.2.2.1 pre x suf h1 h2 h3 h4 h5 h6 h9 hv hc9 (kq q9 H1 locs1 ls hB hS1 hl))
    (fun r9 u t H1 locs1 ht hvm hw hB hz1 hk1 hS1 => by
      rw [Hp, ht] at hB
      exact kn (r9, u) hw H1 locs1 ls hB hS1 hl)
end JL

theorem xl_exI : Cond.classLink RL 24 exI ∈ TG := TG_in (by decide +kernel) (by decide +kernel)
theorem xl_exA : Cond.classLink RL 13 exA ∈ TG := TG_in (by decide +kernel) (by decide +kernel)
theorem xl_exS : Cond.classLink RL 18 exS ∈ TG := TG_in (by decide +kernel) (by decide +kernel)
def f_L_proclaim (t0 : St) : Option (Int32 × St) := wr1 exA (f_X6_proclaim t0)
set_option maxRecDepth 100000 in
set_option maxHeartbeats 4000000 in
theorem c_L_proclaim (l : Launch) (G : GG) (B dy : Nat) (sa : Nat → Nat) (hls : l.stackTraces = false) (t0 : St) {r : Int32} {t9 : St} (h : f_L_proclaim t0 = some (r, t9)) : CtW l G B dy sa yL_proclaim cL_proclaim 3 (some .int) [(0, 8, 11, 13)] 7 145 1 6 [.ref (B + 0), .ref (B + 235)] t0 (PostI G B r t9) := by
  refine CtW_of (by decide +kernel) [(0, .ref (B + 0)), (1, .ref (B + 235))] (Nat.le_of_ble_eq_true rfl) rfl ?_
  intro p e s m args below meth c C hr hlk E hN htab
  refine j_aload_n C (q := 1) dL_proclaim_0 rfl rfl ?_
  refine j_iconst C (v := 0) dL_proclaim_1 (by decide) ?_
  refine j_aload_n C (q := 0) dL_proclaim_2 rfl rfl ?_
  obtain ⟨res, e9, ho⟩ := wr1_some h
  refine j_tryV C E (As := []) (rest := [.int 0, .ref (B + 235)]) (c_X6_proclaim l G B dy sa hls _ e9) rfl tw_458 tw_459 tw_460 ti_6 tw_461 hd_X6_proclaim ⟨Nat.le_of_ble_eq_true rfl, Nat.le_of_ble_eq_true rfl⟩ ⟨Nat.le_of_ble_eq_true rfl, Nat.le_of_ble_eq_true rfl⟩ rfl rfl (Nat.le_of_ble_eq_true rfl) dL_proclaim_3 ?_ ?_
  · intro a9 ha9
    rcases ho with ⟨a2, ha2, h⟩ | ⟨t, ht, h⟩
    · obtain rfl := Sum.inr.inj (ha2.symm.trans ha9)
      refine j_i2l C dL_proclaim_6 ?_
      refine j_last0 C dL_proclaim_7 ?_
      refine j_goto C (tgt := 14) dL_proclaim_8 (by decide) ?_
      refine j_iconst C (v := 0) dL_proclaim_14 (by decide) ?_
      exact j_iret C hr hlk h ⟨Nat.le_of_ble_eq_true rfl, Nat.le_of_ble_eq_true rfl⟩ dL_proclaim_15
    · exact nomatch (ht.symm.trans ha9)
  · intro E9 t5 hE
    rcases ho with ⟨a2, ha2, h⟩ | ⟨t, ht, h⟩
    · exact nomatch (ha2.symm.trans hE)
    · obtain ⟨rfl, rfl⟩ := Prod.mk.inj (Sum.inl.inj (ht.symm.trans hE))
      refine ⟨11, ⟨[], ⟨0, 8, 11, 13⟩, [], exA, (by rw [htab]; rfl), (fun _ h9 => nomatch h9), rfl, by decide, C.2.2.2.2.1 _ xl_exA, va_Nw.use rfl (E.2.2.1 _ (by decide +kernel)), rfl⟩, fun q => ?_⟩
      refine j_astore_n C [(0, .ref (B + 0)), (1, .ref (B + 235)), (2, .ref q)] [1, 2, 0] dL_proclaim_11 rfl (by decide) rfl ?_
      refine j_iconst C (v := 1) dL_proclaim_12 (by decide) ?_
      exact j_iret C hr hlk h ⟨Nat.le_of_ble_eq_true rfl, Nat.le_of_ble_eq_true rfl⟩ dL_proclaim_13
def f_L_forget (t0 : St) : Option (Int32 × St) := wr1 exS (f_X6_forget t0)
set_option maxRecDepth 100000 in
set_option maxHeartbeats 4000000 in
theorem c_L_forget (l : Launch) (G : GG) (B dy : Nat) (sa : Nat → Nat) (hls : l.stackTraces = false) (t0 : St) {r : Int32} {t9 : St} (h : f_L_forget t0 = some (r, t9)) : CtW l G B dy sa yL_forget cL_forget 3 (some .int) [(0, 8, 11, 18)] 7 106 1 6 [.ref (B + 0), .ref (B + 235)] t0 (PostI G B r t9) := by
  refine CtW_of (by decide +kernel) [(0, .ref (B + 0)), (1, .ref (B + 235))] (Nat.le_of_ble_eq_true rfl) rfl ?_
  intro p e s m args below meth c C hr hlk E hN htab
  refine j_aload_n C (q := 1) dL_forget_0 rfl rfl ?_
  refine j_iconst C (v := 0) dL_forget_1 (by decide) ?_
  refine j_aload_n C (q := 0) dL_forget_2 rfl rfl ?_
  obtain ⟨res, e9, ho⟩ := wr1_some h
  refine j_tryV C E (As := []) (rest := [.int 0, .ref (B + 235)]) (c_X6_forget l G B dy sa hls _ e9) rfl tw_572 tw_573 tw_574 ti_6 tw_575 hd_X6_forget ⟨Nat.le_of_ble_eq_true rfl, Nat.le_of_ble_eq_true rfl⟩ ⟨Nat.le_of_ble_eq_true rfl, Nat.le_of_ble_eq_true rfl⟩ rfl rfl (Nat.le_of_ble_eq_true rfl) dL_forget_3 ?_ ?_
  · intro a9 ha9
    rcases ho with ⟨a2, ha2, h⟩ | ⟨t, ht, h⟩
    · obtain rfl := Sum.inr.inj (ha2.symm.trans ha9)
      refine j_i2l C dL_forget_6 ?_
      refine j_last0 C dL_forget_7 ?_
      refine j_goto C (tgt := 14) dL_forget_8 (by decide) ?_
      refine j_iconst C (v := 0) dL_forget_14 (by decide) ?_
      exact j_iret C hr hlk h ⟨Nat.le_of_ble_eq_true rfl, Nat.le_of_ble_eq_true rfl⟩ dL_forget_15
    · exact nomatch (ht.symm.trans ha9)
  · intro E9 t5 hE
    rcases ho with ⟨a2, ha2, h⟩ | ⟨t, ht, h⟩
    · exact nomatch (ha2.symm.trans hE)
    · obtain ⟨rfl, rfl⟩ := Prod.mk.inj (Sum.inl.inj (ht.symm.trans hE))
      refine ⟨11, ⟨[], ⟨0, 8, 11, 18⟩, [], exS, (by rw [htab]; rfl), (fun _ h9 => nomatch h9), rfl, by decide, C.2.2.2.2.1 _ xl_exS, va_Nw.use rfl (E.2.2.1 _ (by decide +kernel)), rfl⟩, fun q => ?_⟩
      refine j_astore_n C [(0, .ref (B + 0)), (1, .ref (B + 235)), (2, .ref q)] [1, 2, 0] dL_forget_11 rfl (by decide) rfl ?_
      refine j_iconst C (v := 1) dL_forget_12 (by decide) ?_
      exact j_iret C hr hlk h ⟨Nat.le_of_ble_eq_true rfl, Nat.le_of_ble_eq_true rfl⟩ dL_forget_13
def f_L_rank (x1 : Int32) (x2 : Int32) (t0 : St) : Option (Int32 × St) := wr2 exI exA (f_X6_rank x1 x2 t0)
set_option maxRecDepth 100000 in
set_option maxHeartbeats 4000000 in
theorem c_L_rank (l : Launch) (G : GG) (B dy : Nat) (sa : Nat → Nat) (hls : l.stackTraces = false) (x1 : Int32) (x2 : Int32) (t0 : St) {r : Int32} {t9 : St} (h : f_L_rank x1 x2 t0 = some (r, t9)) : CtW l G B dy sa yL_rank cL_rank 5 (some .int) [(0, 10, 13, 24), (0, 10, 17, 13)] 8 127 2 12 [.ref (B + 0), .int x1, .int x2, .ref (B + 235)] t0 (PostI G B r t9) := by
  refine CtW_of (by decide +kernel) [(0, .ref (B + 0)), (1, .int x1), (2, .int x2), (3, .ref (B + 235))] (Nat.le_of_ble_eq_true rfl) rfl ?_
  intro p e s m args below meth c C hr hlk E hN htab
  refine j_aload_n C (q := 3) dL_rank_0 rfl rfl ?_
  refine j_iconst C (v := 0) dL_rank_1 (by decide) ?_
  refine j_aload_n C (q := 0) dL_rank_2 rfl rfl ?_
  refine j_iload_n C (q := 1) dL_rank_3 rfl rfl ?_
  refine j_iload_n C (q := 2) dL_rank_4 rfl rfl ?_
  obtain ⟨res, e9, ho⟩ := wr2_some h
  refine j_tryV C E (As := [.int x1, .int x2]) (rest := [.int 0, .ref (B + 235)]) (c_X6_rank l G B dy sa hls x1 x2 _ e9) rfl tw_596 tw_597 tw_598 ti_6 tw_599 hd_X6_rank ⟨Nat.le_of_ble_eq_true rfl, Nat.le_of_ble_eq_true rfl⟩ ⟨Nat.le_of_ble_eq_true rfl, Nat.le_of_ble_eq_true rfl⟩ rfl rfl (Nat.le_of_ble_eq_true rfl) dL_rank_5 ?_ ?_
  · intro a9 ha9
    rcases ho with ⟨a2, ha2, h⟩ | ⟨t, ht, h⟩ | ⟨t, ht, h⟩
    · obtain rfl := Sum.inr.inj (ha2.symm.trans ha9)
      refine j_i2l C dL_rank_8 ?_
      refine j_last0 C dL_rank_9 ?_
      refine j_goto C (tgt := 21) dL_rank_10 (by decide) ?_
      refine j_iconst C (v := 0) dL_rank_21 (by decide) ?_
      exact j_iret C hr hlk h ⟨Nat.le_of_ble_eq_true rfl, Nat.le_of_ble_eq_true rfl⟩ dL_rank_22
    · exact nomatch (ht.symm.trans ha9)
    · exact nomatch (ht.symm.trans ha9)
  · intro E9 t5 hE
    rcases ho with ⟨a2, ha2, h⟩ | ⟨t, ht, h⟩ | ⟨t, ht, h⟩
    · exact nomatch (ha2.symm.trans hE)
    · obtain ⟨rfl, rfl⟩ := Prod.mk.inj (Sum.inl.inj (ht.symm.trans hE))
      refine ⟨13, ⟨[], ⟨0, 10, 13, 24⟩, [⟨0, 10, 17, 13⟩], exI, (by rw [htab]; rfl), (fun _ h9 => nomatch h9), rfl, by decide, C.2.2.2.2.1 _ xl_exI, va_Nw.use rfl (E.2.2.1 _ (by decide +kernel)), rfl⟩, fun q => ?_⟩
      refine j_astore C [(0, .ref (B + 0)), (1, .int x1), (2, .int x2), (3, .ref (B + 235)), (4, .ref q)] [1, 2, 3, 4, 0] dL_rank_13 (by decide) rfl ?_
      refine j_iconst C (v := 1) dL_rank_15 (by decide) ?_
      exact j_iret C hr hlk h ⟨Nat.le_of_ble_eq_true rfl, Nat.le_of_ble_eq_true rfl⟩ dL_rank_16
    · obtain ⟨rfl, rfl⟩ := Prod.mk.inj (Sum.inl.inj (ht.symm.trans hE))
      refine ⟨17, ⟨[⟨0, 10, 13, 24⟩], ⟨0, 10, 17, 13⟩, [], exA, (by rw [htab]; rfl), (fun z hz => by
        obtain rfl := List.mem_singleton.mp hz
        exact Or.inr ⟨by decide, exI, C.2.2.2.2.1 _ xl_exI, hN (exA, exI) (by decide +kernel)⟩), rfl, by decide, C.2.2.2.2.1 _ xl_exA, va_Nw.use rfl (E.2.2.1 _ (by decide +kernel)), rfl⟩, fun q => ?_⟩
      refine j_astore C [(0, .ref (B + 0)), (1, .int x1), (2, .int x2), (3, .ref (B + 235)), (4, .ref q)] [1, 2, 3, 4, 0] dL_rank_17 (by decide) rfl ?_
      refine j_iconst C (v := 2) dL_rank_19 (by decide) ?_
      exact j_iret C hr hlk h ⟨Nat.le_of_ble_eq_true rfl, Nat.le_of_ble_eq_true rfl⟩ dL_rank_20
def f_L_teach (x1 : Int32) (x2 : Int32) (t0 : St) : Option (Int32 × St) := wr1 exA (f_X6_teach x1 x2 t0)
set_option maxRecDepth 100000 in
set_option maxHeartbeats 4000000 in
theorem c_L_teach (l : Launch) (G : GG) (B dy : Nat) (sa : Nat → Nat) (hls : l.stackTraces = false) (x1 : Int32) (x2 : Int32) (t0 : St) {r : Int32} {t9 : St} (h : f_L_teach x1 x2 t0 = some (r, t9)) : CtW l G B dy sa yL_teach cL_teach 5 (some .int) [(0, 10, 13, 13)] 9 147 2 12 [.ref (B + 0), .int x1, .int x2, .ref (B + 235)] t0 (PostI G B r t9) := by
  refine CtW_of (by decide +kernel) [(0, .ref (B + 0)), (1, .int x1), (2, .int x2), (3, .ref (B + 235))] (Nat.le_of_ble_eq_true rfl) rfl ?_
  intro p e s m args below meth c C hr hlk E hN htab
  refine j_aload_n C (q := 3) dL_teach_0 rfl rfl ?_
  refine j_iconst C (v := 0) dL_teach_1 (by decide) ?_
  refine j_aload_n C (q := 0) dL_teach_2 rfl rfl ?_
  refine j_iload_n C (q := 1) dL_teach_3 rfl rfl ?_
  refine j_iload_n C (q := 2) dL_teach_4 rfl rfl ?_
  obtain ⟨res, e9, ho⟩ := wr1_some h
  refine j_tryV C E (As := [.int x1, .int x2]) (rest := [.int 0, .ref (B + 235)]) (c_X6_teach l G B dy sa hls x1 x2 _ e9) rfl tw_628 tw_629 tw_630 ti_6 tw_631 hd_X6_teach ⟨Nat.le_of_ble_eq_true rfl, Nat.le_of_ble_eq_true rfl⟩ ⟨Nat.le_of_ble_eq_true rfl, Nat.le_of_ble_eq_true rfl⟩ rfl rfl (Nat.le_of_ble_eq_true rfl) dL_teach_5 ?_ ?_
  · intro a9 ha9
    rcases ho with ⟨a2, ha2, h⟩ | ⟨t, ht, h⟩
    · obtain rfl := Sum.inr.inj (ha2.symm.trans ha9)
      refine j_i2l C dL_teach_8 ?_
      refine j_last0 C dL_teach_9 ?_
      refine j_goto C (tgt := 17) dL_teach_10 (by decide) ?_
      refine j_iconst C (v := 0) dL_teach_17 (by decide) ?_
      exact j_iret C hr hlk h ⟨Nat.le_of_ble_eq_true rfl, Nat.le_of_ble_eq_true rfl⟩ dL_teach_18
    · exact nomatch (ht.symm.trans ha9)
  · intro E9 t5 hE
    rcases ho with ⟨a2, ha2, h⟩ | ⟨t, ht, h⟩
    · exact nomatch (ha2.symm.trans hE)
    · obtain ⟨rfl, rfl⟩ := Prod.mk.inj (Sum.inl.inj (ht.symm.trans hE))
      refine ⟨13, ⟨[], ⟨0, 10, 13, 13⟩, [], exA, (by rw [htab]; rfl), (fun _ h9 => nomatch h9), rfl, by decide, C.2.2.2.2.1 _ xl_exA, va_Nw.use rfl (E.2.2.1 _ (by decide +kernel)), rfl⟩, fun q => ?_⟩
      refine j_astore C [(0, .ref (B + 0)), (1, .int x1), (2, .int x2), (3, .ref (B + 235)), (4, .ref q)] [1, 2, 3, 4, 0] dL_teach_13 (by decide) rfl ?_
      refine j_iconst C (v := 1) dL_teach_15 (by decide) ?_
      exact j_iret C hr hlk h ⟨Nat.le_of_ble_eq_true rfl, Nat.le_of_ble_eq_true rfl⟩ dL_teach_16
def f_L_carve (x1 : Int32) (x2 : Int32) (t0 : St) : Option (Int32 × St) := wr1 exA (f_X6_carve x1 x2 t0)
set_option maxRecDepth 100000 in
set_option maxHeartbeats 4000000 in
theorem c_L_carve (l : Launch) (G : GG) (B dy : Nat) (sa : Nat → Nat) (hls : l.stackTraces = false) (x1 : Int32) (x2 : Int32) (t0 : St) {r : Int32} {t9 : St} (h : f_L_carve x1 x2 t0 = some (r, t9)) : CtW l G B dy sa yL_carve cL_carve 5 (some .int) [(0, 10, 13, 13)] 9 146 2 12 [.ref (B + 0), .int x1, .int x2, .ref (B + 235)] t0 (PostI G B r t9) := by
  refine CtW_of (by decide +kernel) [(0, .ref (B + 0)), (1, .int x1), (2, .int x2), (3, .ref (B + 235))] (Nat.le_of_ble_eq_true rfl) rfl ?_
  intro p e s m args below meth c C hr hlk E hN htab
  refine j_aload_n C (q := 3) dL_carve_0 rfl rfl ?_
  refine j_iconst C (v := 0) dL_carve_1 (by decide) ?_
  refine j_aload_n C (q := 0) dL_carve_2 rfl rfl ?_
  refine j_iload_n C (q := 1) dL_carve_3 rfl rfl ?_
  refine j_iload_n C (q := 2) dL_carve_4 rfl rfl ?_
  obtain ⟨res, e9, ho⟩ := wr1_some h
  refine j_tryV C E (As := [.int x1, .int x2]) (rest := [.int 0, .ref (B + 235)]) (c_X6_carve l G B dy sa hls x1 x2 _ e9) rfl tw_638 tw_639 tw_640 ti_6 tw_641 hd_X6_carve ⟨Nat.le_of_ble_eq_true rfl, Nat.le_of_ble_eq_true rfl⟩ ⟨Nat.le_of_ble_eq_true rfl, Nat.le_of_ble_eq_true rfl⟩ rfl rfl (Nat.le_of_ble_eq_true rfl) dL_carve_5 ?_ ?_
  · intro a9 ha9
    rcases ho with ⟨a2, ha2, h⟩ | ⟨t, ht, h⟩
    · obtain rfl := Sum.inr.inj (ha2.symm.trans ha9)
      refine j_i2l C dL_carve_8 ?_
      refine j_last0 C dL_carve_9 ?_
      refine j_goto C (tgt := 17) dL_carve_10 (by decide) ?_
      refine j_iconst C (v := 0) dL_carve_17 (by decide) ?_
      exact j_iret C hr hlk h ⟨Nat.le_of_ble_eq_true rfl, Nat.le_of_ble_eq_true rfl⟩ dL_carve_18
    · exact nomatch (ht.symm.trans ha9)
  · intro E9 t5 hE
    rcases ho with ⟨a2, ha2, h⟩ | ⟨t, ht, h⟩
    · exact nomatch (ha2.symm.trans hE)
    · obtain ⟨rfl, rfl⟩ := Prod.mk.inj (Sum.inl.inj (ht.symm.trans hE))
      refine ⟨13, ⟨[], ⟨0, 10, 13, 13⟩, [], exA, (by rw [htab]; rfl), (fun _ h9 => nomatch h9), rfl, by decide, C.2.2.2.2.1 _ xl_exA, va_Nw.use rfl (E.2.2.1 _ (by decide +kernel)), rfl⟩, fun q => ?_⟩
      refine j_astore C [(0, .ref (B + 0)), (1, .int x1), (2, .int x2), (3, .ref (B + 235)), (4, .ref q)] [1, 2, 3, 4, 0] dL_carve_13 (by decide) rfl ?_
      refine j_iconst C (v := 1) dL_carve_15 (by decide) ?_
      exact j_iret C hr hlk h ⟨Nat.le_of_ble_eq_true rfl, Nat.le_of_ble_eq_true rfl⟩ dL_carve_16
def f_L_burn (x1 : Int32) (t0 : St) : Option (Int32 × St) := wr1 exI (f_X6_burn x1 t0)
set_option maxRecDepth 100000 in
set_option maxHeartbeats 4000000 in
theorem c_L_burn (l : Launch) (G : GG) (B dy : Nat) (sa : Nat → Nat) (hls : l.stackTraces = false) (x1 : Int32) (t0 : St) {r : Int32} {t9 : St} (h : f_L_burn x1 t0 = some (r, t9)) : CtW l G B dy sa yL_burn cL_burn 4 (some .int) [(0, 9, 12, 24)] 8 125 1 6 [.ref (B + 0), .int x1, .ref (B + 235)] t0 (PostI G B r t9) := by
  refine CtW_of (by decide +kernel) [(0, .ref (B + 0)), (1, .int x1), (2, .ref (B + 235))] (Nat.le_of_ble_eq_true rfl) rfl ?_
  intro p e s m args below meth c C hr hlk E hN htab
  refine j_aload_n C (q := 2) dL_burn_0 rfl rfl ?_
  refine j_iconst C (v := 0) dL_burn_1 (by decide) ?_
  refine j_aload_n C (q := 0) dL_burn_2 rfl rfl ?_
  refine j_iload_n C (q := 1) dL_burn_3 rfl rfl ?_
  obtain ⟨res, e9, ho⟩ := wr1_some h
  refine j_tryV C E (As := [.int x1]) (rest := [.int 0, .ref (B + 235)]) (c_X6_burn l G B dy sa hls x1 _ e9) rfl tw_656 tw_657 tw_658 ti_6 tw_659 hd_X6_burn ⟨Nat.le_of_ble_eq_true rfl, Nat.le_of_ble_eq_true rfl⟩ ⟨Nat.le_of_ble_eq_true rfl, Nat.le_of_ble_eq_true rfl⟩ rfl rfl (Nat.le_of_ble_eq_true rfl) dL_burn_4 ?_ ?_
  · intro a9 ha9
    rcases ho with ⟨a2, ha2, h⟩ | ⟨t, ht, h⟩
    · obtain rfl := Sum.inr.inj (ha2.symm.trans ha9)
      refine j_i2l C dL_burn_7 ?_
      refine j_last0 C dL_burn_8 ?_
      refine j_goto C (tgt := 15) dL_burn_9 (by decide) ?_
      refine j_iconst C (v := 0) dL_burn_15 (by decide) ?_
      exact j_iret C hr hlk h ⟨Nat.le_of_ble_eq_true rfl, Nat.le_of_ble_eq_true rfl⟩ dL_burn_16
    · exact nomatch (ht.symm.trans ha9)
  · intro E9 t5 hE
    rcases ho with ⟨a2, ha2, h⟩ | ⟨t, ht, h⟩
    · exact nomatch (ha2.symm.trans hE)
    · obtain ⟨rfl, rfl⟩ := Prod.mk.inj (Sum.inl.inj (ht.symm.trans hE))
      refine ⟨12, ⟨[], ⟨0, 9, 12, 24⟩, [], exI, (by rw [htab]; rfl), (fun _ h9 => nomatch h9), rfl, by decide, C.2.2.2.2.1 _ xl_exI, va_Nw.use rfl (E.2.2.1 _ (by decide +kernel)), rfl⟩, fun q => ?_⟩
      refine j_astore_n C [(0, .ref (B + 0)), (1, .int x1), (2, .ref (B + 235)), (3, .ref q)] [1, 2, 3, 0] dL_burn_12 rfl (by decide) rfl ?_
      refine j_iconst C (v := 1) dL_burn_13 (by decide) ?_
      exact j_iret C hr hlk h ⟨Nat.le_of_ble_eq_true rfl, Nat.le_of_ble_eq_true rfl⟩ dL_burn_14
def f_L_set (x1 : Int32) (t0 : St) : Option (Int32 × St) := wr1 exA (f_X6_set x1 t0)
set_option maxRecDepth 100000 in
set_option maxHeartbeats 4000000 in
theorem c_L_set (l : Launch) (G : GG) (B dy : Nat) (sa : Nat → Nat) (hls : l.stackTraces = false) (x1 : Int32) (t0 : St) {r : Int32} {t9 : St} (h : f_L_set x1 t0 = some (r, t9)) : CtW l G B dy sa yL_set cL_set 4 (some .int) [(0, 9, 12, 13)] 8 126 1 6 [.ref (B + 0), .int x1, .ref (B + 235)] t0 (PostI G B r t9) := by
  refine CtW_of (by decide +kernel) [(0, .ref (B + 0)), (1, .int x1), (2, .ref (B + 235))] (Nat.le_of_ble_eq_true rfl) rfl ?_
  intro p e s m args below meth c C hr hlk E hN htab
  refine j_aload_n C (q := 2) dL_set_0 rfl rfl ?_
  refine j_iconst C (v := 0) dL_set_1 (by decide) ?_
  refine j_aload_n C (q := 0) dL_set_2 rfl rfl ?_
  refine j_iload_n C (q := 1) dL_set_3 rfl rfl ?_
  obtain ⟨res, e9, ho⟩ := wr1_some h
  refine j_tryV C E (As := [.int x1]) (rest := [.int 0, .ref (B + 235)]) (c_X6_set l G B dy sa hls x1 _ e9) rfl tw_672 tw_673 tw_674 ti_6 tw_675 hd_X6_set ⟨Nat.le_of_ble_eq_true rfl, Nat.le_of_ble_eq_true rfl⟩ ⟨Nat.le_of_ble_eq_true rfl, Nat.le_of_ble_eq_true rfl⟩ rfl rfl (Nat.le_of_ble_eq_true rfl) dL_set_4 ?_ ?_
  · intro a9 ha9
    rcases ho with ⟨a2, ha2, h⟩ | ⟨t, ht, h⟩
    · obtain rfl := Sum.inr.inj (ha2.symm.trans ha9)
      refine j_i2l C dL_set_7 ?_
      refine j_last0 C dL_set_8 ?_
      refine j_goto C (tgt := 15) dL_set_9 (by decide) ?_
      refine j_iconst C (v := 0) dL_set_15 (by decide) ?_
      exact j_iret C hr hlk h ⟨Nat.le_of_ble_eq_true rfl, Nat.le_of_ble_eq_true rfl⟩ dL_set_16
    · exact nomatch (ht.symm.trans ha9)
  · intro E9 t5 hE
    rcases ho with ⟨a2, ha2, h⟩ | ⟨t, ht, h⟩
    · exact nomatch (ha2.symm.trans hE)
    · obtain ⟨rfl, rfl⟩ := Prod.mk.inj (Sum.inl.inj (ht.symm.trans hE))
      refine ⟨12, ⟨[], ⟨0, 9, 12, 13⟩, [], exA, (by rw [htab]; rfl), (fun _ h9 => nomatch h9), rfl, by decide, C.2.2.2.2.1 _ xl_exA, va_Nw.use rfl (E.2.2.1 _ (by decide +kernel)), rfl⟩, fun q => ?_⟩
      refine j_astore_n C [(0, .ref (B + 0)), (1, .int x1), (2, .ref (B + 235)), (3, .ref q)] [1, 2, 3, 0] dL_set_12 rfl (by decide) rfl ?_
      refine j_iconst C (v := 1) dL_set_13 (by decide) ?_
      exact j_iret C hr hlk h ⟨Nat.le_of_ble_eq_true rfl, Nat.le_of_ble_eq_true rfl⟩ dL_set_14
def f_L_append (x1 : Int32) (t0 : St) : Option (Int32 × St) := wr2 exA exS (f_X6_append x1 t0)
set_option maxRecDepth 100000 in
set_option maxHeartbeats 4000000 in
theorem c_L_append (l : Launch) (G : GG) (B dy : Nat) (sa : Nat → Nat) (hls : l.stackTraces = false) (x1 : Int32) (t0 : St) {r : Int32} {t9 : St} (h : f_L_append x1 t0 = some (r, t9)) : CtW l G B dy sa yL_append cL_append 4 (some .int) [(0, 9, 12, 13), (0, 9, 15, 18)] 8 125 2 12 [.ref (B + 0), .int x1, .ref (B + 235)] t0 (PostI G B r t9) := by
  refine CtW_of (by decide +kernel) [(0, .ref (B + 0)), (1, .int x1), (2, .ref (B + 235))] (Nat.le_of_ble_eq_true rfl) rfl ?_
  intro p e s m args below meth c C hr hlk E hN htab
  refine j_aload_n C (q := 2) dL_append_0 rfl rfl ?_
  refine j_iconst C (v := 0) dL_append_1 (by decide) ?_
  refine j_aload_n C (q := 0) dL_append_2 rfl rfl ?_
  refine j_iload_n C (q := 1) dL_append_3 rfl rfl ?_
  obtain ⟨res, e9, ho⟩ := wr2_some h
  refine j_tryV C E (As := [.int x1]) (rest := [.int 0, .ref (B + 235)]) (c_X6_append l G B dy sa hls x1 _ e9) rfl tw_679 tw_680 tw_681 ti_6 tw_682 hd_X6_append ⟨Nat.le_of_ble_eq_true rfl, Nat.le_of_ble_eq_true rfl⟩ ⟨Nat.le_of_ble_eq_true rfl, Nat.le_of_ble_eq_true rfl⟩ rfl rfl (Nat.le_of_ble_eq_true rfl) dL_append_4 ?_ ?_
  · intro a9 ha9
    rcases ho with ⟨a2, ha2, h⟩ | ⟨t, ht, h⟩ | ⟨t, ht, h⟩
    · obtain rfl := Sum.inr.inj (ha2.symm.trans ha9)
      refine j_i2l C dL_append_7 ?_
      refine j_last0 C dL_append_8 ?_
      refine j_goto C (tgt := 18) dL_append_9 (by decide) ?_
      refine j_iconst C (v := 0) dL_append_18 (by decide) ?_
      exact j_iret C hr hlk h ⟨Nat.le_of_ble_eq_true rfl, Nat.le_of_ble_eq_true rfl⟩ dL_append_19
    · exact nomatch (ht.symm.trans ha9)
    · exact nomatch (ht.symm.trans ha9)
  · intro E9 t5 hE
    rcases ho with ⟨a2, ha2, h⟩ | ⟨t, ht, h⟩ | ⟨t, ht, h⟩
    · exact nomatch (ha2.symm.trans hE)
    · obtain ⟨rfl, rfl⟩ := Prod.mk.inj (Sum.inl.inj (ht.symm.trans hE))
      refine ⟨12, ⟨[], ⟨0, 9, 12, 13⟩, [⟨0, 9, 15, 18⟩], exA, (by rw [htab]; rfl), (fun _ h9 => nomatch h9), rfl, by decide, C.2.2.2.2.1 _ xl_exA, va_Nw.use rfl (E.2.2.1 _ (by decide +kernel)), rfl⟩, fun q => ?_⟩
      refine j_astore_n C [(0, .ref (B + 0)), (1, .int x1), (2, .ref (B + 235)), (3, .ref q)] [1, 2, 3, 0] dL_append_12 rfl (by decide) rfl ?_
      refine j_iconst C (v := 1) dL_append_13 (by decide) ?_
      exact j_iret C hr hlk h ⟨Nat.le_of_ble_eq_true rfl, Nat.le_of_ble_eq_true rfl⟩ dL_append_14
    · obtain ⟨rfl, rfl⟩ := Prod.mk.inj (Sum.inl.inj (ht.symm.trans hE))
      refine ⟨15, ⟨[⟨0, 9, 12, 13⟩], ⟨0, 9, 15, 18⟩, [], exS, (by rw [htab]; rfl), (fun z hz => by
        obtain rfl := List.mem_singleton.mp hz
        exact Or.inr ⟨by decide, exA, C.2.2.2.2.1 _ xl_exA, hN (exS, exA) (by decide +kernel)⟩), rfl, by decide, C.2.2.2.2.1 _ xl_exS, va_Nw.use rfl (E.2.2.1 _ (by decide +kernel)), rfl⟩, fun q => ?_⟩
      refine j_astore_n C [(0, .ref (B + 0)), (1, .int x1), (2, .ref (B + 235)), (3, .ref q)] [1, 2, 3, 0] dL_append_15 rfl (by decide) rfl ?_
      refine j_iconst C (v := 2) dL_append_16 (by decide) ?_
      exact j_iret C hr hlk h ⟨Nat.le_of_ble_eq_true rfl, Nat.le_of_ble_eq_true rfl⟩ dL_append_17
def f_L_undo (t0 : St) : Option (Int32 × St) := wr1 exS (f_X6_undo t0)
set_option maxRecDepth 100000 in
set_option maxHeartbeats 4000000 in
theorem c_L_undo (l : Launch) (G : GG) (B dy : Nat) (sa : Nat → Nat) (hls : l.stackTraces = false) (t0 : St) {r : Int32} {t9 : St} (h : f_L_undo t0 = some (r, t9)) : CtW l G B dy sa yL_undo cL_undo 3 (some .int) [(0, 8, 11, 18)] 7 106 1 6 [.ref (B + 0), .ref (B + 235)] t0 (PostI G B r t9) := by
  refine CtW_of (by decide +kernel) [(0, .ref (B + 0)), (1, .ref (B + 235))] (Nat.le_of_ble_eq_true rfl) rfl ?_
  intro p e s m args below meth c C hr hlk E hN htab
  refine j_aload_n C (q := 1) dL_undo_0 rfl rfl ?_
  refine j_iconst C (v := 0) dL_undo_1 (by decide) ?_
  refine j_aload_n C (q := 0) dL_undo_2 rfl rfl ?_
  obtain ⟨res, e9, ho⟩ := wr1_some h
  refine j_tryV C E (As := []) (rest := [.int 0, .ref (B + 235)]) (c_X6_undo l G B dy sa hls _ e9) rfl tw_687 tw_688 tw_689 ti_6 tw_690 hd_X6_undo ⟨Nat.le_of_ble_eq_true rfl, Nat.le_of_ble_eq_true rfl⟩ ⟨Nat.le_of_ble_eq_true rfl, Nat.le_of_ble_eq_true rfl⟩ rfl rfl (Nat.le_of_ble_eq_true rfl) dL_undo_3 ?_ ?_
  · intro a9 ha9
    rcases ho with ⟨a2, ha2, h⟩ | ⟨t, ht, h⟩
    · obtain rfl := Sum.inr.inj (ha2.symm.trans ha9)
      refine j_i2l C dL_undo_6 ?_
      refine j_last0 C dL_undo_7 ?_
      refine j_goto C (tgt := 14) dL_undo_8 (by decide) ?_
      refine j_iconst C (v := 0) dL_undo_14 (by decide) ?_
      exact j_iret C hr hlk h ⟨Nat.le_of_ble_eq_true rfl, Nat.le_of_ble_eq_true rfl⟩ dL_undo_15
    · exact nomatch (ht.symm.trans ha9)
  · intro E9 t5 hE
    rcases ho with ⟨a2, ha2, h⟩ | ⟨t, ht, h⟩
    · exact nomatch (ha2.symm.trans hE)
    · obtain ⟨rfl, rfl⟩ := Prod.mk.inj (Sum.inl.inj (ht.symm.trans hE))
      refine ⟨11, ⟨[], ⟨0, 8, 11, 18⟩, [], exS, (by rw [htab]; rfl), (fun _ h9 => nomatch h9), rfl, by decide, C.2.2.2.2.1 _ xl_exS, va_Nw.use rfl (E.2.2.1 _ (by decide +kernel)), rfl⟩, fun q => ?_⟩
      refine j_astore_n C [(0, .ref (B + 0)), (1, .ref (B + 235)), (2, .ref q)] [1, 2, 0] dL_undo_11 rfl (by decide) rfl ?_
      refine j_iconst C (v := 1) dL_undo_12 (by decide) ?_
      exact j_iret C hr hlk h ⟨Nat.le_of_ble_eq_true rfl, Nat.le_of_ble_eq_true rfl⟩ dL_undo_13
def f_L_day (x1 : Int32) (x2 : Int32) (x3 : Int32) (t0 : St) : Option (Int32 × St) := wr1 exA (f_X6_day x1 x2 x3 t0)
set_option maxRecDepth 100000 in
set_option maxHeartbeats 4000000 in
theorem c_L_day (l : Launch) (G : GG) (B dy : Nat) (sa : Nat → Nat) (hls : l.stackTraces = false) (x1 : Int32) (x2 : Int32) (x3 : Int32) (t0 : St) {r : Int32} {t9 : St} (h : f_L_day x1 x2 x3 t0 = some (r, t9)) : CtW l G B dy sa yL_day cL_day 6 (some .int) [(0, 12, 15, 13)] 9 163 3 18 [.ref (B + 0), .int x1, .int x2, .int x3, .ref (B + 235)] t0 (PostI G B r t9) := by
  refine CtW_of (by decide +kernel) [(0, .ref (B + 0)), (1, .int x1), (2, .int x2), (3, .int x3), (4, .ref (B + 235))] (Nat.le_of_ble_eq_true rfl) rfl ?_
  intro p e s m args below meth c C hr hlk E hN htab
  refine j_aload C (q := 4) dL_day_0 rfl ?_
  refine j_iconst C (v := 0) dL_day_2 (by decide) ?_
  refine j_aload_n C (q := 0) dL_day_3 rfl rfl ?_
  refine j_iload_n C (q := 1) dL_day_4 rfl rfl ?_
  refine j_iload_n C (q := 2) dL_day_5 rfl rfl ?_
  refine j_iload_n C (q := 3) dL_day_6 rfl rfl ?_
  obtain ⟨res, e9, ho⟩ := wr1_some h
  refine j_tryV C E (As := [.int x1, .int x2, .int x3]) (rest := [.int 0, .ref (B + 235)]) (c_X6_day l G B dy sa hls x1 x2 x3 _ e9) rfl tw_703 tw_704 tw_705 ti_6 tw_706 hd_X6_day ⟨Nat.le_of_ble_eq_true rfl, Nat.le_of_ble_eq_true rfl⟩ ⟨Nat.le_of_ble_eq_true rfl, Nat.le_of_ble_eq_true rfl⟩ rfl rfl (Nat.le_of_ble_eq_true rfl) dL_day_7 ?_ ?_
  · intro a9 ha9
    rcases ho with ⟨a2, ha2, h⟩ | ⟨t, ht, h⟩
    · obtain rfl := Sum.inr.inj (ha2.symm.trans ha9)
      refine j_i2l C dL_day_10 ?_
      refine j_last0 C dL_day_11 ?_
      refine j_goto C (tgt := 19) dL_day_12 (by decide) ?_
      refine j_iconst C (v := 0) dL_day_19 (by decide) ?_
      exact j_iret C hr hlk h ⟨Nat.le_of_ble_eq_true rfl, Nat.le_of_ble_eq_true rfl⟩ dL_day_20
    · exact nomatch (ht.symm.trans ha9)
  · intro E9 t5 hE
    rcases ho with ⟨a2, ha2, h⟩ | ⟨t, ht, h⟩
    · exact nomatch (ha2.symm.trans hE)
    · obtain ⟨rfl, rfl⟩ := Prod.mk.inj (Sum.inl.inj (ht.symm.trans hE))
      refine ⟨15, ⟨[], ⟨0, 12, 15, 13⟩, [], exA, (by rw [htab]; rfl), (fun _ h9 => nomatch h9), rfl, by decide, C.2.2.2.2.1 _ xl_exA, va_Nw.use rfl (E.2.2.1 _ (by decide +kernel)), rfl⟩, fun q => ?_⟩
      refine j_astore C [(0, .ref (B + 0)), (1, .int x1), (2, .int x2), (3, .int x3), (4, .ref (B + 235)), (5, .ref q)] [1, 2, 3, 4, 5, 0] dL_day_15 (by decide) rfl ?_
      refine j_iconst C (v := 1) dL_day_17 (by decide) ?_
      exact j_iret C hr hlk h ⟨Nat.le_of_ble_eq_true rfl, Nat.le_of_ble_eq_true rfl⟩ dL_day_18
def f_L_feast (x1 : Int32) (x2 : Int32) (t0 : St) : Option (Int32 × St) := wr2 exI exA (f_X6_feast x1 x2 t0)
set_option maxRecDepth 100000 in
set_option maxHeartbeats 4000000 in
theorem c_L_feast (l : Launch) (G : GG) (B dy : Nat) (sa : Nat → Nat) (hls : l.stackTraces = false) (x1 : Int32) (x2 : Int32) (t0 : St) {r : Int32} {t9 : St} (h : f_L_feast x1 x2 t0 = some (r, t9)) : CtW l G B dy sa yL_feast cL_feast 5 (some .int) [(0, 10, 13, 24), (0, 10, 17, 13)] 8 126 2 12 [.ref (B + 0), .int x1, .int x2, .ref (B + 235)] t0 (PostI G B r t9) := by
  refine CtW_of (by decide +kernel) [(0, .ref (B + 0)), (1, .int x1), (2, .int x2), (3, .ref (B + 235))] (Nat.le_of_ble_eq_true rfl) rfl ?_
  intro p e s m args below meth c C hr hlk E hN htab
  refine j_aload_n C (q := 3) dL_feast_0 rfl rfl ?_
  refine j_iconst C (v := 0) dL_feast_1 (by decide) ?_
  refine j_aload_n C (q := 0) dL_feast_2 rfl rfl ?_
  refine j_iload_n C (q := 1) dL_feast_3 rfl rfl ?_
  refine j_iload_n C (q := 2) dL_feast_4 rfl rfl ?_
  obtain ⟨res, e9, ho⟩ := wr2_some h
  refine j_tryV C E (As := [.int x1, .int x2]) (rest := [.int 0, .ref (B + 235)]) (c_X6_feast l G B dy sa hls x1 x2 _ e9) rfl tw_716 tw_717 tw_718 ti_6 tw_719 hd_X6_feast ⟨Nat.le_of_ble_eq_true rfl, Nat.le_of_ble_eq_true rfl⟩ ⟨Nat.le_of_ble_eq_true rfl, Nat.le_of_ble_eq_true rfl⟩ rfl rfl (Nat.le_of_ble_eq_true rfl) dL_feast_5 ?_ ?_
  · intro a9 ha9
    rcases ho with ⟨a2, ha2, h⟩ | ⟨t, ht, h⟩ | ⟨t, ht, h⟩
    · obtain rfl := Sum.inr.inj (ha2.symm.trans ha9)
      refine j_i2l C dL_feast_8 ?_
      refine j_last0 C dL_feast_9 ?_
      refine j_goto C (tgt := 21) dL_feast_10 (by decide) ?_
      refine j_iconst C (v := 0) dL_feast_21 (by decide) ?_
      exact j_iret C hr hlk h ⟨Nat.le_of_ble_eq_true rfl, Nat.le_of_ble_eq_true rfl⟩ dL_feast_22
    · exact nomatch (ht.symm.trans ha9)
    · exact nomatch (ht.symm.trans ha9)
  · intro E9 t5 hE
    rcases ho with ⟨a2, ha2, h⟩ | ⟨t, ht, h⟩ | ⟨t, ht, h⟩
    · exact nomatch (ha2.symm.trans hE)
    · obtain ⟨rfl, rfl⟩ := Prod.mk.inj (Sum.inl.inj (ht.symm.trans hE))
      refine ⟨13, ⟨[], ⟨0, 10, 13, 24⟩, [⟨0, 10, 17, 13⟩], exI, (by rw [htab]; rfl), (fun _ h9 => nomatch h9), rfl, by decide, C.2.2.2.2.1 _ xl_exI, va_Nw.use rfl (E.2.2.1 _ (by decide +kernel)), rfl⟩, fun q => ?_⟩
      refine j_astore C [(0, .ref (B + 0)), (1, .int x1), (2, .int x2), (3, .ref (B + 235)), (4, .ref q)] [1, 2, 3, 4, 0] dL_feast_13 (by decide) rfl ?_
      refine j_iconst C (v := 1) dL_feast_15 (by decide) ?_
      exact j_iret C hr hlk h ⟨Nat.le_of_ble_eq_true rfl, Nat.le_of_ble_eq_true rfl⟩ dL_feast_16
    · obtain ⟨rfl, rfl⟩ := Prod.mk.inj (Sum.inl.inj (ht.symm.trans hE))
      refine ⟨17, ⟨[⟨0, 10, 13, 24⟩], ⟨0, 10, 17, 13⟩, [], exA, (by rw [htab]; rfl), (fun z hz => by
        obtain rfl := List.mem_singleton.mp hz
        exact Or.inr ⟨by decide, exI, C.2.2.2.2.1 _ xl_exI, hN (exA, exI) (by decide +kernel)⟩), rfl, by decide, C.2.2.2.2.1 _ xl_exA, va_Nw.use rfl (E.2.2.1 _ (by decide +kernel)), rfl⟩, fun q => ?_⟩
      refine j_astore C [(0, .ref (B + 0)), (1, .int x1), (2, .int x2), (3, .ref (B + 235)), (4, .ref q)] [1, 2, 3, 4, 0] dL_feast_17 (by decide) rfl ?_
      refine j_iconst C (v := 2) dL_feast_19 (by decide) ?_
      exact j_iret C hr hlk h ⟨Nat.le_of_ble_eq_true rfl, Nat.le_of_ble_eq_true rfl⟩ dL_feast_20
def f_L_when (x1 : Int32) (x2 : Int32) (x3 : Int32) (x4 : Int32) (t0 : St) : Option (Int32 × St) := wr2 exI exA (f_X6_when x1 x2 x3 x4 t0)
set_option maxRecDepth 100000 in
set_option maxHeartbeats 4000000 in
theorem c_L_when (l : Launch) (G : GG) (B dy : Nat) (sa : Nat → Nat) (hls : l.stackTraces = false) (x1 : Int32) (x2 : Int32) (x3 : Int32) (x4 : Int32) (t0 : St) {r : Int32} {t9 : St} (h : f_L_when x1 x2 x3 x4 t0 = some (r, t9)) : CtW l G B dy sa yL_when cL_when 7 (some .int) [(0, 14, 17, 24), (0, 14, 21, 13)] 9 148 3 18 [.ref (B + 0), .int x1, .int x2, .int x3, .int x4, .ref (B + 235)] t0 (PostI G B r t9) := by
  refine CtW_of (by decide +kernel) [(0, .ref (B + 0)), (1, .int x1), (2, .int x2), (3, .int x3), (4, .int x4), (5, .ref (B + 235))] (Nat.le_of_ble_eq_true rfl) rfl ?_
  intro p e s m args below meth c C hr hlk E hN htab
  refine j_aload C (q := 5) dL_when_0 rfl ?_
  refine j_iconst C (v := 0) dL_when_2 (by decide) ?_
  refine j_aload_n C (q := 0) dL_when_3 rfl rfl ?_
  refine j_iload_n C (q := 1) dL_when_4 rfl rfl ?_
  refine j_iload_n C (q := 2) dL_when_5 rfl rfl ?_
  refine j_iload_n C (q := 3) dL_when_6 rfl rfl ?_
  refine j_iload C (q := 4) dL_when_7 rfl ?_
  obtain ⟨res, e9, ho⟩ := wr2_some h
  refine j_tryV C E (As := [.int x1, .int x2, .int x3, .int x4]) (rest := [.int 0, .ref (B + 235)]) (c_X6_when l G B dy sa hls x1 x2 x3 x4 _ e9) rfl tw_723 tw_724 tw_725 ti_6 tw_726 hd_X6_when ⟨Nat.le_of_ble_eq_true rfl, Nat.le_of_ble_eq_true rfl⟩ ⟨Nat.le_of_ble_eq_true rfl, Nat.le_of_ble_eq_true rfl⟩ rfl rfl (Nat.le_of_ble_eq_true rfl) dL_when_9 ?_ ?_
  · intro a9 ha9
    rcases ho with ⟨a2, ha2, h⟩ | ⟨t, ht, h⟩ | ⟨t, ht, h⟩
    · obtain rfl := Sum.inr.inj (ha2.symm.trans ha9)
      refine j_i2l C dL_when_12 ?_
      refine j_last0 C dL_when_13 ?_
      refine j_goto C (tgt := 25) dL_when_14 (by decide) ?_
      refine j_iconst C (v := 0) dL_when_25 (by decide) ?_
      exact j_iret C hr hlk h ⟨Nat.le_of_ble_eq_true rfl, Nat.le_of_ble_eq_true rfl⟩ dL_when_26
    · exact nomatch (ht.symm.trans ha9)
    · exact nomatch (ht.symm.trans ha9)
  · intro E9 t5 hE
    rcases ho with ⟨a2, ha2, h⟩ | ⟨t, ht, h⟩ | ⟨t, ht, h⟩
    · exact nomatch (ha2.symm.trans hE)
    · obtain ⟨rfl, rfl⟩ := Prod.mk.inj (Sum.inl.inj (ht.symm.trans hE))
      refine ⟨17, ⟨[], ⟨0, 14, 17, 24⟩, [⟨0, 14, 21, 13⟩], exI, (by rw [htab]; rfl), (fun _ h9 => nomatch h9), rfl, by decide, C.2.2.2.2.1 _ xl_exI, va_Nw.use rfl (E.2.2.1 _ (by decide +kernel)), rfl⟩, fun q => ?_⟩
      refine j_astore C [(0, .ref (B + 0)), (1, .int x1), (2, .int x2), (3, .int x3), (4, .int x4), (5, .ref (B + 235)), (6, .ref q)] [1, 2, 3, 4, 5, 6, 0] dL_when_17 (by decide) rfl ?_
      refine j_iconst C (v := 1) dL_when_19 (by decide) ?_
      exact j_iret C hr hlk h ⟨Nat.le_of_ble_eq_true rfl, Nat.le_of_ble_eq_true rfl⟩ dL_when_20
    · obtain ⟨rfl, rfl⟩ := Prod.mk.inj (Sum.inl.inj (ht.symm.trans hE))
      refine ⟨21, ⟨[⟨0, 14, 17, 24⟩], ⟨0, 14, 21, 13⟩, [], exA, (by rw [htab]; rfl), (fun z hz => by
        obtain rfl := List.mem_singleton.mp hz
        exact Or.inr ⟨by decide, exI, C.2.2.2.2.1 _ xl_exI, hN (exA, exI) (by decide +kernel)⟩), rfl, by decide, C.2.2.2.2.1 _ xl_exA, va_Nw.use rfl (E.2.2.1 _ (by decide +kernel)), rfl⟩, fun q => ?_⟩
      refine j_astore C [(0, .ref (B + 0)), (1, .int x1), (2, .int x2), (3, .int x3), (4, .int x4), (5, .ref (B + 235)), (6, .ref q)] [1, 2, 3, 4, 5, 6, 0] dL_when_21 (by decide) rfl ?_
      refine j_iconst C (v := 2) dL_when_23 (by decide) ?_
      exact j_iret C hr hlk h ⟨Nat.le_of_ble_eq_true rfl, Nat.le_of_ble_eq_true rfl⟩ dL_when_24
def f_L_settled (x1 : Int32) (x2 : Int32) (t0 : St) : Option (Int32 × St) := wr2 exI exA (f_X6_settled x1 x2 t0)
set_option maxRecDepth 100000 in
set_option maxHeartbeats 4000000 in
theorem c_L_settled (l : Launch) (G : GG) (B dy : Nat) (sa : Nat → Nat) (hls : l.stackTraces = false) (x1 : Int32) (x2 : Int32) (t0 : St) {r : Int32} {t9 : St} (h : f_L_settled x1 x2 t0 = some (r, t9)) : CtW l G B dy sa yL_settled cL_settled 5 (some .int) [(0, 10, 13, 24), (0, 10, 17, 13)] 9 146 2 12 [.ref (B + 0), .int x1, .int x2, .ref (B + 235)] t0 (PostI G B r t9) := by
  refine CtW_of (by decide +kernel) [(0, .ref (B + 0)), (1, .int x1), (2, .int x2), (3, .ref (B + 235))] (Nat.le_of_ble_eq_true rfl) rfl ?_
  intro p e s m args below meth c C hr hlk E hN htab
  refine j_aload_n C (q := 3) dL_settled_0 rfl rfl ?_
  refine j_iconst C (v := 0) dL_settled_1 (by decide) ?_
  refine j_aload_n C (q := 0) dL_settled_2 rfl rfl ?_
  refine j_iload_n C (q := 1) dL_settled_3 rfl rfl ?_
  refine j_iload_n C (q := 2) dL_settled_4 rfl rfl ?_
  obtain ⟨res, e9, ho⟩ := wr2_some h
  refine j_tryV C E (As := [.int x1, .int x2]) (rest := [.int 0, .ref (B + 235)]) (c_X6_settled l G B dy sa hls x1 x2 _ e9) rfl tw_730 tw_731 tw_732 ti_6 tw_733 hd_X6_settled ⟨Nat.le_of_ble_eq_true rfl, Nat.le_of_ble_eq_true rfl⟩ ⟨Nat.le_of_ble_eq_true rfl, Nat.le_of_ble_eq_true rfl⟩ rfl rfl (Nat.le_of_ble_eq_true rfl) dL_settled_5 ?_ ?_
  · intro a9 ha9
    rcases ho with ⟨a2, ha2, h⟩ | ⟨t, ht, h⟩ | ⟨t, ht, h⟩
    · obtain rfl := Sum.inr.inj (ha2.symm.trans ha9)
      refine j_i2l C dL_settled_8 ?_
      refine j_last0 C dL_settled_9 ?_
      refine j_goto C (tgt := 21) dL_settled_10 (by decide) ?_
      refine j_iconst C (v := 0) dL_settled_21 (by decide) ?_
      exact j_iret C hr hlk h ⟨Nat.le_of_ble_eq_true rfl, Nat.le_of_ble_eq_true rfl⟩ dL_settled_22
    · exact nomatch (ht.symm.trans ha9)
    · exact nomatch (ht.symm.trans ha9)
  · intro E9 t5 hE
    rcases ho with ⟨a2, ha2, h⟩ | ⟨t, ht, h⟩ | ⟨t, ht, h⟩
    · exact nomatch (ha2.symm.trans hE)
    · obtain ⟨rfl, rfl⟩ := Prod.mk.inj (Sum.inl.inj (ht.symm.trans hE))
      refine ⟨13, ⟨[], ⟨0, 10, 13, 24⟩, [⟨0, 10, 17, 13⟩], exI, (by rw [htab]; rfl), (fun _ h9 => nomatch h9), rfl, by decide, C.2.2.2.2.1 _ xl_exI, va_Nw.use rfl (E.2.2.1 _ (by decide +kernel)), rfl⟩, fun q => ?_⟩
      refine j_astore C [(0, .ref (B + 0)), (1, .int x1), (2, .int x2), (3, .ref (B + 235)), (4, .ref q)] [1, 2, 3, 4, 0] dL_settled_13 (by decide) rfl ?_
      refine j_iconst C (v := 1) dL_settled_15 (by decide) ?_
      exact j_iret C hr hlk h ⟨Nat.le_of_ble_eq_true rfl, Nat.le_of_ble_eq_true rfl⟩ dL_settled_16
    · obtain ⟨rfl, rfl⟩ := Prod.mk.inj (Sum.inl.inj (ht.symm.trans hE))
      refine ⟨17, ⟨[⟨0, 10, 13, 24⟩], ⟨0, 10, 17, 13⟩, [], exA, (by rw [htab]; rfl), (fun z hz => by
        obtain rfl := List.mem_singleton.mp hz
        exact Or.inr ⟨by decide, exI, C.2.2.2.2.1 _ xl_exI, hN (exA, exI) (by decide +kernel)⟩), rfl, by decide, C.2.2.2.2.1 _ xl_exA, va_Nw.use rfl (E.2.2.1 _ (by decide +kernel)), rfl⟩, fun q => ?_⟩
      refine j_astore C [(0, .ref (B + 0)), (1, .int x1), (2, .int x2), (3, .ref (B + 235)), (4, .ref q)] [1, 2, 3, 4, 0] dL_settled_17 (by decide) rfl ?_
      refine j_iconst C (v := 2) dL_settled_19 (by decide) ?_
      exact j_iret C hr hlk h ⟨Nat.le_of_ble_eq_true rfl, Nat.le_of_ble_eq_true rfl⟩ dL_settled_20
def f_L_quarrels (x1 : Int32) (t0 : St) : Option (Int32 × St) := wr1 exA (f_X6_quarrels x1 t0)
set_option maxRecDepth 100000 in
set_option maxHeartbeats 4000000 in
theorem c_L_quarrels (l : Launch) (G : GG) (B dy : Nat) (sa : Nat → Nat) (hls : l.stackTraces = false) (x1 : Int32) (t0 : St) {r : Int32} {t9 : St} (h : f_L_quarrels x1 t0 = some (r, t9)) : CtW l G B dy sa yL_quarrels cL_quarrels 4 (some .int) [(0, 9, 12, 13)] 9 145 1 6 [.ref (B + 0), .int x1, .ref (B + 235)] t0 (PostI G B r t9) := by
  refine CtW_of (by decide +kernel) [(0, .ref (B + 0)), (1, .int x1), (2, .ref (B + 235))] (Nat.le_of_ble_eq_true rfl) rfl ?_
  intro p e s m args below meth c C hr hlk E hN htab
  refine j_aload_n C (q := 2) dL_quarrels_0 rfl rfl ?_
  refine j_iconst C (v := 0) dL_quarrels_1 (by decide) ?_
  refine j_aload_n C (q := 0) dL_quarrels_2 rfl rfl ?_
  refine j_iload_n C (q := 1) dL_quarrels_3 rfl rfl ?_
  obtain ⟨res, e9, ho⟩ := wr1_some h
  refine j_tryV C E (As := [.int x1]) (rest := [.int 0, .ref (B + 235)]) (c_X6_quarrels l G B dy sa hls x1 _ e9) rfl tw_737 tw_738 tw_739 ti_6 tw_740 hd_X6_quarrels ⟨Nat.le_of_ble_eq_true rfl, Nat.le_of_ble_eq_true rfl⟩ ⟨Nat.le_of_ble_eq_true rfl, Nat.le_of_ble_eq_true rfl⟩ rfl rfl (Nat.le_of_ble_eq_true rfl) dL_quarrels_4 ?_ ?_
  · intro a9 ha9
    rcases ho with ⟨a2, ha2, h⟩ | ⟨t, ht, h⟩
    · obtain rfl := Sum.inr.inj (ha2.symm.trans ha9)
      refine j_i2l C dL_quarrels_7 ?_
      refine j_last0 C dL_quarrels_8 ?_
      refine j_goto C (tgt := 15) dL_quarrels_9 (by decide) ?_
      refine j_iconst C (v := 0) dL_quarrels_15 (by decide) ?_
      exact j_iret C hr hlk h ⟨Nat.le_of_ble_eq_true rfl, Nat.le_of_ble_eq_true rfl⟩ dL_quarrels_16
    · exact nomatch (ht.symm.trans ha9)
  · intro E9 t5 hE
    rcases ho with ⟨a2, ha2, h⟩ | ⟨t, ht, h⟩
    · exact nomatch (ha2.symm.trans hE)
    · obtain ⟨rfl, rfl⟩ := Prod.mk.inj (Sum.inl.inj (ht.symm.trans hE))
      refine ⟨12, ⟨[], ⟨0, 9, 12, 13⟩, [], exA, (by rw [htab]; rfl), (fun _ h9 => nomatch h9), rfl, by decide, C.2.2.2.2.1 _ xl_exA, va_Nw.use rfl (E.2.2.1 _ (by decide +kernel)), rfl⟩, fun q => ?_⟩
      refine j_astore_n C [(0, .ref (B + 0)), (1, .int x1), (2, .ref (B + 235)), (3, .ref q)] [1, 2, 3, 0] dL_quarrels_12 rfl (by decide) rfl ?_
      refine j_iconst C (v := 1) dL_quarrels_13 (by decide) ?_
      exact j_iret C hr hlk h ⟨Nat.le_of_ble_eq_true rfl, Nat.le_of_ble_eq_true rfl⟩ dL_quarrels_14
def f_L_stick (x1 : Int32) (x2 : Int32) (t0 : St) : Option (Int32 × St) := wr2 exI exA (f_X6_stick x1 x2 t0)
set_option maxRecDepth 100000 in
set_option maxHeartbeats 4000000 in
theorem c_L_stick (l : Launch) (G : GG) (B dy : Nat) (sa : Nat → Nat) (hls : l.stackTraces = false) (x1 : Int32) (x2 : Int32) (t0 : St) {r : Int32} {t9 : St} (h : f_L_stick x1 x2 t0 = some (r, t9)) : CtW l G B dy sa yL_stick cL_stick 5 (some .int) [(0, 10, 13, 24), (0, 10, 17, 13)] 8 165 2 12 [.ref (B + 0), .int x1, .int x2, .ref (B + 235)] t0 (PostI G B r t9) := by
  refine CtW_of (by decide +kernel) [(0, .ref (B + 0)), (1, .int x1), (2, .int x2), (3, .ref (B + 235))] (Nat.le_of_ble_eq_true rfl) rfl ?_
  intro p e s m args below meth c C hr hlk E hN htab
  refine j_aload_n C (q := 3) dL_stick_0 rfl rfl ?_
  refine j_iconst C (v := 0) dL_stick_1 (by decide) ?_
  refine j_aload_n C (q := 0) dL_stick_2 rfl rfl ?_
  refine j_iload_n C (q := 1) dL_stick_3 rfl rfl ?_
  refine j_iload_n C (q := 2) dL_stick_4 rfl rfl ?_
  obtain ⟨res, e9, ho⟩ := wr2_some h
  refine j_tryV C E (As := [.int x1, .int x2]) (rest := [.int 0, .ref (B + 235)]) (c_X6_stick l G B dy sa hls x1 x2 _ e9) rfl tw_744 tw_745 tw_746 ti_6 tw_747 hd_X6_stick ⟨Nat.le_of_ble_eq_true rfl, Nat.le_of_ble_eq_true rfl⟩ ⟨Nat.le_of_ble_eq_true rfl, Nat.le_of_ble_eq_true rfl⟩ rfl rfl (Nat.le_of_ble_eq_true rfl) dL_stick_5 ?_ ?_
  · intro a9 ha9
    rcases ho with ⟨a2, ha2, h⟩ | ⟨t, ht, h⟩ | ⟨t, ht, h⟩
    · obtain rfl := Sum.inr.inj (ha2.symm.trans ha9)
      refine j_i2l C dL_stick_8 ?_
      refine j_last0 C dL_stick_9 ?_
      refine j_goto C (tgt := 21) dL_stick_10 (by decide) ?_
      refine j_iconst C (v := 0) dL_stick_21 (by decide) ?_
      exact j_iret C hr hlk h ⟨Nat.le_of_ble_eq_true rfl, Nat.le_of_ble_eq_true rfl⟩ dL_stick_22
    · exact nomatch (ht.symm.trans ha9)
    · exact nomatch (ht.symm.trans ha9)
  · intro E9 t5 hE
    rcases ho with ⟨a2, ha2, h⟩ | ⟨t, ht, h⟩ | ⟨t, ht, h⟩
    · exact nomatch (ha2.symm.trans hE)
    · obtain ⟨rfl, rfl⟩ := Prod.mk.inj (Sum.inl.inj (ht.symm.trans hE))
      refine ⟨13, ⟨[], ⟨0, 10, 13, 24⟩, [⟨0, 10, 17, 13⟩], exI, (by rw [htab]; rfl), (fun _ h9 => nomatch h9), rfl, by decide, C.2.2.2.2.1 _ xl_exI, va_Nw.use rfl (E.2.2.1 _ (by decide +kernel)), rfl⟩, fun q => ?_⟩
      refine j_astore C [(0, .ref (B + 0)), (1, .int x1), (2, .int x2), (3, .ref (B + 235)), (4, .ref q)] [1, 2, 3, 4, 0] dL_stick_13 (by decide) rfl ?_
      refine j_iconst C (v := 1) dL_stick_15 (by decide) ?_
      exact j_iret C hr hlk h ⟨Nat.le_of_ble_eq_true rfl, Nat.le_of_ble_eq_true rfl⟩ dL_stick_16
    · obtain ⟨rfl, rfl⟩ := Prod.mk.inj (Sum.inl.inj (ht.symm.trans hE))
      refine ⟨17, ⟨[⟨0, 10, 13, 24⟩], ⟨0, 10, 17, 13⟩, [], exA, (by rw [htab]; rfl), (fun z hz => by
        obtain rfl := List.mem_singleton.mp hz
        exact Or.inr ⟨by decide, exI, C.2.2.2.2.1 _ xl_exI, hN (exA, exI) (by decide +kernel)⟩), rfl, by decide, C.2.2.2.2.1 _ xl_exA, va_Nw.use rfl (E.2.2.1 _ (by decide +kernel)), rfl⟩, fun q => ?_⟩
      refine j_astore C [(0, .ref (B + 0)), (1, .int x1), (2, .int x2), (3, .ref (B + 235)), (4, .ref q)] [1, 2, 3, 4, 0] dL_stick_17 (by decide) rfl ?_
      refine j_iconst C (v := 2) dL_stick_19 (by decide) ?_
      exact j_iret C hr hlk h ⟨Nat.le_of_ble_eq_true rfl, Nat.le_of_ble_eq_true rfl⟩ dL_stick_20
def f_L_count (x1 : Int32) (t0 : St) : Option (Int32 × St) := wr1 exA (f_X6_count x1 t0)
set_option maxRecDepth 100000 in
set_option maxHeartbeats 4000000 in
theorem c_L_count (l : Launch) (G : GG) (B dy : Nat) (sa : Nat → Nat) (hls : l.stackTraces = false) (x1 : Int32) (t0 : St) {r : Int32} {t9 : St} (h : f_L_count x1 t0 = some (r, t9)) : CtW l G B dy sa yL_count cL_count 4 (some .int) [(0, 9, 12, 13)] 8 163 1 6 [.ref (B + 0), .int x1, .ref (B + 235)] t0 (PostI G B r t9) := by
  refine CtW_of (by decide +kernel) [(0, .ref (B + 0)), (1, .int x1), (2, .ref (B + 235))] (Nat.le_of_ble_eq_true rfl) rfl ?_
  intro p e s m args below meth c C hr hlk E hN htab
  refine j_aload_n C (q := 2) dL_count_0 rfl rfl ?_
  refine j_iconst C (v := 0) dL_count_1 (by decide) ?_
  refine j_aload_n C (q := 0) dL_count_2 rfl rfl ?_
  refine j_iload_n C (q := 1) dL_count_3 rfl rfl ?_
  obtain ⟨res, e9, ho⟩ := wr1_some h
  refine j_tryV C E (As := [.int x1]) (rest := [.int 0, .ref (B + 235)]) (c_X6_count l G B dy sa hls x1 _ e9) rfl tw_751 tw_752 tw_753 ti_6 tw_754 hd_X6_count ⟨Nat.le_of_ble_eq_true rfl, Nat.le_of_ble_eq_true rfl⟩ ⟨Nat.le_of_ble_eq_true rfl, Nat.le_of_ble_eq_true rfl⟩ rfl rfl (Nat.le_of_ble_eq_true rfl) dL_count_4 ?_ ?_
  · intro a9 ha9
    rcases ho with ⟨a2, ha2, h⟩ | ⟨t, ht, h⟩
    · obtain rfl := Sum.inr.inj (ha2.symm.trans ha9)
      refine j_i2l C dL_count_7 ?_
      refine j_last0 C dL_count_8 ?_
      refine j_goto C (tgt := 15) dL_count_9 (by decide) ?_
      refine j_iconst C (v := 0) dL_count_15 (by decide) ?_
      exact j_iret C hr hlk h ⟨Nat.le_of_ble_eq_true rfl, Nat.le_of_ble_eq_true rfl⟩ dL_count_16
    · exact nomatch (ht.symm.trans ha9)
  · intro E9 t5 hE
    rcases ho with ⟨a2, ha2, h⟩ | ⟨t, ht, h⟩
    · exact nomatch (ha2.symm.trans hE)
    · obtain ⟨rfl, rfl⟩ := Prod.mk.inj (Sum.inl.inj (ht.symm.trans hE))
      refine ⟨12, ⟨[], ⟨0, 9, 12, 13⟩, [], exA, (by rw [htab]; rfl), (fun _ h9 => nomatch h9), rfl, by decide, C.2.2.2.2.1 _ xl_exA, va_Nw.use rfl (E.2.2.1 _ (by decide +kernel)), rfl⟩, fun q => ?_⟩
      refine j_astore_n C [(0, .ref (B + 0)), (1, .int x1), (2, .ref (B + 235)), (3, .ref q)] [1, 2, 3, 0] dL_count_12 rfl (by decide) rfl ?_
      refine j_iconst C (v := 1) dL_count_13 (by decide) ?_
      exact j_iret C hr hlk h ⟨Nat.le_of_ble_eq_true rfl, Nat.le_of_ble_eq_true rfl⟩ dL_count_14
def f_L_range (x1 : Int32) (x2 : Int32) (x3 : Int32) (x4 : Int32) (t0 : St) : Option (Int32 × St) := wr2 exI exA (f_X6_range x1 x2 x3 x4 t0)
set_option maxRecDepth 100000 in
set_option maxHeartbeats 4000000 in
theorem c_L_range (l : Launch) (G : GG) (B dy : Nat) (sa : Nat → Nat) (hls : l.stackTraces = false) (x1 : Int32) (x2 : Int32) (x3 : Int32) (x4 : Int32) (t0 : St) {r : Int32} {t9 : St} (h : f_L_range x1 x2 x3 x4 t0 = some (r, t9)) : CtW l G B dy sa yL_range cL_range 7 (some .int) [(0, 14, 17, 24), (0, 14, 21, 13)] 9 168 3 18 [.ref (B + 0), .int x1, .int x2, .int x3, .int x4, .ref (B + 235)] t0 (PostI G B r t9) := by
  refine CtW_of (by decide +kernel) [(0, .ref (B + 0)), (1, .int x1), (2, .int x2), (3, .int x3), (4, .int x4), (5, .ref (B + 235))] (Nat.le_of_ble_eq_true rfl) rfl ?_
  intro p e s m args below meth c C hr hlk E hN htab
  refine j_aload C (q := 5) dL_range_0 rfl ?_
  refine j_iconst C (v := 0) dL_range_2 (by decide) ?_
  refine j_aload_n C (q := 0) dL_range_3 rfl rfl ?_
  refine j_iload_n C (q := 1) dL_range_4 rfl rfl ?_
  refine j_iload_n C (q := 2) dL_range_5 rfl rfl ?_
  refine j_iload_n C (q := 3) dL_range_6 rfl rfl ?_
  refine j_iload C (q := 4) dL_range_7 rfl ?_
  obtain ⟨res, e9, ho⟩ := wr2_some h
  refine j_tryV C E (As := [.int x1, .int x2, .int x3, .int x4]) (rest := [.int 0, .ref (B + 235)]) (c_X6_range l G B dy sa hls x1 x2 x3 x4 _ e9) rfl tw_758 tw_759 tw_760 ti_6 tw_761 hd_X6_range ⟨Nat.le_of_ble_eq_true rfl, Nat.le_of_ble_eq_true rfl⟩ ⟨Nat.le_of_ble_eq_true rfl, Nat.le_of_ble_eq_true rfl⟩ rfl rfl (Nat.le_of_ble_eq_true rfl) dL_range_9 ?_ ?_
  · intro a9 ha9
    rcases ho with ⟨a2, ha2, h⟩ | ⟨t, ht, h⟩ | ⟨t, ht, h⟩
    · obtain rfl := Sum.inr.inj (ha2.symm.trans ha9)
      refine j_i2l C dL_range_12 ?_
      refine j_last0 C dL_range_13 ?_
      refine j_goto C (tgt := 25) dL_range_14 (by decide) ?_
      refine j_iconst C (v := 0) dL_range_25 (by decide) ?_
      exact j_iret C hr hlk h ⟨Nat.le_of_ble_eq_true rfl, Nat.le_of_ble_eq_true rfl⟩ dL_range_26
    · exact nomatch (ht.symm.trans ha9)
    · exact nomatch (ht.symm.trans ha9)
  · intro E9 t5 hE
    rcases ho with ⟨a2, ha2, h⟩ | ⟨t, ht, h⟩ | ⟨t, ht, h⟩
    · exact nomatch (ha2.symm.trans hE)
    · obtain ⟨rfl, rfl⟩ := Prod.mk.inj (Sum.inl.inj (ht.symm.trans hE))
      refine ⟨17, ⟨[], ⟨0, 14, 17, 24⟩, [⟨0, 14, 21, 13⟩], exI, (by rw [htab]; rfl), (fun _ h9 => nomatch h9), rfl, by decide, C.2.2.2.2.1 _ xl_exI, va_Nw.use rfl (E.2.2.1 _ (by decide +kernel)), rfl⟩, fun q => ?_⟩
      refine j_astore C [(0, .ref (B + 0)), (1, .int x1), (2, .int x2), (3, .int x3), (4, .int x4), (5, .ref (B + 235)), (6, .ref q)] [1, 2, 3, 4, 5, 6, 0] dL_range_17 (by decide) rfl ?_
      refine j_iconst C (v := 1) dL_range_19 (by decide) ?_
      exact j_iret C hr hlk h ⟨Nat.le_of_ble_eq_true rfl, Nat.le_of_ble_eq_true rfl⟩ dL_range_20
    · obtain ⟨rfl, rfl⟩ := Prod.mk.inj (Sum.inl.inj (ht.symm.trans hE))
      refine ⟨21, ⟨[⟨0, 14, 17, 24⟩], ⟨0, 14, 21, 13⟩, [], exA, (by rw [htab]; rfl), (fun z hz => by
        obtain rfl := List.mem_singleton.mp hz
        exact Or.inr ⟨by decide, exI, C.2.2.2.2.1 _ xl_exI, hN (exA, exI) (by decide +kernel)⟩), rfl, by decide, C.2.2.2.2.1 _ xl_exA, va_Nw.use rfl (E.2.2.1 _ (by decide +kernel)), rfl⟩, fun q => ?_⟩
      refine j_astore C [(0, .ref (B + 0)), (1, .int x1), (2, .int x2), (3, .int x3), (4, .int x4), (5, .ref (B + 235)), (6, .ref q)] [1, 2, 3, 4, 5, 6, 0] dL_range_21 (by decide) rfl ?_
      refine j_iconst C (v := 2) dL_range_23 (by decide) ?_
      exact j_iret C hr hlk h ⟨Nat.le_of_ble_eq_true rfl, Nat.le_of_ble_eq_true rfl⟩ dL_range_24
def f_L_alike (x1 : Int32) (t0 : St) : Option (Int32 × St) := wr1 exA (f_X6_alike x1 t0)
set_option maxRecDepth 100000 in
set_option maxHeartbeats 4000000 in
theorem c_L_alike (l : Launch) (G : GG) (B dy : Nat) (sa : Nat → Nat) (hls : l.stackTraces = false) (x1 : Int32) (t0 : St) {r : Int32} {t9 : St} (h : f_L_alike x1 t0 = some (r, t9)) : CtW l G B dy sa yL_alike cL_alike 4 (some .int) [(0, 9, 12, 13)] 9 160 1 6 [.ref (B + 0), .int x1, .ref (B + 235)] t0 (PostI G B r t9) := by
  refine CtW_of (by decide +kernel) [(0, .ref (B + 0)), (1, .int x1), (2, .ref (B + 235))] (Nat.le_of_ble_eq_true rfl) rfl ?_
  intro p e s m args below meth c C hr hlk E hN htab
  refine j_aload_n C (q := 2) dL_alike_0 rfl rfl ?_
  refine j_iconst C (v := 0) dL_alike_1 (by decide) ?_
  refine j_aload_n C (q := 0) dL_alike_2 rfl rfl ?_
  refine j_iload_n C (q := 1) dL_alike_3 rfl rfl ?_
  obtain ⟨res, e9, ho⟩ := wr1_some h
  refine j_tryV C E (As := [.int x1]) (rest := [.int 0, .ref (B + 235)]) (c_X6_alike l G B dy sa hls x1 _ e9) rfl tw_765 tw_766 tw_767 ti_6 tw_768 hd_X6_alike ⟨Nat.le_of_ble_eq_true rfl, Nat.le_of_ble_eq_true rfl⟩ ⟨Nat.le_of_ble_eq_true rfl, Nat.le_of_ble_eq_true rfl⟩ rfl rfl (Nat.le_of_ble_eq_true rfl) dL_alike_4 ?_ ?_
  · intro a9 ha9
    rcases ho with ⟨a2, ha2, h⟩ | ⟨t, ht, h⟩
    · obtain rfl := Sum.inr.inj (ha2.symm.trans ha9)
      refine j_i2l C dL_alike_7 ?_
      refine j_last0 C dL_alike_8 ?_
      refine j_goto C (tgt := 15) dL_alike_9 (by decide) ?_
      refine j_iconst C (v := 0) dL_alike_15 (by decide) ?_
      exact j_iret C hr hlk h ⟨Nat.le_of_ble_eq_true rfl, Nat.le_of_ble_eq_true rfl⟩ dL_alike_16
    · exact nomatch (ht.symm.trans ha9)
  · intro E9 t5 hE
    rcases ho with ⟨a2, ha2, h⟩ | ⟨t, ht, h⟩
    · exact nomatch (ha2.symm.trans hE)
    · obtain ⟨rfl, rfl⟩ := Prod.mk.inj (Sum.inl.inj (ht.symm.trans hE))
      refine ⟨12, ⟨[], ⟨0, 9, 12, 13⟩, [], exA, (by rw [htab]; rfl), (fun _ h9 => nomatch h9), rfl, by decide, C.2.2.2.2.1 _ xl_exA, va_Nw.use rfl (E.2.2.1 _ (by decide +kernel)), rfl⟩, fun q => ?_⟩
      refine j_astore_n C [(0, .ref (B + 0)), (1, .int x1), (2, .ref (B + 235)), (3, .ref q)] [1, 2, 3, 0] dL_alike_12 rfl (by decide) rfl ?_
      refine j_iconst C (v := 1) dL_alike_13 (by decide) ?_
      exact j_iret C hr hlk h ⟨Nat.le_of_ble_eq_true rfl, Nat.le_of_ble_eq_true rfl⟩ dL_alike_14
def f_L_peace (x1 : Int32) (x2 : Int32) (t0 : St) : Option (Int32 × St) := wr1 exA (f_X6_peace x1 x2 t0)
set_option maxRecDepth 100000 in
set_option maxHeartbeats 4000000 in
theorem c_L_peace (l : Launch) (G : GG) (B dy : Nat) (sa : Nat → Nat) (hls : l.stackTraces = false) (x1 : Int32) (x2 : Int32) (t0 : St) {r : Int32} {t9 : St} (h : f_L_peace x1 x2 t0 = some (r, t9)) : CtW l G B dy sa yL_peace cL_peace 5 (some .int) [(0, 10, 13, 13)] 9 167 2 12 [.ref (B + 0), .int x1, .int x2, .ref (B + 235)] t0 (PostI G B r t9) := by
  refine CtW_of (by decide +kernel) [(0, .ref (B + 0)), (1, .int x1), (2, .int x2), (3, .ref (B + 235))] (Nat.le_of_ble_eq_true rfl) rfl ?_
  intro p e s m args below meth c C hr hlk E hN htab
  refine j_aload_n C (q := 3) dL_peace_0 rfl rfl ?_
  refine j_iconst C (v := 0) dL_peace_1 (by decide) ?_
  refine j_aload_n C (q := 0) dL_peace_2 rfl rfl ?_
  refine j_iload_n C (q := 1) dL_peace_3 rfl rfl ?_
  refine j_iload_n C (q := 2) dL_peace_4 rfl rfl ?_
  obtain ⟨res, e9, ho⟩ := wr1_some h
  refine j_tryV C E (As := [.int x1, .int x2]) (rest := [.int 0, .ref (B + 235)]) (c_X6_peace l G B dy sa hls x1 x2 _ e9) rfl tw_772 tw_773 tw_774 ti_6 tw_775 hd_X6_peace ⟨Nat.le_of_ble_eq_true rfl, Nat.le_of_ble_eq_true rfl⟩ ⟨Nat.le_of_ble_eq_true rfl, Nat.le_of_ble_eq_true rfl⟩ rfl rfl (Nat.le_of_ble_eq_true rfl) dL_peace_5 ?_ ?_
  · intro a9 ha9
    rcases ho with ⟨a2, ha2, h⟩ | ⟨t, ht, h⟩
    · obtain rfl := Sum.inr.inj (ha2.symm.trans ha9)
      refine j_i2l C dL_peace_8 ?_
      refine j_last0 C dL_peace_9 ?_
      refine j_goto C (tgt := 17) dL_peace_10 (by decide) ?_
      refine j_iconst C (v := 0) dL_peace_17 (by decide) ?_
      exact j_iret C hr hlk h ⟨Nat.le_of_ble_eq_true rfl, Nat.le_of_ble_eq_true rfl⟩ dL_peace_18
    · exact nomatch (ht.symm.trans ha9)
  · intro E9 t5 hE
    rcases ho with ⟨a2, ha2, h⟩ | ⟨t, ht, h⟩
    · exact nomatch (ha2.symm.trans hE)
    · obtain ⟨rfl, rfl⟩ := Prod.mk.inj (Sum.inl.inj (ht.symm.trans hE))
      refine ⟨13, ⟨[], ⟨0, 10, 13, 13⟩, [], exA, (by rw [htab]; rfl), (fun _ h9 => nomatch h9), rfl, by decide, C.2.2.2.2.1 _ xl_exA, va_Nw.use rfl (E.2.2.1 _ (by decide +kernel)), rfl⟩, fun q => ?_⟩
      refine j_astore C [(0, .ref (B + 0)), (1, .int x1), (2, .int x2), (3, .ref (B + 235)), (4, .ref q)] [1, 2, 3, 4, 0] dL_peace_13 (by decide) rfl ?_
      refine j_iconst C (v := 1) dL_peace_15 (by decide) ?_
      exact j_iret C hr hlk h ⟨Nat.le_of_ble_eq_true rfl, Nat.le_of_ble_eq_true rfl⟩ dL_peace_16
def f_L_moved (x1 : Int32) (x2 : Int32) (t0 : St) : Option (Int32 × St) := wr1 exA (f_X6_moved x1 x2 t0)
set_option maxRecDepth 100000 in
set_option maxHeartbeats 4000000 in
theorem c_L_moved (l : Launch) (G : GG) (B dy : Nat) (sa : Nat → Nat) (hls : l.stackTraces = false) (x1 : Int32) (x2 : Int32) (t0 : St) {r : Int32} {t9 : St} (h : f_L_moved x1 x2 t0 = some (r, t9)) : CtW l G B dy sa yL_moved cL_moved 5 (some .int) [(0, 10, 13, 13)] 9 146 2 12 [.ref (B + 0), .int x1, .int x2, .ref (B + 235)] t0 (PostI G B r t9) := by
  refine CtW_of (by decide +kernel) [(0, .ref (B + 0)), (1, .int x1), (2, .int x2), (3, .ref (B + 235))] (Nat.le_of_ble_eq_true rfl) rfl ?_
  intro p e s m args below meth c C hr hlk E hN htab
  refine j_aload_n C (q := 3) dL_moved_0 rfl rfl ?_
  refine j_iconst C (v := 0) dL_moved_1 (by decide) ?_
  refine j_aload_n C (q := 0) dL_moved_2 rfl rfl ?_
  refine j_iload_n C (q := 1) dL_moved_3 rfl rfl ?_
  refine j_iload_n C (q := 2) dL_moved_4 rfl rfl ?_
  obtain ⟨res, e9, ho⟩ := wr1_some h
  refine j_tryV C E (As := [.int x1, .int x2]) (rest := [.int 0, .ref (B + 235)]) (c_X6_moved l G B dy sa hls x1 x2 _ e9) rfl tw_779 tw_780 tw_781 ti_6 tw_782 hd_X6_moved ⟨Nat.le_of_ble_eq_true rfl, Nat.le_of_ble_eq_true rfl⟩ ⟨Nat.le_of_ble_eq_true rfl, Nat.le_of_ble_eq_true rfl⟩ rfl rfl (Nat.le_of_ble_eq_true rfl) dL_moved_5 ?_ ?_
  · intro a9 ha9
    rcases ho with ⟨a2, ha2, h⟩ | ⟨t, ht, h⟩
    · obtain rfl := Sum.inr.inj (ha2.symm.trans ha9)
      refine j_i2l C dL_moved_8 ?_
      refine j_last0 C dL_moved_9 ?_
      refine j_goto C (tgt := 17) dL_moved_10 (by decide) ?_
      refine j_iconst C (v := 0) dL_moved_17 (by decide) ?_
      exact j_iret C hr hlk h ⟨Nat.le_of_ble_eq_true rfl, Nat.le_of_ble_eq_true rfl⟩ dL_moved_18
    · exact nomatch (ht.symm.trans ha9)
  · intro E9 t5 hE
    rcases ho with ⟨a2, ha2, h⟩ | ⟨t, ht, h⟩
    · exact nomatch (ha2.symm.trans hE)
    · obtain ⟨rfl, rfl⟩ := Prod.mk.inj (Sum.inl.inj (ht.symm.trans hE))
      refine ⟨13, ⟨[], ⟨0, 10, 13, 13⟩, [], exA, (by rw [htab]; rfl), (fun _ h9 => nomatch h9), rfl, by decide, C.2.2.2.2.1 _ xl_exA, va_Nw.use rfl (E.2.2.1 _ (by decide +kernel)), rfl⟩, fun q => ?_⟩
      refine j_astore C [(0, .ref (B + 0)), (1, .int x1), (2, .int x2), (3, .ref (B + 235)), (4, .ref q)] [1, 2, 3, 4, 0] dL_moved_13 (by decide) rfl ?_
      refine j_iconst C (v := 1) dL_moved_15 (by decide) ?_
      exact j_iret C hr hlk h ⟨Nat.le_of_ble_eq_true rfl, Nat.le_of_ble_eq_true rfl⟩ dL_moved_16
