/-! THE CLAIM OUT OF ONE WALK OF THE LAW'S BODY -/
def R_law : String := "RunicSticksLaw"
def lw_P (b : Addr) (xs : List Int32) (args : Array Value) (s : State) : Prop := args = #[.ref b] ∧ s.IntsAt b xs ∧ xs.length ≤ 2560 ∧ (Jvm.Cond.and given_1 narrow_1).before args s = true
/-- what a walk over the start with the record d0 says of its end, said of the start itself -/
theorem lw_closed {s t : State} {o : Outcome} {d0 : Drawn} {L : List Loc} {k n : Nat} (hd0 : s.drawn.sameBut d0 lw_cs) (hv : ∃ v, o = .returned v) (hW : (s.setDrawn d0).WarmedH t.vm) (hs : (s.setDrawn d0).sameButNew ({ t with vm := s.vm } : State) L k n) : State.butDraws s t lw_cs (fun t1 => Framed s o t1 L k n) := by
  have h2 : t.drawn = d0 := congrArg State.drawn hs.1
  refine ⟨⟨hv, hW, State.sameButNew.setDrawn hs s.drawn⟩, ?_, by decide⟩
  rw [h2]
  exact hd0
def lw_Q (_ : Array Value) (s : State) (o : Outcome) (t : State) : Prop := o = .returned (some (.int 1)) ∧ State.butDraws s t lw_cs (fun t1 => Framed s o t1 [] room_1.cells room_1.slots)
def lw_Z (below : List Frame) (a : Array Value) (s : State) : State → Prop := fun t => ∃ o, t.status = .running ∧ Ended t below o ∧ lw_Q a s o t
/-- the law's own end, with 1 on the stack, nothing written that was there before, its room as the claim has it; d0: the record of draws at this point (at the entry s.drawn: begin with 'refine W.base ?_' and 'have hd0 := Drawn.sameBut.refl s.drawn lw_cs') -/
theorem lw_ret {p : Program} {l : Launch} {e : Env} {s : State} {m : MethodId} {below : List Frame} {meth : Method} {c : Code} {b : Nat} {d0 : Drawn} (hd0 : s.drawn.sameBut d0 lw_cs) (hx : p.tables.exec = Jvm.exec) (hb : c.code = code) (hr : meth.sig.returnType = ret) (hlocks : meth.locks = false) {pc : Nat} {H : Heap} {ls : Array Slot} (hdg : decode code pc = .ok (.ireturn, 1)) : W p l e room_1 (s.setDrawn d0) m #[Value.ref b] below meth c H [] room_1.cells room_1.slots (lw_Z below #[Value.ref b] s) (F0 m pc ls [.int 1]) := by
  intro T hT X
  obtain ⟨fs, hret, hrun, hended, hW, hframe⟩ := X.leave (v := some (.int 1)) (hlocks := hlocks) (fun h => by rw [hr] at h; cases h)
  have hmeth' : T.vm.method? m = some meth := X.method'
  refine ⟨T.setFrames fs, ?_, .returned (some (.int 1)), hrun, hended, rfl, lw_closed hd0 ⟨_, rfl⟩ hW hframe⟩
  jvm_step X.here [X.here.top, hx, hb, hdg, hmeth', hr, ret, narrow_b1]
  (try refine ⟨rfl, ?_⟩); (try refine ⟨rfl, ?_⟩)
  first | (intro acts; rw [hret _ acts rfl rfl rfl]) | rw [hret _ _ rfl rfl rfl]
  exact Steps.refl _
/-- what holds at the law's entry: the machine, the code, the tables' words (any of lw_tbl by 'hts w (by decide +kernel)'), the script of L ints xs at the cell b, what the Statement gives of the start (any of its parts by flat_of_before) -/
def lw_At (p : Program) (s : State) (m : MethodId) (meth : Method) (c : Code) (b L : Nat) (xs : Nat → Int32) : Prop :=
  p.tables.exec = Jvm.exec ∧ c.code = code ∧ meth.sig.returnType = ret ∧ c.maxLocals = 9 ∧ s.vm.findClass R_law = some m.cls ∧ (∀ w ∈ lw_tbl, w.before #[Value.ref b] s = true) ∧ va_X b L xs s s.heap ∧ b < s.heap.size ∧ meth.locks = false ∧ (Jvm.Cond.and given_1 narrow_1).before #[Value.ref b] s = true

section JLL
variable {G : GG} {B dy : Nat} {sa : Nat → Nat} {cc : ByteArray} {nL : Nat} {p : Program} {l : Launch} {e : Env} {R : Room} {s : State} {m : MethodId} {args : Array Value} {below : List Frame} {meth : Method} {c : Code} {k n : Nat} {Q : State → Prop}
variable {pc : Nat} {lv : List (Nat × Value)} {st : List Value} {σ : St}
def ScrB (B b L : Nat) (xs : Nat → Int32) (s : State) : Prop := va_X b L xs s s.heap ∧ b < s.heap.size ∧ ¬ Ab B b
theorem j_slen {own : String} {b L : Nat} {xs : Nat → Int32} (C : Cx G B dy own cc nL p s m args c) (SB : ScrB B b L xs s) (d : decode cc pc = .ok (.arraylength, 1)) (kk : WW G B p l e R s m args below meth c k n Q nL (pc + 1) lv (.int (Int32.ofNat L) :: st) σ) : WW G B p l e R s m args below meth c k n Q nL pc lv (.ref b :: st) σ := fun H locs ls hP hS hl => va_slen C.1 C.2.1 SB.1 SB.2.1 SB.2.2 hS d (kk H locs ls hP hS hl)
theorem j_sld {own : String} {b L : Nat} {xs : Nat → Int32} {x : Int32} (C : Cx G B dy own cc nL p s m args c) (SB : ScrB B b L xs s) (hin : vp_in x L) (d : decode cc pc = .ok (.iaload, 1)) (kk : WW G B p l e R s m args below meth c k n Q nL (pc + 1) lv (.int (xs x.toNatClampNeg) :: st) σ) : WW G B p l e R s m args below meth c k n Q nL pc lv (.int x :: .ref b :: st) σ := fun H locs ls hP hS hl => va_sld C.1 C.2.1 SB.1 SB.2.1 SB.2.2 hS hin d (kk H locs ls hP hS hl)
theorem preL_of {own : String} {H : Heap} {locs : List Loc} {As : List Value} (C : Cx G B dy own cc nL p s m args c) (E : Xe B sa s) (N : Xn s) (hP : va_P G.1 vwCl (wl G B σ) H) (hS : va_S (Ab B) s.heap H locs) : ∀ U : State, U.heap = H → s.WarmedH U.vm → va_Pc As (Hl G B dy sa σ) As.toArray U :=
  fun U hU hW => ⟨rfl, (preX_of (As := As) C E hP hS U hU hW).2, fun q hq => (N q hq).moved hW.alike⟩
theorem call_wsW {own : String} {index : Nat} {y : MethodName} {cb : ByteArray} {maxL : Nat} {ret : Option FieldType} {hh : List (Nat × Nat × Nat × Nat)} (w1 : Cond.methodLink own index y ∈ TG) (w2 : Cond.static y ∈ TG) (w3 : Cond.initialized y.cls ∈ TG) (w4 : Cond.codeWith y cb maxL ret hh ∈ TG) : ∀ w ∈ va_wsS own index y (wqW y cb maxL ret hh), w ∈ TG := by
  intro w hw
  rcases List.mem_append.mp hw with h | h
  · simp only [List.mem_cons, List.not_mem_nil, or_false] at h
    rcases h with rfl | rfl | rfl
    · exact w1
    · exact w2
    · exact w3
  · rcases List.mem_cons.mp h with h | h
    · rw [h]; exact w4
    · exact h
theorem j_callW {own : String} (C : Cx G B dy own cc nL p s m args c) (E : Xe B sa s) (N : Xn s) {y : MethodName} {cb : ByteArray} {maxL f lc mc ms a index : Nat} {hh : List (Nat × Nat × Nat × Nat)} {ret : Option FieldType} {As rest : List Value} {r : Int32} {σ2 : St} (hM : CtW l G B dy sa y cb maxL ret hh f lc mc ms As σ (PostI G B r σ2)) (w1 : Cond.methodLink own index y ∈ TG) (w2 : Cond.static y ∈ TG) (w3 : Cond.initialized y.cls ∈ TG) (w4 : Cond.codeWith y cb maxL ret hh ∈ TG)
    (hd : y.cls ≠ "java/lang/invoke/MethodHandle" ∧ y.cls ≠ "java/lang/invoke/VarHandle" ∧ (parseMethodDescriptor y.desc).map (fun d => d.parameters.length) = some a) (hR : f + 1 ≤ R.frames ∧ 8 + (maxL + 11) + lc ≤ R.locals) (hf : k + mc ≤ R.cells ∧ n + ms ≤ R.slots) (hn : As.length = a) (hstk : st = As.reverse ++ rest) (hcat : (rest.map fun v => v.category).sum ≤ 8) (d : decode cc pc = .ok (.invokestatic index, 3))
    (kk : WW G B p l e R s m args below meth c (k + mc) (n + ms) Q nL (pc + 3) lv (.int r :: rest) σ2) : WW G B p l e R s m args below meth c k n Q nL pc lv st σ := fun H locs ls hP hS hl =>
  va_calli (vx_runSW (nL := nL) (As := As) (rest := rest) ⟨C.1, C.2.1, C.2.2.1, C.2.2.2.1, C.2.2.2.2.1⟩ hM (vx_cwSW a C.2.2.2.2.1 (TG_goodIn (call_wsW w1 w2 w3 w4)) rfl rfl rfl hd hR) ⟨Hl.blind, preL_of C E N hP hS⟩ rfl hn hl.1 hstk (lv_room hcat) d hf) hS (fun _ _ h => h) (fun _ h => h) (fun r9 u t H1 locs1 ht hvm hw hB hz1 hk1 hS1 => by
    obtain ⟨rfl, rfl⟩ := hw
    rw [Hp, ht] at hB
    exact kk H1 locs1 ls hB hS1 hl)
theorem j_law_end {b kc nc : Nat} (C : Cx G B dy RL code 9 p s m #[Value.ref b] c) (hB : B = s.heap.size) (hr : meth.sig.returnType = ret) (hlk : meth.locks = false) (d : decode code pc = .ok (.ireturn, 1)) (hk : kc ≤ 610000) (hn : nc ≤ 7050000) : WW G B p l e room_1 s m #[Value.ref b] below meth c kc nc (lw_Z below #[Value.ref b] s) 9 pc lv [.int 1] σ := fun H locs ls hP hS hl =>
  va_forget (fun q hq => by have h := hS.2.2 q hq; rw [hB] at h; exact h) (W.widen (Nat.le_trans hk (Nat.le_of_ble_eq_true rfl)) (Nat.le_trans hn (Nat.le_of_ble_eq_true rfl)) (W.base (lw_ret (Drawn.sameBut.refl s.drawn lw_cs) C.1 C.2.1 hr hlk d)))
end JLL
/-! the law as a function -/
def f_L_law_b1254 (xs : Nat → Int32) (L : Nat) (K23 : Int32 → St → Option Int32) (y4 : Int32) (y5 : Int32) (w0 : Int32) (w1 : Int32) (w2 : Int32) (w3 : Int32) (t0 : St) : Option Int32 :=
  bd (f_X7_range w3 w2 w1 w0 t0) fun x21 t22 => bd (f_X7_thrown t22) fun x24 t25 => (if x24 = y5 then (if y5 = 0 then gd (inB 0 1) <| (if (lg_cmp (t25.2 235) ((x21 : Int32).toInt64)) = 0 then lt (y4 + 5) fun x32 => K23 x32 t25 else some 0) else lt (y4 + 5) fun x29 => K23 x29 t25) else some 0)
def f_L_law_b1215 (xs : Nat → Int32) (L : Nat) (K23 : Int32 → St → Option Int32) (y4 : Int32) (w0 : Int32) (w1 : Int32) (w2 : Int32) (w3 : Int32) (t0 : St) : Option Int32 :=
  bd (f_L_range w3 w2 w1 w0 t0) fun x33 t34 => gd (inB (y4 + 1) L) <| gd (inB (y4 + 2) L) <| gd (inB (y4 + 3) L) <| gd (inB (y4 + 4) L) <| (if (xs (tc (y4 + 4))) = 0 then f_L_law_b1254 xs L K23 y4 x33 0 (xs (tc (y4 + 3))) (xs (tc (y4 + 2))) (xs (tc (y4 + 1))) t34 else f_L_law_b1254 xs L K23 y4 x33 1 (xs (tc (y4 + 3))) (xs (tc (y4 + 2))) (xs (tc (y4 + 1))) t34)
def f_L_law_b898 (xs : Nat → Int32) (L : Nat) (K23 : Int32 → St → Option Int32) (y4 : Int32) (y5 : Int32) (w0 : Int32) (w1 : Int32) (w2 : Int32) (w3 : Int32) (t0 : St) : Option Int32 :=
  bd (f_X7_when w3 w2 w1 w0 t0) fun x41 t42 => bd (f_X7_thrown t42) fun x44 t45 => (if x44 = y5 then (if y5 = 0 then gd (inB 0 1) <| (if (lg_cmp (t45.2 235) ((x41 : Int32).toInt64)) = 0 then lt (y4 + 5) fun x52 => K23 x52 t45 else some 0) else lt (y4 + 5) fun x49 => K23 x49 t45) else some 0)
def f_L_law_b859 (xs : Nat → Int32) (L : Nat) (K23 : Int32 → St → Option Int32) (y4 : Int32) (w0 : Int32) (w1 : Int32) (w2 : Int32) (w3 : Int32) (t0 : St) : Option Int32 :=
  bd (f_L_when w3 w2 w1 w0 t0) fun x53 t54 => gd (inB (y4 + 1) L) <| gd (inB (y4 + 2) L) <| gd (inB (y4 + 3) L) <| gd (inB (y4 + 4) L) <| (if (xs (tc (y4 + 4))) = 0 then f_L_law_b898 xs L K23 y4 x53 0 (xs (tc (y4 + 3))) (xs (tc (y4 + 2))) (xs (tc (y4 + 1))) t54 else f_L_law_b898 xs L K23 y4 x53 1 (xs (tc (y4 + 3))) (xs (tc (y4 + 2))) (xs (tc (y4 + 1))) t54)
def f_L_law_b23 (xs : Nat → Int32) (L : Nat) (K23 : Int32 → St → Option Int32) (y4 : Int32) (t0 : St) : Option Int32 :=
  (if ((Int32.ofNat L) - 5) < y4 then some 1 else gd (inB y4 L) <| (if ((xs (tc y4)) &&& 31) = 0 then bd (f_L_proclaim t0) fun x64 t65 => bd (f_X7_proclaim t65) fun x67 t68 => bd (f_X7_thrown t68) fun x70 t71 => (if x70 = x64 then (if x64 = 0 then gd (inB 0 1) <| (if (lg_cmp (t71.2 235) ((x67 : Int32).toInt64)) = 0 then lt (y4 + 5) fun x78 => K23 x78 t71 else some 0) else lt (y4 + 5) fun x75 => K23 x75 t71) else some 0) else (if ((xs (tc y4)) &&& 31) = 1 then bd (f_L_forget t0) fun x80 t81 => bd (f_X7_forget t81) fun x83 t84 => bd (f_X7_thrown t84) fun x86 t87 => (if x86 = x80 then (if x80 = 0 then gd (inB 0 1) <| (if (lg_cmp (t87.2 235) ((x83 : Int32).toInt64)) = 0 then lt (y4 + 5) fun x94 => K23 x94 t87 else some 0) else lt (y4 + 5) fun x91 => K23 x91 t87) else some 0) else (if ((xs (tc y4)) &&& 31) = 2 then gd (inB (y4 + 1) L) <| gd (inB (y4 + 2) L) <| bd (f_L_rank (xs (tc (y4 + 1))) (xs (tc (y4 + 2))) t0) fun x98 t99 => gd (inB (y4 + 1) L) <| gd (inB (y4 + 2) L) <| bd (f_X7_rank (xs (tc (y4 + 1))) (xs (tc (y4 + 2))) t99) fun x103 t104 => bd (f_X7_thrown t104) fun x106 t107 => (if x106 = x98 then (if x98 = 0 then gd (inB 0 1) <| (if (lg_cmp (t107.2 235) ((x103 : Int32).toInt64)) = 0 then lt (y4 + 5) fun x114 => K23 x114 t107 else some 0) else lt (y4 + 5) fun x111 => K23 x111 t107) else some 0) else (if ((xs (tc y4)) &&& 31) = 3 then gd (inB (y4 + 1) L) <| gd (inB (y4 + 2) L) <| bd (f_L_teach (xs (tc (y4 + 1))) (xs (tc (y4 + 2))) t0) fun x118 t119 => gd (inB (y4 + 1) L) <| gd (inB (y4 + 2) L) <| bd (f_X7_teach (xs (tc (y4 + 1))) (xs (tc (y4 + 2))) t119) fun x123 t124 => bd (f_X7_thrown t124) fun x126 t127 => (if x126 = x118 then (if x118 = 0 then gd (inB 0 1) <| (if (lg_cmp (t127.2 235) ((x123 : Int32).toInt64)) = 0 then lt (y4 + 5) fun x134 => K23 x134 t127 else some 0) else lt (y4 + 5) fun x131 => K23 x131 t127) else some 0) else (if ((xs (tc y4)) &&& 31) = 4 then gd (inB (y4 + 1) L) <| gd (inB (y4 + 2) L) <| bd (f_L_carve (xs (tc (y4 + 1))) (xs (tc (y4 + 2))) t0) fun x138 t139 => gd (inB (y4 + 1) L) <| gd (inB (y4 + 2) L) <| bd (f_X7_carve (xs (tc (y4 + 1))) (xs (tc (y4 + 2))) t139) fun x143 t144 => bd (f_X7_thrown t144) fun x146 t147 => (if x146 = x138 then (if x138 = 0 then gd (inB 0 1) <| (if (lg_cmp (t147.2 235) ((x143 : Int32).toInt64)) = 0 then lt (y4 + 5) fun x154 => K23 x154 t147 else some 0) else lt (y4 + 5) fun x151 => K23 x151 t147) else some 0) else (if ((xs (tc y4)) &&& 31) = 5 then gd (inB (y4 + 1) L) <| bd (f_L_burn (xs (tc (y4 + 1))) t0) fun x157 t158 => gd (inB (y4 + 1) L) <| bd (f_X7_burn (xs (tc (y4 + 1))) t158) fun x161 t162 => bd (f_X7_thrown t162) fun x164 t165 => (if x164 = x157 then (if x157 = 0 then gd (inB 0 1) <| (if (lg_cmp (t165.2 235) ((x161 : Int32).toInt64)) = 0 then lt (y4 + 5) fun x172 => K23 x172 t165 else some 0) else lt (y4 + 5) fun x169 => K23 x169 t165) else some 0) else (if ((xs (tc y4)) &&& 31) = 6 then gd (inB (y4 + 1) L) <| bd (f_L_set (xs (tc (y4 + 1))) t0) fun x175 t176 => gd (inB (y4 + 1) L) <| bd (f_X7_set (xs (tc (y4 + 1))) t176) fun x179 t180 => bd (f_X7_thrown t180) fun x182 t183 => (if x182 = x175 then (if x175 = 0 then gd (inB 0 1) <| (if (lg_cmp (t183.2 235) ((x179 : Int32).toInt64)) = 0 then lt (y4 + 5) fun x190 => K23 x190 t183 else some 0) else lt (y4 + 5) fun x187 => K23 x187 t183) else some 0) else (if ((xs (tc y4)) &&& 31) = 7 then gd (inB (y4 + 1) L) <| bd (f_L_append (xs (tc (y4 + 1))) t0) fun x193 t194 => gd (inB (y4 + 1) L) <| bd (f_X7_append (xs (tc (y4 + 1))) t194) fun x197 t198 => bd (f_X7_thrown t198) fun x200 t201 => (if x200 = x193 then (if x193 = 0 then gd (inB 0 1) <| (if (lg_cmp (t201.2 235) ((x197 : Int32).toInt64)) = 0 then lt (y4 + 5) fun x208 => K23 x208 t201 else some 0) else lt (y4 + 5) fun x205 => K23 x205 t201) else some 0) else (if ((xs (tc y4)) &&& 31) = 8 then bd (f_X6_clearBuffer t0) fun x210 t211 => bd (f_X7_clearBuffer t211) fun x213 t214 => (if x210 = x213 then lt (y4 + 5) fun x217 => K23 x217 t214 else some 0) else (if ((xs (tc y4)) &&& 31) = 9 then bd (f_X6_firstError t0) fun x219 t220 => bd (f_X7_firstError t220) fun x222 t223 => (if x219 = x222 then lt (y4 + 5) fun x226 => K23 x226 t223 else some 0) else (if ((xs (tc y4)) &&& 31) = 10 then bd (f_L_undo t0) fun x228 t229 => bd (f_X7_undo t229) fun x231 t232 => bd (f_X7_thrown t232) fun x234 t235 => (if x234 = x228 then (if x228 = 0 then gd (inB 0 1) <| (if (lg_cmp (t235.2 235) ((x231 : Int32).toInt64)) = 0 then lt (y4 + 5) fun x242 => K23 x242 t235 else some 0) else lt (y4 + 5) fun x239 => K23 x239 t235) else some 0) else (if ((xs (tc y4)) &&& 31) = 11 then gd (inB (y4 + 1) L) <| gd (inB (y4 + 2) L) <| gd (inB (y4 + 3) L) <| bd (f_L_day (xs (tc (y4 + 1))) (xs (tc (y4 + 2))) (xs (tc (y4 + 3))) t0) fun x247 t248 => gd (inB (y4 + 1) L) <| gd (inB (y4 + 2) L) <| gd (inB (y4 + 3) L) <| bd (f_X7_day (xs (tc (y4 + 1))) (xs (tc (y4 + 2))) (xs (tc (y4 + 3))) t248) fun x253 t254 => bd (f_X7_thrown t254) fun x256 t257 => (if x256 = x247 then (if x247 = 0 then gd (inB 0 1) <| (if (lg_cmp (t257.2 235) ((x253 : Int32).toInt64)) = 0 then lt (y4 + 5) fun x264 => K23 x264 t257 else some 0) else lt (y4 + 5) fun x261 => K23 x261 t257) else some 0) else (if ((xs (tc y4)) &&& 31) = 12 then gd (inB (y4 + 1) L) <| gd (inB (y4 + 2) L) <| bd (f_L_feast (xs (tc (y4 + 1))) (xs (tc (y4 + 2))) t0) fun x268 t269 => gd (inB (y4 + 1) L) <| gd (inB (y4 + 2) L) <| bd (f_X7_feast (xs (tc (y4 + 1))) (xs (tc (y4 + 2))) t269) fun x273 t274 => bd (f_X7_thrown t274) fun x276 t277 => (if x276 = x268 then (if x268 = 0 then gd (inB 0 1) <| (if (lg_cmp (t277.2 235) ((x273 : Int32).toInt64)) = 0 then lt (y4 + 5) fun x284 => K23 x284 t277 else some 0) else lt (y4 + 5) fun x281 => K23 x281 t277) else some 0) else (if ((xs (tc y4)) &&& 31) = 13 then gd (inB (y4 + 1) L) <| gd (inB (y4 + 2) L) <| gd (inB (y4 + 3) L) <| gd (inB (y4 + 4) L) <| (if (xs (tc (y4 + 4))) = 0 then f_L_law_b859 xs L K23 y4 0 (xs (tc (y4 + 3))) (xs (tc (y4 + 2))) (xs (tc (y4 + 1))) t0 else f_L_law_b859 xs L K23 y4 1 (xs (tc (y4 + 3))) (xs (tc (y4 + 2))) (xs (tc (y4 + 1))) t0) else (if ((xs (tc y4)) &&& 31) = 14 then gd (inB (y4 + 1) L) <| gd (inB (y4 + 2) L) <| bd (f_L_settled (xs (tc (y4 + 1))) (xs (tc (y4 + 2))) t0) fun x294 t295 => gd (inB (y4 + 1) L) <| gd (inB (y4 + 2) L) <| bd (f_X7_settled (xs (tc (y4 + 1))) (xs (tc (y4 + 2))) t295) fun x299 t300 => bd (f_X7_thrown t300) fun x302 t303 => (if x302 = x294 then (if x294 = 0 then gd (inB 0 1) <| (if (lg_cmp (t303.2 235) ((x299 : Int32).toInt64)) = 0 then lt (y4 + 5) fun x310 => K23 x310 t303 else some 0) else lt (y4 + 5) fun x307 => K23 x307 t303) else some 0) else (if ((xs (tc y4)) &&& 31) = 15 then gd (inB (y4 + 1) L) <| bd (f_L_quarrels (xs (tc (y4 + 1))) t0) fun x313 t314 => gd (inB (y4 + 1) L) <| bd (f_X7_quarrels (xs (tc (y4 + 1))) t314) fun x317 t318 => bd (f_X7_thrown t318) fun x320 t321 => (if x320 = x313 then (if x313 = 0 then gd (inB 0 1) <| (if (lg_cmp (t321.2 235) ((x317 : Int32).toInt64)) = 0 then lt (y4 + 5) fun x328 => K23 x328 t321 else some 0) else lt (y4 + 5) fun x325 => K23 x325 t321) else some 0) else (if ((xs (tc y4)) &&& 31) = 16 then gd (inB (y4 + 1) L) <| gd (inB (y4 + 2) L) <| bd (f_L_stick (xs (tc (y4 + 1))) (xs (tc (y4 + 2))) t0) fun x332 t333 => gd (inB (y4 + 1) L) <| gd (inB (y4 + 2) L) <| bd (f_X7_stick (xs (tc (y4 + 1))) (xs (tc (y4 + 2))) t333) fun x337 t338 => bd (f_X7_thrown t338) fun x340 t341 => (if x340 = x332 then (if x332 = 0 then gd (inB 0 1) <| (if (lg_cmp (t341.2 235) ((x337 : Int32).toInt64)) = 0 then lt (y4 + 5) fun x348 => K23 x348 t341 else some 0) else lt (y4 + 5) fun x345 => K23 x345 t341) else some 0) else (if ((xs (tc y4)) &&& 31) = 17 then gd (inB (y4 + 1) L) <| bd (f_L_count (xs (tc (y4 + 1))) t0) fun x351 t352 => gd (inB (y4 + 1) L) <| bd (f_X7_count (xs (tc (y4 + 1))) t352) fun x355 t356 => bd (f_X7_thrown t356) fun x358 t359 => (if x358 = x351 then (if x351 = 0 then gd (inB 0 1) <| (if (lg_cmp (t359.2 235) ((x355 : Int32).toInt64)) = 0 then lt (y4 + 5) fun x366 => K23 x366 t359 else some 0) else lt (y4 + 5) fun x363 => K23 x363 t359) else some 0) else (if ((xs (tc y4)) &&& 31) = 18 then gd (inB (y4 + 1) L) <| gd (inB (y4 + 2) L) <| gd (inB (y4 + 3) L) <| gd (inB (y4 + 4) L) <| (if (xs (tc (y4 + 4))) = 0 then f_L_law_b1215 xs L K23 y4 0 (xs (tc (y4 + 3))) (xs (tc (y4 + 2))) (xs (tc (y4 + 1))) t0 else f_L_law_b1215 xs L K23 y4 1 (xs (tc (y4 + 3))) (xs (tc (y4 + 2))) (xs (tc (y4 + 1))) t0) else (if ((xs (tc y4)) &&& 31) = 19 then gd (inB (y4 + 1) L) <| bd (f_L_alike (xs (tc (y4 + 1))) t0) fun x375 t376 => gd (inB (y4 + 1) L) <| bd (f_X7_alike (xs (tc (y4 + 1))) t376) fun x379 t380 => bd (f_X7_thrown t380) fun x382 t383 => (if x382 = x375 then (if x375 = 0 then gd (inB 0 1) <| (if (lg_cmp (t383.2 235) ((x379 : Int32).toInt64)) = 0 then lt (y4 + 5) fun x390 => K23 x390 t383 else some 0) else lt (y4 + 5) fun x387 => K23 x387 t383) else some 0) else (if ((xs (tc y4)) &&& 31) = 20 then gd (inB (y4 + 1) L) <| gd (inB (y4 + 2) L) <| bd (f_L_peace (xs (tc (y4 + 1))) (xs (tc (y4 + 2))) t0) fun x394 t395 => gd (inB (y4 + 1) L) <| gd (inB (y4 + 2) L) <| bd (f_X7_peace (xs (tc (y4 + 1))) (xs (tc (y4 + 2))) t395) fun x399 t400 => bd (f_X7_thrown t400) fun x402 t403 => (if x402 = x394 then (if x394 = 0 then gd (inB 0 1) <| (if (lg_cmp (t403.2 235) ((x399 : Int32).toInt64)) = 0 then lt (y4 + 5) fun x410 => K23 x410 t403 else some 0) else lt (y4 + 5) fun x407 => K23 x407 t403) else some 0) else (if ((xs (tc y4)) &&& 31) = 21 then gd (inB (y4 + 1) L) <| gd (inB (y4 + 2) L) <| bd (f_L_moved (xs (tc (y4 + 1))) (xs (tc (y4 + 2))) t0) fun x414 t415 => gd (inB (y4 + 1) L) <| gd (inB (y4 + 2) L) <| bd (f_X7_moved (xs (tc (y4 + 1))) (xs (tc (y4 + 2))) t415) fun x419 t420 => bd (f_X7_thrown t420) fun x422 t423 => (if x422 = x414 then (if x414 = 0 then gd (inB 0 1) <| (if (lg_cmp (t423.2 235) ((x419 : Int32).toInt64)) = 0 then lt (y4 + 5) fun x430 => K23 x430 t423 else some 0) else lt (y4 + 5) fun x427 => K23 x427 t423) else some 0) else (if ((xs (tc y4)) &&& 31) = 22 then bd (f_X6_freshShare t0) fun x432 t433 => bd (f_X7_freshShare t433) fun x435 t436 => (if (Op.cmpValue (FP.dcmp x432 x435) CmpOp.l) = 0 then lt (y4 + 5) fun x439 => K23 x439 t436 else (if (Op.cmpValue (FP.dcmp x432 x432) CmpOp.l) = 0 then some 0 else (if (Op.cmpValue (FP.dcmp x435 x435) CmpOp.l) = 0 then some 0 else lt (y4 + 5) fun x442 => K23 x442 t436))) else (if ((xs (tc y4)) &&& 31) = 23 then bd (f_X6_digest t0) fun x444 t445 => bd (f_X7_digest t445) fun x447 t448 => (if (lg_cmp x444 x447) = 0 then lt (y4 + 5) fun x451 => K23 x451 t448 else some 0) else lt (y4 + 5) fun x452 => K23 x452 t0)))))))))))))))))))))))))
def f_L_law_l23 (xs : Nat → Int32) (L : Nat) : Nat → Int32 → St → Option Int32
  | 0, _, _ => none
  | g + 1, y4, t0 => f_L_law_b23 xs L (f_L_law_l23 xs L g) y4 t0
set_option maxRecDepth 100000 in
set_option maxHeartbeats 40000000 in
theorem law_loop {G : GG} {B dy : Nat} {sa : Nat → Nat} {p : Program} {l : Launch} {e : Env} {s : State} {m : MethodId} {below : List Frame} {meth : Method} {c : Code} {b L : Nat} {xs : Nat → Int32} (hls : l.stackTraces = false) (C : Cx G B dy RL code 9 p s m #[Value.ref b] c) (hB : B = s.heap.size) (hr : meth.sig.returnType = ret) (hlk : meth.locks = false) (E : Xe B sa s) (N : Xn s) (SB : ScrB B b L xs s) :
    ∀ (n23 : Nat) (y4 : Int32) (t0 : St) (kc nc : Nat), kc + 8 * n23 ≤ 600000 → nc + 48 * n23 ≤ 7000000 → f_L_law_l23 xs L n23 y4 t0 = some 1 → WW G B p l e room_1 s m #[Value.ref b] below meth c kc nc (lw_Z below #[Value.ref b] s) 9 23 [(0, .ref b), (1, .ref (B + 0)), (2, .ref (B + 225)), (3, .ref (B + 235)), (4, .int y4)] [] t0 := by
  have J23 : ∀ (n23 : Nat) (y4 : Int32) (t0 : St), ∀ (kc nc : Nat), kc + 8 * n23 ≤ 600000 → nc + 48 * n23 ≤ 7000000 → f_L_law_l23 xs L n23 y4 t0 = some 1 → WW G B p l e room_1 s m #[Value.ref b] below meth c kc nc (lw_Z below #[Value.ref b] s) 9 23 [(0, .ref b), (1, .ref (B + 0)), (2, .ref (B + 225)), (3, .ref (B + 235)), (4, .int y4)] [] t0 := by
    intro n23
    induction n23 with
    | zero => intro y4 t0 kc nc hkc hnc h; exact (no_some h).elim
    | succ n23 ih23 =>
      try clear h
      have J1254 : ∀ (y4 : Int32) (y5 : Int32) (w0 : Int32) (w1 : Int32) (w2 : Int32) (w3 : Int32) (t0 : St), ∀ (kc nc : Nat), kc + 8 * n23 + 4 ≤ 600000 → nc + 48 * n23 + 24 ≤ 7000000 → f_L_law_b1254 xs L (f_L_law_l23 xs L n23) y4 y5 w0 w1 w2 w3 t0 = some 1 → WW G B p l e room_1 s m #[Value.ref b] below meth c kc nc (lw_Z below #[Value.ref b] s) 9 1254 [(0, .ref b), (1, .ref (B + 0)), (2, .ref (B + 225)), (3, .ref (B + 235)), (4, .int y4), (5, .int y5)] [.int w0, .int w1, .int w2, .int w3, .ref (B + 225)] t0 := by
        intro y4 y5 w0 w1 w2 w3 t0 kc nc hkc hnc h
        obtain ⟨x21, t22, e23, h⟩ := bd_some h
        refine j_callV_i C (i := 225) (As := [.int w3, .int w2, .int w1, .int w0]) (rest := []) (c_X7_range l G B dy w3 w2 w1 w0 _ e23) (shp7 G B _ kA_225) (kd_lt kA_225 (by decide)) rfl tw_1048 tw_1049 tw_1050 ti_7 tw_1051 hd_X7_range ⟨Nat.le_of_ble_eq_true rfl, Nat.le_of_ble_eq_true rfl⟩ ⟨Nat.le_trans (show _ ≤ 610000 by omega) (Nat.le_of_ble_eq_true rfl), Nat.le_trans (show _ ≤ 7050000 by omega) (Nat.le_of_ble_eq_true rfl)⟩ rfl rfl (Nat.le_of_ble_eq_true rfl) dL_law_1254 ?_
        refine j_istore C [(0, .ref b), (1, .ref (B + 0)), (2, .ref (B + 225)), (3, .ref (B + 235)), (4, .int y4), (5, .int y5), (6, .int x21)] [1, 2, 3, 4, 5, 6, 0] dL_law_1257 (by decide) rfl ?_
        refine j_aload_n C (q := 2) dL_law_1259 rfl rfl ?_
        obtain ⟨x24, t25, e26, h⟩ := bd_some h
        refine j_callV_i C (i := 225) (As := []) (rest := []) (c_X7_thrown l G B dy _ e26) (shp7 G B _ kA_225) (kd_lt kA_225 (by decide)) rfl tw_836 tw_837 tw_838 ti_7 tw_839 hd_X7_thrown ⟨Nat.le_of_ble_eq_true rfl, Nat.le_of_ble_eq_true rfl⟩ ⟨Nat.le_trans (show _ ≤ 610000 by omega) (Nat.le_of_ble_eq_true rfl), Nat.le_trans (show _ ≤ 7050000 by omega) (Nat.le_of_ble_eq_true rfl)⟩ rfl rfl (Nat.le_of_ble_eq_true rfl) dL_law_1260 ?_
        refine j_iload C (q := 5) dL_law_1263 rfl ?_
        refine j_icmp_eq C (tgt := 1270) dL_law_1265 (by decide) (fun c27 => ?_) (fun c27 => ?_)
        · have h := ite_t h c27
          refine j_iload C (q := 5) dL_law_1270 rfl ?_
          refine j_if_ne C (tgt := 1287) dL_law_1272 (by decide) (fun c28 => ?_) (fun c28 => ?_)
          · have h := ite_t h c28
            refine j_aload_n C (q := 3) dL_law_1275 rfl rfl ?_
            refine j_iconst C (v := 0) dL_law_1276 (by decide) ?_
            obtain ⟨g30, h⟩ := gd_some h
            refine j_lald C (i := 235) k235 (inA g30 aA_235) dL_law_1277 ?_
            refine j_iload C (q := 6) dL_law_1278 rfl ?_
            refine j_i2l C dL_law_1280 ?_
            refine j_lcmp C dL_law_1281 ?_
            refine j_if_eq C (tgt := 1287) dL_law_1282 (by decide) (fun c31 => ?_) (fun c31 => ?_)
            · have h := ite_t h c31
              refine j_goto C (tgt := 1537) dL_law_1287 (by decide) ?_
              obtain ⟨x32, ex32⟩ : ∃ y : Int32, y = (y4 + 5) := ⟨_, rfl⟩
              have h := lt_at h ex32
              refine j_iinc C (q := 4) [(0, .ref b), (1, .ref (B + 0)), (2, .ref (B + 225)), (3, .ref (B + 235)), (4, .int x32), (5, .int y5), (6, .int x21)] [1, 2, 3, 4, 0, 5, 6] dL_law_1537 rfl (by rw [ex32]; rfl) (by decide) rfl ?_
              refine j_goto C (tgt := 23) dL_law_1540 (by decide) ?_
              refine j_sub [0, 1, 2, 3, 4] rfl ?_
              exact ih23 x32 _ _ _ (by omega) (by omega) h
            · have h := ite_f h c31
              refine j_iconst C (v := 0) dL_law_1285 (by decide) ?_
              exact absurd (Option.some.inj h) (by decide)
          · have h := ite_f h c28
            refine j_goto C (tgt := 1537) dL_law_1287 (by decide) ?_
            obtain ⟨x29, ex29⟩ : ∃ y : Int32, y = (y4 + 5) := ⟨_, rfl⟩
            have h := lt_at h ex29
            refine j_iinc C (q := 4) [(0, .ref b), (1, .ref (B + 0)), (2, .ref (B + 225)), (3, .ref (B + 235)), (4, .int x29), (5, .int y5), (6, .int x21)] [1, 2, 3, 4, 0, 5, 6] dL_law_1537 rfl (by rw [ex29]; rfl) (by decide) rfl ?_
            refine j_goto C (tgt := 23) dL_law_1540 (by decide) ?_
            refine j_sub [0, 1, 2, 3, 4] rfl ?_
            exact ih23 x29 _ _ _ (by omega) (by omega) h
        · have h := ite_f h c27
          refine j_iconst C (v := 0) dL_law_1268 (by decide) ?_
          exact absurd (Option.some.inj h) (by decide)
      have J1215 : ∀ (y4 : Int32) (w0 : Int32) (w1 : Int32) (w2 : Int32) (w3 : Int32) (t0 : St), ∀ (kc nc : Nat), kc + 8 * n23 + 8 ≤ 600000 → nc + 48 * n23 + 48 ≤ 7000000 → f_L_law_b1215 xs L (f_L_law_l23 xs L n23) y4 w0 w1 w2 w3 t0 = some 1 → WW G B p l e room_1 s m #[Value.ref b] below meth c kc nc (lw_Z below #[Value.ref b] s) 9 1215 [(0, .ref b), (1, .ref (B + 0)), (2, .ref (B + 225)), (3, .ref (B + 235)), (4, .int y4)] [.int w0, .int w1, .int w2, .int w3, .ref (B + 0)] t0 := by
        intro y4 w0 w1 w2 w3 t0 kc nc hkc hnc h
        refine j_aload_n C (q := 3) dL_law_1215 rfl rfl ?_
        obtain ⟨x33, t34, e35, h⟩ := bd_some h
        refine j_callW C E N (As := [.ref (B + 0), .int w3, .int w2, .int w1, .int w0, .ref (B + 235)]) (rest := []) (c_L_range l G B dy sa hls w3 w2 w1 w0 _ e35) tw_755 tw_756 ti_L tw_757 hd_L_range ⟨Nat.le_of_ble_eq_true rfl, Nat.le_of_ble_eq_true rfl⟩ ⟨Nat.le_trans (show _ ≤ 610000 by omega) (Nat.le_of_ble_eq_true rfl), Nat.le_trans (show _ ≤ 7050000 by omega) (Nat.le_of_ble_eq_true rfl)⟩ rfl rfl (Nat.le_of_ble_eq_true rfl) dL_law_1216 ?_
        refine j_istore C [(0, .ref b), (1, .ref (B + 0)), (2, .ref (B + 225)), (3, .ref (B + 235)), (4, .int y4), (5, .int x33)] [1, 2, 3, 4, 5, 0] dL_law_1219 (by decide) rfl ?_
        refine j_aload_n C (q := 2) dL_law_1221 rfl rfl ?_
        refine j_aload_n C (q := 0) dL_law_1222 rfl rfl ?_
        refine j_iload C (q := 4) dL_law_1223 rfl ?_
        refine j_iconst C (v := 1) dL_law_1225 (by decide) ?_
        refine j_iadd C dL_law_1226 ?_
        obtain ⟨g36, h⟩ := gd_some h
        refine j_sld C SB (inB_in g36) dL_law_1227 ?_
        refine j_aload_n C (q := 0) dL_law_1228 rfl rfl ?_
        refine j_iload C (q := 4) dL_law_1229 rfl ?_
        refine j_iconst C (v := 2) dL_law_1231 (by decide) ?_
        refine j_iadd C dL_law_1232 ?_
        obtain ⟨g37, h⟩ := gd_some h
        refine j_sld C SB (inB_in g37) dL_law_1233 ?_
        refine j_aload_n C (q := 0) dL_law_1234 rfl rfl ?_
        refine j_iload C (q := 4) dL_law_1235 rfl ?_
        refine j_iconst C (v := 3) dL_law_1237 (by decide) ?_
        refine j_iadd C dL_law_1238 ?_
        obtain ⟨g38, h⟩ := gd_some h
        refine j_sld C SB (inB_in g38) dL_law_1239 ?_
        refine j_aload_n C (q := 0) dL_law_1240 rfl rfl ?_
        refine j_iload C (q := 4) dL_law_1241 rfl ?_
        refine j_iconst C (v := 4) dL_law_1243 (by decide) ?_
        refine j_iadd C dL_law_1244 ?_
        obtain ⟨g39, h⟩ := gd_some h
        refine j_sld C SB (inB_in g39) dL_law_1245 ?_
        refine j_if_eq C (tgt := 1253) dL_law_1246 (by decide) (fun c40 => ?_) (fun c40 => ?_)
        · have h := ite_t h c40
          refine j_iconst C (v := 0) dL_law_1253 (by decide) ?_
          exact J1254 y4 x33 0 (xs (tc (y4 + 3))) (xs (tc (y4 + 2))) (xs (tc (y4 + 1))) _ _ _ (by omega) (by omega) h
        · have h := ite_f h c40
          refine j_iconst C (v := 1) dL_law_1249 (by decide) ?_
          refine j_goto C (tgt := 1254) dL_law_1250 (by decide) ?_
          exact J1254 y4 x33 1 (xs (tc (y4 + 3))) (xs (tc (y4 + 2))) (xs (tc (y4 + 1))) _ _ _ (by omega) (by omega) h
      have J898 : ∀ (y4 : Int32) (y5 : Int32) (w0 : Int32) (w1 : Int32) (w2 : Int32) (w3 : Int32) (t0 : St), ∀ (kc nc : Nat), kc + 8 * n23 + 4 ≤ 600000 → nc + 48 * n23 + 24 ≤ 7000000 → f_L_law_b898 xs L (f_L_law_l23 xs L n23) y4 y5 w0 w1 w2 w3 t0 = some 1 → WW G B p l e room_1 s m #[Value.ref b] below meth c kc nc (lw_Z below #[Value.ref b] s) 9 898 [(0, .ref b), (1, .ref (B + 0)), (2, .ref (B + 225)), (3, .ref (B + 235)), (4, .int y4), (5, .int y5)] [.int w0, .int w1, .int w2, .int w3, .ref (B + 225)] t0 := by
        intro y4 y5 w0 w1 w2 w3 t0 kc nc hkc hnc h
        obtain ⟨x41, t42, e43, h⟩ := bd_some h
        refine j_callV_i C (i := 225) (As := [.int w3, .int w2, .int w1, .int w0]) (rest := []) (c_X7_when l G B dy w3 w2 w1 w0 _ e43) (shp7 G B _ kA_225) (kd_lt kA_225 (by decide)) rfl tw_996 tw_997 tw_998 ti_7 tw_999 hd_X7_when ⟨Nat.le_of_ble_eq_true rfl, Nat.le_of_ble_eq_true rfl⟩ ⟨Nat.le_trans (show _ ≤ 610000 by omega) (Nat.le_of_ble_eq_true rfl), Nat.le_trans (show _ ≤ 7050000 by omega) (Nat.le_of_ble_eq_true rfl)⟩ rfl rfl (Nat.le_of_ble_eq_true rfl) dL_law_898 ?_
        refine j_istore C [(0, .ref b), (1, .ref (B + 0)), (2, .ref (B + 225)), (3, .ref (B + 235)), (4, .int y4), (5, .int y5), (6, .int x41)] [1, 2, 3, 4, 5, 6, 0] dL_law_901 (by decide) rfl ?_
        refine j_aload_n C (q := 2) dL_law_903 rfl rfl ?_
        obtain ⟨x44, t45, e46, h⟩ := bd_some h
        refine j_callV_i C (i := 225) (As := []) (rest := []) (c_X7_thrown l G B dy _ e46) (shp7 G B _ kA_225) (kd_lt kA_225 (by decide)) rfl tw_836 tw_837 tw_838 ti_7 tw_839 hd_X7_thrown ⟨Nat.le_of_ble_eq_true rfl, Nat.le_of_ble_eq_true rfl⟩ ⟨Nat.le_trans (show _ ≤ 610000 by omega) (Nat.le_of_ble_eq_true rfl), Nat.le_trans (show _ ≤ 7050000 by omega) (Nat.le_of_ble_eq_true rfl)⟩ rfl rfl (Nat.le_of_ble_eq_true rfl) dL_law_904 ?_
        refine j_iload C (q := 5) dL_law_907 rfl ?_
        refine j_icmp_eq C (tgt := 914) dL_law_909 (by decide) (fun c47 => ?_) (fun c47 => ?_)
        · have h := ite_t h c47
          refine j_iload C (q := 5) dL_law_914 rfl ?_
          refine j_if_ne C (tgt := 931) dL_law_916 (by decide) (fun c48 => ?_) (fun c48 => ?_)
          · have h := ite_t h c48
            refine j_aload_n C (q := 3) dL_law_919 rfl rfl ?_
            refine j_iconst C (v := 0) dL_law_920 (by decide) ?_
            obtain ⟨g50, h⟩ := gd_some h
            refine j_lald C (i := 235) k235 (inA g50 aA_235) dL_law_921 ?_
            refine j_iload C (q := 6) dL_law_922 rfl ?_
            refine j_i2l C dL_law_924 ?_
            refine j_lcmp C dL_law_925 ?_
            refine j_if_eq C (tgt := 931) dL_law_926 (by decide) (fun c51 => ?_) (fun c51 => ?_)
            · have h := ite_t h c51
              refine j_goto C (tgt := 1537) dL_law_931 (by decide) ?_
              obtain ⟨x52, ex52⟩ : ∃ y : Int32, y = (y4 + 5) := ⟨_, rfl⟩
              have h := lt_at h ex52
              refine j_iinc C (q := 4) [(0, .ref b), (1, .ref (B + 0)), (2, .ref (B + 225)), (3, .ref (B + 235)), (4, .int x52), (5, .int y5), (6, .int x41)] [1, 2, 3, 4, 0, 5, 6] dL_law_1537 rfl (by rw [ex52]; rfl) (by decide) rfl ?_
              refine j_goto C (tgt := 23) dL_law_1540 (by decide) ?_
              refine j_sub [0, 1, 2, 3, 4] rfl ?_
              exact ih23 x52 _ _ _ (by omega) (by omega) h
            · have h := ite_f h c51
              refine j_iconst C (v := 0) dL_law_929 (by decide) ?_
              exact absurd (Option.some.inj h) (by decide)
          · have h := ite_f h c48
            refine j_goto C (tgt := 1537) dL_law_931 (by decide) ?_
            obtain ⟨x49, ex49⟩ : ∃ y : Int32, y = (y4 + 5) := ⟨_, rfl⟩
            have h := lt_at h ex49
            refine j_iinc C (q := 4) [(0, .ref b), (1, .ref (B + 0)), (2, .ref (B + 225)), (3, .ref (B + 235)), (4, .int x49), (5, .int y5), (6, .int x41)] [1, 2, 3, 4, 0, 5, 6] dL_law_1537 rfl (by rw [ex49]; rfl) (by decide) rfl ?_
            refine j_goto C (tgt := 23) dL_law_1540 (by decide) ?_
            refine j_sub [0, 1, 2, 3, 4] rfl ?_
            exact ih23 x49 _ _ _ (by omega) (by omega) h
        · have h := ite_f h c47
          refine j_iconst C (v := 0) dL_law_912 (by decide) ?_
          exact absurd (Option.some.inj h) (by decide)
      have J859 : ∀ (y4 : Int32) (w0 : Int32) (w1 : Int32) (w2 : Int32) (w3 : Int32) (t0 : St), ∀ (kc nc : Nat), kc + 8 * n23 + 8 ≤ 600000 → nc + 48 * n23 + 48 ≤ 7000000 → f_L_law_b859 xs L (f_L_law_l23 xs L n23) y4 w0 w1 w2 w3 t0 = some 1 → WW G B p l e room_1 s m #[Value.ref b] below meth c kc nc (lw_Z below #[Value.ref b] s) 9 859 [(0, .ref b), (1, .ref (B + 0)), (2, .ref (B + 225)), (3, .ref (B + 235)), (4, .int y4)] [.int w0, .int w1, .int w2, .int w3, .ref (B + 0)] t0 := by
        intro y4 w0 w1 w2 w3 t0 kc nc hkc hnc h
        refine j_aload_n C (q := 3) dL_law_859 rfl rfl ?_
        obtain ⟨x53, t54, e55, h⟩ := bd_some h
        refine j_callW C E N (As := [.ref (B + 0), .int w3, .int w2, .int w1, .int w0, .ref (B + 235)]) (rest := []) (c_L_when l G B dy sa hls w3 w2 w1 w0 _ e55) tw_720 tw_721 ti_L tw_722 hd_L_when ⟨Nat.le_of_ble_eq_true rfl, Nat.le_of_ble_eq_true rfl⟩ ⟨Nat.le_trans (show _ ≤ 610000 by omega) (Nat.le_of_ble_eq_true rfl), Nat.le_trans (show _ ≤ 7050000 by omega) (Nat.le_of_ble_eq_true rfl)⟩ rfl rfl (Nat.le_of_ble_eq_true rfl) dL_law_860 ?_
        refine j_istore C [(0, .ref b), (1, .ref (B + 0)), (2, .ref (B + 225)), (3, .ref (B + 235)), (4, .int y4), (5, .int x53)] [1, 2, 3, 4, 5, 0] dL_law_863 (by decide) rfl ?_
        refine j_aload_n C (q := 2) dL_law_865 rfl rfl ?_
        refine j_aload_n C (q := 0) dL_law_866 rfl rfl ?_
        refine j_iload C (q := 4) dL_law_867 rfl ?_
        refine j_iconst C (v := 1) dL_law_869 (by decide) ?_
        refine j_iadd C dL_law_870 ?_
        obtain ⟨g56, h⟩ := gd_some h
        refine j_sld C SB (inB_in g56) dL_law_871 ?_
        refine j_aload_n C (q := 0) dL_law_872 rfl rfl ?_
        refine j_iload C (q := 4) dL_law_873 rfl ?_
        refine j_iconst C (v := 2) dL_law_875 (by decide) ?_
        refine j_iadd C dL_law_876 ?_
        obtain ⟨g57, h⟩ := gd_some h
        refine j_sld C SB (inB_in g57) dL_law_877 ?_
        refine j_aload_n C (q := 0) dL_law_878 rfl rfl ?_
        refine j_iload C (q := 4) dL_law_879 rfl ?_
        refine j_iconst C (v := 3) dL_law_881 (by decide) ?_
        refine j_iadd C dL_law_882 ?_
        obtain ⟨g58, h⟩ := gd_some h
        refine j_sld C SB (inB_in g58) dL_law_883 ?_
        refine j_aload_n C (q := 0) dL_law_884 rfl rfl ?_
        refine j_iload C (q := 4) dL_law_885 rfl ?_
        refine j_iconst C (v := 4) dL_law_887 (by decide) ?_
        refine j_iadd C dL_law_888 ?_
        obtain ⟨g59, h⟩ := gd_some h
        refine j_sld C SB (inB_in g59) dL_law_889 ?_
        refine j_if_eq C (tgt := 897) dL_law_890 (by decide) (fun c60 => ?_) (fun c60 => ?_)
        · have h := ite_t h c60
          refine j_iconst C (v := 0) dL_law_897 (by decide) ?_
          exact J898 y4 x53 0 (xs (tc (y4 + 3))) (xs (tc (y4 + 2))) (xs (tc (y4 + 1))) _ _ _ (by omega) (by omega) h
        · have h := ite_f h c60
          refine j_iconst C (v := 1) dL_law_893 (by decide) ?_
          refine j_goto C (tgt := 898) dL_law_894 (by decide) ?_
          exact J898 y4 x53 1 (xs (tc (y4 + 3))) (xs (tc (y4 + 2))) (xs (tc (y4 + 1))) _ _ _ (by omega) (by omega) h
      intro y4 t0 kc nc hkc hnc h
      have h : f_L_law_b23 xs L (f_L_law_l23 xs L n23) y4 t0 = some 1 := h
      refine j_iload C (q := 4) dL_law_23 rfl ?_
      refine j_aload_n C (q := 0) dL_law_25 rfl rfl ?_
      refine j_slen C SB dL_law_26 ?_
      refine j_iconst C (v := 5) dL_law_27 (by decide) ?_
      refine j_isub C dL_law_28 ?_
      refine j_icmp_gt C (tgt := 1543) dL_law_29 (by decide) (fun c61 => ?_) (fun c61 => ?_)
      · have h := ite_t h c61
        refine j_iconst C (v := 1) dL_law_1543 (by decide) ?_
        exact j_law_end C hB hr hlk dL_law_1544 (by omega) (by omega)
      · have h := ite_f h c61
        refine j_aload_n C (q := 0) dL_law_32 rfl rfl ?_
        refine j_iload C (q := 4) dL_law_33 rfl ?_
        obtain ⟨g62, h⟩ := gd_some h
        refine j_sld C SB (inB_in g62) dL_law_35 ?_
        refine j_bipush C (v := 31) dL_law_36 (by decide) ?_
        refine j_iand C dL_law_38 ?_
        by_cases c63 : ((xs (tc y4)) &&& 31) = 0
        · have h := ite_t h c63
          refine j_tableIn C (tgt := 148) dL_law_39 (by rw [c63]; decide) (by rw [c63]; decide) (by rw [c63]; rfl) (by decide) ?_
          refine j_aload_n C (q := 1) dL_law_148 rfl rfl ?_
          refine j_aload_n C (q := 3) dL_law_149 rfl rfl ?_
          obtain ⟨x64, t65, e66, h⟩ := bd_some h
          refine j_callW C E N (As := [.ref (B + 0), .ref (B + 235)]) (rest := []) (c_L_proclaim l G B dy sa hls _ e66) tw_454 tw_455 ti_L tw_456 hd_L_proclaim ⟨Nat.le_of_ble_eq_true rfl, Nat.le_of_ble_eq_true rfl⟩ ⟨Nat.le_trans (show _ ≤ 610000 by omega) (Nat.le_of_ble_eq_true rfl), Nat.le_trans (show _ ≤ 7050000 by omega) (Nat.le_of_ble_eq_true rfl)⟩ rfl rfl (Nat.le_of_ble_eq_true rfl) dL_law_150 ?_
          refine j_istore C [(0, .ref b), (1, .ref (B + 0)), (2, .ref (B + 225)), (3, .ref (B + 235)), (4, .int y4), (5, .int x64)] [1, 2, 3, 4, 5, 0] dL_law_153 (by decide) rfl ?_
          refine j_aload_n C (q := 2) dL_law_155 rfl rfl ?_
          obtain ⟨x67, t68, e69, h⟩ := bd_some h
          refine j_callV_i C (i := 225) (As := []) (rest := []) (c_X7_proclaim l G B dy _ e69) (shp7 G B _ kA_225) (kd_lt kA_225 (by decide)) rfl tw_886 tw_887 tw_888 ti_7 tw_889 hd_X7_proclaim ⟨Nat.le_of_ble_eq_true rfl, Nat.le_of_ble_eq_true rfl⟩ ⟨Nat.le_trans (show _ ≤ 610000 by omega) (Nat.le_of_ble_eq_true rfl), Nat.le_trans (show _ ≤ 7050000 by omega) (Nat.le_of_ble_eq_true rfl)⟩ rfl rfl (Nat.le_of_ble_eq_true rfl) dL_law_156 ?_
          refine j_istore C [(0, .ref b), (1, .ref (B + 0)), (2, .ref (B + 225)), (3, .ref (B + 235)), (4, .int y4), (5, .int x64), (6, .int x67)] [1, 2, 3, 4, 5, 6, 0] dL_law_159 (by decide) rfl ?_
          refine j_aload_n C (q := 2) dL_law_161 rfl rfl ?_
          obtain ⟨x70, t71, e72, h⟩ := bd_some h
          refine j_callV_i C (i := 225) (As := []) (rest := []) (c_X7_thrown l G B dy _ e72) (shp7 G B _ kA_225) (kd_lt kA_225 (by decide)) rfl tw_836 tw_837 tw_838 ti_7 tw_839 hd_X7_thrown ⟨Nat.le_of_ble_eq_true rfl, Nat.le_of_ble_eq_true rfl⟩ ⟨Nat.le_trans (show _ ≤ 610000 by omega) (Nat.le_of_ble_eq_true rfl), Nat.le_trans (show _ ≤ 7050000 by omega) (Nat.le_of_ble_eq_true rfl)⟩ rfl rfl (Nat.le_of_ble_eq_true rfl) dL_law_162 ?_
          refine j_iload C (q := 5) dL_law_165 rfl ?_
          refine j_icmp_eq C (tgt := 172) dL_law_167 (by decide) (fun c73 => ?_) (fun c73 => ?_)
          · have h := ite_t h c73
            refine j_iload C (q := 5) dL_law_172 rfl ?_
            refine j_if_ne C (tgt := 189) dL_law_174 (by decide) (fun c74 => ?_) (fun c74 => ?_)
            · have h := ite_t h c74
              refine j_aload_n C (q := 3) dL_law_177 rfl rfl ?_
              refine j_iconst C (v := 0) dL_law_178 (by decide) ?_
              obtain ⟨g76, h⟩ := gd_some h
              refine j_lald C (i := 235) k235 (inA g76 aA_235) dL_law_179 ?_
              refine j_iload C (q := 6) dL_law_180 rfl ?_
              refine j_i2l C dL_law_182 ?_
              refine j_lcmp C dL_law_183 ?_
              refine j_if_eq C (tgt := 189) dL_law_184 (by decide) (fun c77 => ?_) (fun c77 => ?_)
              · have h := ite_t h c77
                refine j_goto C (tgt := 1537) dL_law_189 (by decide) ?_
                obtain ⟨x78, ex78⟩ : ∃ y : Int32, y = (y4 + 5) := ⟨_, rfl⟩
                have h := lt_at h ex78
                refine j_iinc C (q := 4) [(0, .ref b), (1, .ref (B + 0)), (2, .ref (B + 225)), (3, .ref (B + 235)), (4, .int x78), (5, .int x64), (6, .int x67)] [1, 2, 3, 4, 0, 5, 6] dL_law_1537 rfl (by rw [ex78]; rfl) (by decide) rfl ?_
                refine j_goto C (tgt := 23) dL_law_1540 (by decide) ?_
                refine j_sub [0, 1, 2, 3, 4] rfl ?_
                exact ih23 x78 _ _ _ (by omega) (by omega) h
              · have h := ite_f h c77
                refine j_iconst C (v := 0) dL_law_187 (by decide) ?_
                exact absurd (Option.some.inj h) (by decide)
            · have h := ite_f h c74
              refine j_goto C (tgt := 1537) dL_law_189 (by decide) ?_
              obtain ⟨x75, ex75⟩ : ∃ y : Int32, y = (y4 + 5) := ⟨_, rfl⟩
              have h := lt_at h ex75
              refine j_iinc C (q := 4) [(0, .ref b), (1, .ref (B + 0)), (2, .ref (B + 225)), (3, .ref (B + 235)), (4, .int x75), (5, .int x64), (6, .int x67)] [1, 2, 3, 4, 0, 5, 6] dL_law_1537 rfl (by rw [ex75]; rfl) (by decide) rfl ?_
              refine j_goto C (tgt := 23) dL_law_1540 (by decide) ?_
              refine j_sub [0, 1, 2, 3, 4] rfl ?_
              exact ih23 x75 _ _ _ (by omega) (by omega) h
          · have h := ite_f h c73
            refine j_iconst C (v := 0) dL_law_170 (by decide) ?_
            exact absurd (Option.some.inj h) (by decide)
        · have h := ite_f h c63
          by_cases c79 : ((xs (tc y4)) &&& 31) = 1
          · have h := ite_t h c79
            refine j_tableIn C (tgt := 192) dL_law_39 (by rw [c79]; decide) (by rw [c79]; decide) (by rw [c79]; rfl) (by decide) ?_
            refine j_aload_n C (q := 1) dL_law_192 rfl rfl ?_
            refine j_aload_n C (q := 3) dL_law_193 rfl rfl ?_
            obtain ⟨x80, t81, e82, h⟩ := bd_some h
            refine j_callW C E N (As := [.ref (B + 0), .ref (B + 235)]) (rest := []) (c_L_forget l G B dy sa hls _ e82) tw_568 tw_569 ti_L tw_570 hd_L_forget ⟨Nat.le_of_ble_eq_true rfl, Nat.le_of_ble_eq_true rfl⟩ ⟨Nat.le_trans (show _ ≤ 610000 by omega) (Nat.le_of_ble_eq_true rfl), Nat.le_trans (show _ ≤ 7050000 by omega) (Nat.le_of_ble_eq_true rfl)⟩ rfl rfl (Nat.le_of_ble_eq_true rfl) dL_law_194 ?_
            refine j_istore C [(0, .ref b), (1, .ref (B + 0)), (2, .ref (B + 225)), (3, .ref (B + 235)), (4, .int y4), (5, .int x80)] [1, 2, 3, 4, 5, 0] dL_law_197 (by decide) rfl ?_
            refine j_aload_n C (q := 2) dL_law_199 rfl rfl ?_
            obtain ⟨x83, t84, e85, h⟩ := bd_some h
            refine j_callV_i C (i := 225) (As := []) (rest := []) (c_X7_forget l G B dy _ e85) (shp7 G B _ kA_225) (kd_lt kA_225 (by decide)) rfl tw_894 tw_895 tw_896 ti_7 tw_897 hd_X7_forget ⟨Nat.le_of_ble_eq_true rfl, Nat.le_of_ble_eq_true rfl⟩ ⟨Nat.le_trans (show _ ≤ 610000 by omega) (Nat.le_of_ble_eq_true rfl), Nat.le_trans (show _ ≤ 7050000 by omega) (Nat.le_of_ble_eq_true rfl)⟩ rfl rfl (Nat.le_of_ble_eq_true rfl) dL_law_200 ?_
            refine j_istore C [(0, .ref b), (1, .ref (B + 0)), (2, .ref (B + 225)), (3, .ref (B + 235)), (4, .int y4), (5, .int x80), (6, .int x83)] [1, 2, 3, 4, 5, 6, 0] dL_law_203 (by decide) rfl ?_
            refine j_aload_n C (q := 2) dL_law_205 rfl rfl ?_
            obtain ⟨x86, t87, e88, h⟩ := bd_some h
            refine j_callV_i C (i := 225) (As := []) (rest := []) (c_X7_thrown l G B dy _ e88) (shp7 G B _ kA_225) (kd_lt kA_225 (by decide)) rfl tw_836 tw_837 tw_838 ti_7 tw_839 hd_X7_thrown ⟨Nat.le_of_ble_eq_true rfl, Nat.le_of_ble_eq_true rfl⟩ ⟨Nat.le_trans (show _ ≤ 610000 by omega) (Nat.le_of_ble_eq_true rfl), Nat.le_trans (show _ ≤ 7050000 by omega) (Nat.le_of_ble_eq_true rfl)⟩ rfl rfl (Nat.le_of_ble_eq_true rfl) dL_law_206 ?_
            refine j_iload C (q := 5) dL_law_209 rfl ?_
            refine j_icmp_eq C (tgt := 216) dL_law_211 (by decide) (fun c89 => ?_) (fun c89 => ?_)
            · have h := ite_t h c89
              refine j_iload C (q := 5) dL_law_216 rfl ?_
              refine j_if_ne C (tgt := 233) dL_law_218 (by decide) (fun c90 => ?_) (fun c90 => ?_)
              · have h := ite_t h c90
                refine j_aload_n C (q := 3) dL_law_221 rfl rfl ?_
                refine j_iconst C (v := 0) dL_law_222 (by decide) ?_
                obtain ⟨g92, h⟩ := gd_some h
                refine j_lald C (i := 235) k235 (inA g92 aA_235) dL_law_223 ?_
                refine j_iload C (q := 6) dL_law_224 rfl ?_
                refine j_i2l C dL_law_226 ?_
                refine j_lcmp C dL_law_227 ?_
                refine j_if_eq C (tgt := 233) dL_law_228 (by decide) (fun c93 => ?_) (fun c93 => ?_)
                · have h := ite_t h c93
                  refine j_goto C (tgt := 1537) dL_law_233 (by decide) ?_
                  obtain ⟨x94, ex94⟩ : ∃ y : Int32, y = (y4 + 5) := ⟨_, rfl⟩
                  have h := lt_at h ex94
                  refine j_iinc C (q := 4) [(0, .ref b), (1, .ref (B + 0)), (2, .ref (B + 225)), (3, .ref (B + 235)), (4, .int x94), (5, .int x80), (6, .int x83)] [1, 2, 3, 4, 0, 5, 6] dL_law_1537 rfl (by rw [ex94]; rfl) (by decide) rfl ?_
                  refine j_goto C (tgt := 23) dL_law_1540 (by decide) ?_
                  refine j_sub [0, 1, 2, 3, 4] rfl ?_
                  exact ih23 x94 _ _ _ (by omega) (by omega) h
                · have h := ite_f h c93
                  refine j_iconst C (v := 0) dL_law_231 (by decide) ?_
                  exact absurd (Option.some.inj h) (by decide)
              · have h := ite_f h c90
                refine j_goto C (tgt := 1537) dL_law_233 (by decide) ?_
                obtain ⟨x91, ex91⟩ : ∃ y : Int32, y = (y4 + 5) := ⟨_, rfl⟩
                have h := lt_at h ex91
                refine j_iinc C (q := 4) [(0, .ref b), (1, .ref (B + 0)), (2, .ref (B + 225)), (3, .ref (B + 235)), (4, .int x91), (5, .int x80), (6, .int x83)] [1, 2, 3, 4, 0, 5, 6] dL_law_1537 rfl (by rw [ex91]; rfl) (by decide) rfl ?_
                refine j_goto C (tgt := 23) dL_law_1540 (by decide) ?_
                refine j_sub [0, 1, 2, 3, 4] rfl ?_
                exact ih23 x91 _ _ _ (by omega) (by omega) h
            · have h := ite_f h c89
              refine j_iconst C (v := 0) dL_law_214 (by decide) ?_
              exact absurd (Option.some.inj h) (by decide)
          · have h := ite_f h c79
            by_cases c95 : ((xs (tc y4)) &&& 31) = 2
            · have h := ite_t h c95
              refine j_tableIn C (tgt := 236) dL_law_39 (by rw [c95]; decide) (by rw [c95]; decide) (by rw [c95]; rfl) (by decide) ?_
              refine j_aload_n C (q := 1) dL_law_236 rfl rfl ?_
              refine j_aload_n C (q := 0) dL_law_237 rfl rfl ?_
              refine j_iload C (q := 4) dL_law_238 rfl ?_
              refine j_iconst C (v := 1) dL_law_240 (by decide) ?_
              refine j_iadd C dL_law_241 ?_
              obtain ⟨g96, h⟩ := gd_some h
              refine j_sld C SB (inB_in g96) dL_law_242 ?_
              refine j_aload_n C (q := 0) dL_law_243 rfl rfl ?_
              refine j_iload C (q := 4) dL_law_244 rfl ?_
              refine j_iconst C (v := 2) dL_law_246 (by decide) ?_
              refine j_iadd C dL_law_247 ?_
              obtain ⟨g97, h⟩ := gd_some h
              refine j_sld C SB (inB_in g97) dL_law_248 ?_
              refine j_aload_n C (q := 3) dL_law_249 rfl rfl ?_
              obtain ⟨x98, t99, e100, h⟩ := bd_some h
              refine j_callW C E N (As := [.ref (B + 0), .int (xs (tc (y4 + 1))), .int (xs (tc (y4 + 2))), .ref (B + 235)]) (rest := []) (c_L_rank l G B dy sa hls (xs (tc (y4 + 1))) (xs (tc (y4 + 2))) _ e100) tw_592 tw_593 ti_L tw_594 hd_L_rank ⟨Nat.le_of_ble_eq_true rfl, Nat.le_of_ble_eq_true rfl⟩ ⟨Nat.le_trans (show _ ≤ 610000 by omega) (Nat.le_of_ble_eq_true rfl), Nat.le_trans (show _ ≤ 7050000 by omega) (Nat.le_of_ble_eq_true rfl)⟩ rfl rfl (Nat.le_of_ble_eq_true rfl) dL_law_250 ?_
              refine j_istore C [(0, .ref b), (1, .ref (B + 0)), (2, .ref (B + 225)), (3, .ref (B + 235)), (4, .int y4), (5, .int x98)] [1, 2, 3, 4, 5, 0] dL_law_253 (by decide) rfl ?_
              refine j_aload_n C (q := 2) dL_law_255 rfl rfl ?_
              refine j_aload_n C (q := 0) dL_law_256 rfl rfl ?_
              refine j_iload C (q := 4) dL_law_257 rfl ?_
              refine j_iconst C (v := 1) dL_law_259 (by decide) ?_
              refine j_iadd C dL_law_260 ?_
              obtain ⟨g101, h⟩ := gd_some h
              refine j_sld C SB (inB_in g101) dL_law_261 ?_
              refine j_aload_n C (q := 0) dL_law_262 rfl rfl ?_
              refine j_iload C (q := 4) dL_law_263 rfl ?_
              refine j_iconst C (v := 2) dL_law_265 (by decide) ?_
              refine j_iadd C dL_law_266 ?_
              obtain ⟨g102, h⟩ := gd_some h
              refine j_sld C SB (inB_in g102) dL_law_267 ?_
              obtain ⟨x103, t104, e105, h⟩ := bd_some h
              refine j_callV_i C (i := 225) (As := [.int (xs (tc (y4 + 1))), .int (xs (tc (y4 + 2)))]) (rest := []) (c_X7_rank l G B dy (xs (tc (y4 + 1))) (xs (tc (y4 + 2))) _ e105) (shp7 G B _ kA_225) (kd_lt kA_225 (by decide)) rfl tw_898 tw_899 tw_900 ti_7 tw_901 hd_X7_rank ⟨Nat.le_of_ble_eq_true rfl, Nat.le_of_ble_eq_true rfl⟩ ⟨Nat.le_trans (show _ ≤ 610000 by omega) (Nat.le_of_ble_eq_true rfl), Nat.le_trans (show _ ≤ 7050000 by omega) (Nat.le_of_ble_eq_true rfl)⟩ rfl rfl (Nat.le_of_ble_eq_true rfl) dL_law_268 ?_
              refine j_istore C [(0, .ref b), (1, .ref (B + 0)), (2, .ref (B + 225)), (3, .ref (B + 235)), (4, .int y4), (5, .int x98), (6, .int x103)] [1, 2, 3, 4, 5, 6, 0] dL_law_271 (by decide) rfl ?_
              refine j_aload_n C (q := 2) dL_law_273 rfl rfl ?_
              obtain ⟨x106, t107, e108, h⟩ := bd_some h
              refine j_callV_i C (i := 225) (As := []) (rest := []) (c_X7_thrown l G B dy _ e108) (shp7 G B _ kA_225) (kd_lt kA_225 (by decide)) rfl tw_836 tw_837 tw_838 ti_7 tw_839 hd_X7_thrown ⟨Nat.le_of_ble_eq_true rfl, Nat.le_of_ble_eq_true rfl⟩ ⟨Nat.le_trans (show _ ≤ 610000 by omega) (Nat.le_of_ble_eq_true rfl), Nat.le_trans (show _ ≤ 7050000 by omega) (Nat.le_of_ble_eq_true rfl)⟩ rfl rfl (Nat.le_of_ble_eq_true rfl) dL_law_274 ?_
              refine j_iload C (q := 5) dL_law_277 rfl ?_
              refine j_icmp_eq C (tgt := 284) dL_law_279 (by decide) (fun c109 => ?_) (fun c109 => ?_)
              · have h := ite_t h c109
                refine j_iload C (q := 5) dL_law_284 rfl ?_
                refine j_if_ne C (tgt := 301) dL_law_286 (by decide) (fun c110 => ?_) (fun c110 => ?_)
                · have h := ite_t h c110
                  refine j_aload_n C (q := 3) dL_law_289 rfl rfl ?_
                  refine j_iconst C (v := 0) dL_law_290 (by decide) ?_
                  obtain ⟨g112, h⟩ := gd_some h
                  refine j_lald C (i := 235) k235 (inA g112 aA_235) dL_law_291 ?_
                  refine j_iload C (q := 6) dL_law_292 rfl ?_
                  refine j_i2l C dL_law_294 ?_
                  refine j_lcmp C dL_law_295 ?_
                  refine j_if_eq C (tgt := 301) dL_law_296 (by decide) (fun c113 => ?_) (fun c113 => ?_)
                  · have h := ite_t h c113
                    refine j_goto C (tgt := 1537) dL_law_301 (by decide) ?_
                    obtain ⟨x114, ex114⟩ : ∃ y : Int32, y = (y4 + 5) := ⟨_, rfl⟩
                    have h := lt_at h ex114
                    refine j_iinc C (q := 4) [(0, .ref b), (1, .ref (B + 0)), (2, .ref (B + 225)), (3, .ref (B + 235)), (4, .int x114), (5, .int x98), (6, .int x103)] [1, 2, 3, 4, 0, 5, 6] dL_law_1537 rfl (by rw [ex114]; rfl) (by decide) rfl ?_
                    refine j_goto C (tgt := 23) dL_law_1540 (by decide) ?_
                    refine j_sub [0, 1, 2, 3, 4] rfl ?_
                    exact ih23 x114 _ _ _ (by omega) (by omega) h
                  · have h := ite_f h c113
                    refine j_iconst C (v := 0) dL_law_299 (by decide) ?_
                    exact absurd (Option.some.inj h) (by decide)
                · have h := ite_f h c110
                  refine j_goto C (tgt := 1537) dL_law_301 (by decide) ?_
                  obtain ⟨x111, ex111⟩ : ∃ y : Int32, y = (y4 + 5) := ⟨_, rfl⟩
                  have h := lt_at h ex111
                  refine j_iinc C (q := 4) [(0, .ref b), (1, .ref (B + 0)), (2, .ref (B + 225)), (3, .ref (B + 235)), (4, .int x111), (5, .int x98), (6, .int x103)] [1, 2, 3, 4, 0, 5, 6] dL_law_1537 rfl (by rw [ex111]; rfl) (by decide) rfl ?_
                  refine j_goto C (tgt := 23) dL_law_1540 (by decide) ?_
                  refine j_sub [0, 1, 2, 3, 4] rfl ?_
                  exact ih23 x111 _ _ _ (by omega) (by omega) h
              · have h := ite_f h c109
                refine j_iconst C (v := 0) dL_law_282 (by decide) ?_
                exact absurd (Option.some.inj h) (by decide)
            · have h := ite_f h c95
              by_cases c115 : ((xs (tc y4)) &&& 31) = 3
              · have h := ite_t h c115
                refine j_tableIn C (tgt := 304) dL_law_39 (by rw [c115]; decide) (by rw [c115]; decide) (by rw [c115]; rfl) (by decide) ?_
                refine j_aload_n C (q := 1) dL_law_304 rfl rfl ?_
                refine j_aload_n C (q := 0) dL_law_305 rfl rfl ?_
                refine j_iload C (q := 4) dL_law_306 rfl ?_
                refine j_iconst C (v := 1) dL_law_308 (by decide) ?_
                refine j_iadd C dL_law_309 ?_
                obtain ⟨g116, h⟩ := gd_some h
                refine j_sld C SB (inB_in g116) dL_law_310 ?_
                refine j_aload_n C (q := 0) dL_law_311 rfl rfl ?_
                refine j_iload C (q := 4) dL_law_312 rfl ?_
                refine j_iconst C (v := 2) dL_law_314 (by decide) ?_
                refine j_iadd C dL_law_315 ?_
                obtain ⟨g117, h⟩ := gd_some h
                refine j_sld C SB (inB_in g117) dL_law_316 ?_
                refine j_aload_n C (q := 3) dL_law_317 rfl rfl ?_
                obtain ⟨x118, t119, e120, h⟩ := bd_some h
                refine j_callW C E N (As := [.ref (B + 0), .int (xs (tc (y4 + 1))), .int (xs (tc (y4 + 2))), .ref (B + 235)]) (rest := []) (c_L_teach l G B dy sa hls (xs (tc (y4 + 1))) (xs (tc (y4 + 2))) _ e120) tw_625 tw_626 ti_L tw_627 hd_L_teach ⟨Nat.le_of_ble_eq_true rfl, Nat.le_of_ble_eq_true rfl⟩ ⟨Nat.le_trans (show _ ≤ 610000 by omega) (Nat.le_of_ble_eq_true rfl), Nat.le_trans (show _ ≤ 7050000 by omega) (Nat.le_of_ble_eq_true rfl)⟩ rfl rfl (Nat.le_of_ble_eq_true rfl) dL_law_318 ?_
                refine j_istore C [(0, .ref b), (1, .ref (B + 0)), (2, .ref (B + 225)), (3, .ref (B + 235)), (4, .int y4), (5, .int x118)] [1, 2, 3, 4, 5, 0] dL_law_321 (by decide) rfl ?_
                refine j_aload_n C (q := 2) dL_law_323 rfl rfl ?_
                refine j_aload_n C (q := 0) dL_law_324 rfl rfl ?_
                refine j_iload C (q := 4) dL_law_325 rfl ?_
                refine j_iconst C (v := 1) dL_law_327 (by decide) ?_
                refine j_iadd C dL_law_328 ?_
                obtain ⟨g121, h⟩ := gd_some h
                refine j_sld C SB (inB_in g121) dL_law_329 ?_
                refine j_aload_n C (q := 0) dL_law_330 rfl rfl ?_
                refine j_iload C (q := 4) dL_law_331 rfl ?_
                refine j_iconst C (v := 2) dL_law_333 (by decide) ?_
                refine j_iadd C dL_law_334 ?_
                obtain ⟨g122, h⟩ := gd_some h
                refine j_sld C SB (inB_in g122) dL_law_335 ?_
                obtain ⟨x123, t124, e125, h⟩ := bd_some h
                refine j_callV_i C (i := 225) (As := [.int (xs (tc (y4 + 1))), .int (xs (tc (y4 + 2)))]) (rest := []) (c_X7_teach l G B dy (xs (tc (y4 + 1))) (xs (tc (y4 + 2))) _ e125) (shp7 G B _ kA_225) (kd_lt kA_225 (by decide)) rfl tw_910 tw_911 tw_912 ti_7 tw_913 hd_X7_teach ⟨Nat.le_of_ble_eq_true rfl, Nat.le_of_ble_eq_true rfl⟩ ⟨Nat.le_trans (show _ ≤ 610000 by omega) (Nat.le_of_ble_eq_true rfl), Nat.le_trans (show _ ≤ 7050000 by omega) (Nat.le_of_ble_eq_true rfl)⟩ rfl rfl (Nat.le_of_ble_eq_true rfl) dL_law_336 ?_
                refine j_istore C [(0, .ref b), (1, .ref (B + 0)), (2, .ref (B + 225)), (3, .ref (B + 235)), (4, .int y4), (5, .int x118), (6, .int x123)] [1, 2, 3, 4, 5, 6, 0] dL_law_339 (by decide) rfl ?_
                refine j_aload_n C (q := 2) dL_law_341 rfl rfl ?_
                obtain ⟨x126, t127, e128, h⟩ := bd_some h
                refine j_callV_i C (i := 225) (As := []) (rest := []) (c_X7_thrown l G B dy _ e128) (shp7 G B _ kA_225) (kd_lt kA_225 (by decide)) rfl tw_836 tw_837 tw_838 ti_7 tw_839 hd_X7_thrown ⟨Nat.le_of_ble_eq_true rfl, Nat.le_of_ble_eq_true rfl⟩ ⟨Nat.le_trans (show _ ≤ 610000 by omega) (Nat.le_of_ble_eq_true rfl), Nat.le_trans (show _ ≤ 7050000 by omega) (Nat.le_of_ble_eq_true rfl)⟩ rfl rfl (Nat.le_of_ble_eq_true rfl) dL_law_342 ?_
                refine j_iload C (q := 5) dL_law_345 rfl ?_
                refine j_icmp_eq C (tgt := 352) dL_law_347 (by decide) (fun c129 => ?_) (fun c129 => ?_)
                · have h := ite_t h c129
                  refine j_iload C (q := 5) dL_law_352 rfl ?_
                  refine j_if_ne C (tgt := 369) dL_law_354 (by decide) (fun c130 => ?_) (fun c130 => ?_)
                  · have h := ite_t h c130
                    refine j_aload_n C (q := 3) dL_law_357 rfl rfl ?_
                    refine j_iconst C (v := 0) dL_law_358 (by decide) ?_
                    obtain ⟨g132, h⟩ := gd_some h
                    refine j_lald C (i := 235) k235 (inA g132 aA_235) dL_law_359 ?_
                    refine j_iload C (q := 6) dL_law_360 rfl ?_
                    refine j_i2l C dL_law_362 ?_
                    refine j_lcmp C dL_law_363 ?_
                    refine j_if_eq C (tgt := 369) dL_law_364 (by decide) (fun c133 => ?_) (fun c133 => ?_)
                    · have h := ite_t h c133
                      refine j_goto C (tgt := 1537) dL_law_369 (by decide) ?_
                      obtain ⟨x134, ex134⟩ : ∃ y : Int32, y = (y4 + 5) := ⟨_, rfl⟩
                      have h := lt_at h ex134
                      refine j_iinc C (q := 4) [(0, .ref b), (1, .ref (B + 0)), (2, .ref (B + 225)), (3, .ref (B + 235)), (4, .int x134), (5, .int x118), (6, .int x123)] [1, 2, 3, 4, 0, 5, 6] dL_law_1537 rfl (by rw [ex134]; rfl) (by decide) rfl ?_
                      refine j_goto C (tgt := 23) dL_law_1540 (by decide) ?_
                      refine j_sub [0, 1, 2, 3, 4] rfl ?_
                      exact ih23 x134 _ _ _ (by omega) (by omega) h
                    · have h := ite_f h c133
                      refine j_iconst C (v := 0) dL_law_367 (by decide) ?_
                      exact absurd (Option.some.inj h) (by decide)
                  · have h := ite_f h c130
                    refine j_goto C (tgt := 1537) dL_law_369 (by decide) ?_
                    obtain ⟨x131, ex131⟩ : ∃ y : Int32, y = (y4 + 5) := ⟨_, rfl⟩
                    have h := lt_at h ex131
                    refine j_iinc C (q := 4) [(0, .ref b), (1, .ref (B + 0)), (2, .ref (B + 225)), (3, .ref (B + 235)), (4, .int x131), (5, .int x118), (6, .int x123)] [1, 2, 3, 4, 0, 5, 6] dL_law_1537 rfl (by rw [ex131]; rfl) (by decide) rfl ?_
                    refine j_goto C (tgt := 23) dL_law_1540 (by decide) ?_
                    refine j_sub [0, 1, 2, 3, 4] rfl ?_
                    exact ih23 x131 _ _ _ (by omega) (by omega) h
                · have h := ite_f h c129
                  refine j_iconst C (v := 0) dL_law_350 (by decide) ?_
                  exact absurd (Option.some.inj h) (by decide)
              · have h := ite_f h c115
                by_cases c135 : ((xs (tc y4)) &&& 31) = 4
                · have h := ite_t h c135
                  refine j_tableIn C (tgt := 372) dL_law_39 (by rw [c135]; decide) (by rw [c135]; decide) (by rw [c135]; rfl) (by decide) ?_
                  refine j_aload_n C (q := 1) dL_law_372 rfl rfl ?_
                  refine j_aload_n C (q := 0) dL_law_373 rfl rfl ?_
                  refine j_iload C (q := 4) dL_law_374 rfl ?_
                  refine j_iconst C (v := 1) dL_law_376 (by decide) ?_
                  refine j_iadd C dL_law_377 ?_
                  obtain ⟨g136, h⟩ := gd_some h
                  refine j_sld C SB (inB_in g136) dL_law_378 ?_
                  refine j_aload_n C (q := 0) dL_law_379 rfl rfl ?_
                  refine j_iload C (q := 4) dL_law_380 rfl ?_
                  refine j_iconst C (v := 2) dL_law_382 (by decide) ?_
                  refine j_iadd C dL_law_383 ?_
                  obtain ⟨g137, h⟩ := gd_some h
                  refine j_sld C SB (inB_in g137) dL_law_384 ?_
                  refine j_aload_n C (q := 3) dL_law_385 rfl rfl ?_
                  obtain ⟨x138, t139, e140, h⟩ := bd_some h
                  refine j_callW C E N (As := [.ref (B + 0), .int (xs (tc (y4 + 1))), .int (xs (tc (y4 + 2))), .ref (B + 235)]) (rest := []) (c_L_carve l G B dy sa hls (xs (tc (y4 + 1))) (xs (tc (y4 + 2))) _ e140) tw_635 tw_636 ti_L tw_637 hd_L_carve ⟨Nat.le_of_ble_eq_true rfl, Nat.le_of_ble_eq_true rfl⟩ ⟨Nat.le_trans (show _ ≤ 610000 by omega) (Nat.le_of_ble_eq_true rfl), Nat.le_trans (show _ ≤ 7050000 by omega) (Nat.le_of_ble_eq_true rfl)⟩ rfl rfl (Nat.le_of_ble_eq_true rfl) dL_law_386 ?_
                  refine j_istore C [(0, .ref b), (1, .ref (B + 0)), (2, .ref (B + 225)), (3, .ref (B + 235)), (4, .int y4), (5, .int x138)] [1, 2, 3, 4, 5, 0] dL_law_389 (by decide) rfl ?_
                  refine j_aload_n C (q := 2) dL_law_391 rfl rfl ?_
                  refine j_aload_n C (q := 0) dL_law_392 rfl rfl ?_
                  refine j_iload C (q := 4) dL_law_393 rfl ?_
                  refine j_iconst C (v := 1) dL_law_395 (by decide) ?_
                  refine j_iadd C dL_law_396 ?_
                  obtain ⟨g141, h⟩ := gd_some h
                  refine j_sld C SB (inB_in g141) dL_law_397 ?_
                  refine j_aload_n C (q := 0) dL_law_398 rfl rfl ?_
                  refine j_iload C (q := 4) dL_law_399 rfl ?_
                  refine j_iconst C (v := 2) dL_law_401 (by decide) ?_
                  refine j_iadd C dL_law_402 ?_
                  obtain ⟨g142, h⟩ := gd_some h
                  refine j_sld C SB (inB_in g142) dL_law_403 ?_
                  obtain ⟨x143, t144, e145, h⟩ := bd_some h
                  refine j_callV_i C (i := 225) (As := [.int (xs (tc (y4 + 1))), .int (xs (tc (y4 + 2)))]) (rest := []) (c_X7_carve l G B dy (xs (tc (y4 + 1))) (xs (tc (y4 + 2))) _ e145) (shp7 G B _ kA_225) (kd_lt kA_225 (by decide)) rfl tw_921 tw_922 tw_923 ti_7 tw_924 hd_X7_carve ⟨Nat.le_of_ble_eq_true rfl, Nat.le_of_ble_eq_true rfl⟩ ⟨Nat.le_trans (show _ ≤ 610000 by omega) (Nat.le_of_ble_eq_true rfl), Nat.le_trans (show _ ≤ 7050000 by omega) (Nat.le_of_ble_eq_true rfl)⟩ rfl rfl (Nat.le_of_ble_eq_true rfl) dL_law_404 ?_
                  refine j_istore C [(0, .ref b), (1, .ref (B + 0)), (2, .ref (B + 225)), (3, .ref (B + 235)), (4, .int y4), (5, .int x138), (6, .int x143)] [1, 2, 3, 4, 5, 6, 0] dL_law_407 (by decide) rfl ?_
                  refine j_aload_n C (q := 2) dL_law_409 rfl rfl ?_
                  obtain ⟨x146, t147, e148, h⟩ := bd_some h
                  refine j_callV_i C (i := 225) (As := []) (rest := []) (c_X7_thrown l G B dy _ e148) (shp7 G B _ kA_225) (kd_lt kA_225 (by decide)) rfl tw_836 tw_837 tw_838 ti_7 tw_839 hd_X7_thrown ⟨Nat.le_of_ble_eq_true rfl, Nat.le_of_ble_eq_true rfl⟩ ⟨Nat.le_trans (show _ ≤ 610000 by omega) (Nat.le_of_ble_eq_true rfl), Nat.le_trans (show _ ≤ 7050000 by omega) (Nat.le_of_ble_eq_true rfl)⟩ rfl rfl (Nat.le_of_ble_eq_true rfl) dL_law_410 ?_
                  refine j_iload C (q := 5) dL_law_413 rfl ?_
                  refine j_icmp_eq C (tgt := 420) dL_law_415 (by decide) (fun c149 => ?_) (fun c149 => ?_)
                  · have h := ite_t h c149
                    refine j_iload C (q := 5) dL_law_420 rfl ?_
                    refine j_if_ne C (tgt := 437) dL_law_422 (by decide) (fun c150 => ?_) (fun c150 => ?_)
                    · have h := ite_t h c150
                      refine j_aload_n C (q := 3) dL_law_425 rfl rfl ?_
                      refine j_iconst C (v := 0) dL_law_426 (by decide) ?_
                      obtain ⟨g152, h⟩ := gd_some h
                      refine j_lald C (i := 235) k235 (inA g152 aA_235) dL_law_427 ?_
                      refine j_iload C (q := 6) dL_law_428 rfl ?_
                      refine j_i2l C dL_law_430 ?_
                      refine j_lcmp C dL_law_431 ?_
                      refine j_if_eq C (tgt := 437) dL_law_432 (by decide) (fun c153 => ?_) (fun c153 => ?_)
                      · have h := ite_t h c153
                        refine j_goto C (tgt := 1537) dL_law_437 (by decide) ?_
                        obtain ⟨x154, ex154⟩ : ∃ y : Int32, y = (y4 + 5) := ⟨_, rfl⟩
                        have h := lt_at h ex154
                        refine j_iinc C (q := 4) [(0, .ref b), (1, .ref (B + 0)), (2, .ref (B + 225)), (3, .ref (B + 235)), (4, .int x154), (5, .int x138), (6, .int x143)] [1, 2, 3, 4, 0, 5, 6] dL_law_1537 rfl (by rw [ex154]; rfl) (by decide) rfl ?_
                        refine j_goto C (tgt := 23) dL_law_1540 (by decide) ?_
                        refine j_sub [0, 1, 2, 3, 4] rfl ?_
                        exact ih23 x154 _ _ _ (by omega) (by omega) h
                      · have h := ite_f h c153
                        refine j_iconst C (v := 0) dL_law_435 (by decide) ?_
                        exact absurd (Option.some.inj h) (by decide)
                    · have h := ite_f h c150
                      refine j_goto C (tgt := 1537) dL_law_437 (by decide) ?_
                      obtain ⟨x151, ex151⟩ : ∃ y : Int32, y = (y4 + 5) := ⟨_, rfl⟩
                      have h := lt_at h ex151
                      refine j_iinc C (q := 4) [(0, .ref b), (1, .ref (B + 0)), (2, .ref (B + 225)), (3, .ref (B + 235)), (4, .int x151), (5, .int x138), (6, .int x143)] [1, 2, 3, 4, 0, 5, 6] dL_law_1537 rfl (by rw [ex151]; rfl) (by decide) rfl ?_
                      refine j_goto C (tgt := 23) dL_law_1540 (by decide) ?_
                      refine j_sub [0, 1, 2, 3, 4] rfl ?_
                      exact ih23 x151 _ _ _ (by omega) (by omega) h
                  · have h := ite_f h c149
                    refine j_iconst C (v := 0) dL_law_418 (by decide) ?_
                    exact absurd (Option.some.inj h) (by decide)
                · have h := ite_f h c135
                  by_cases c155 : ((xs (tc y4)) &&& 31) = 5
                  · have h := ite_t h c155
                    refine j_tableIn C (tgt := 440) dL_law_39 (by rw [c155]; decide) (by rw [c155]; decide) (by rw [c155]; rfl) (by decide) ?_
                    refine j_aload_n C (q := 1) dL_law_440 rfl rfl ?_
                    refine j_aload_n C (q := 0) dL_law_441 rfl rfl ?_
                    refine j_iload C (q := 4) dL_law_442 rfl ?_
                    refine j_iconst C (v := 1) dL_law_444 (by decide) ?_
                    refine j_iadd C dL_law_445 ?_
                    obtain ⟨g156, h⟩ := gd_some h
                    refine j_sld C SB (inB_in g156) dL_law_446 ?_
                    refine j_aload_n C (q := 3) dL_law_447 rfl rfl ?_
                    obtain ⟨x157, t158, e159, h⟩ := bd_some h
                    refine j_callW C E N (As := [.ref (B + 0), .int (xs (tc (y4 + 1))), .ref (B + 235)]) (rest := []) (c_L_burn l G B dy sa hls (xs (tc (y4 + 1))) _ e159) tw_653 tw_654 ti_L tw_655 hd_L_burn ⟨Nat.le_of_ble_eq_true rfl, Nat.le_of_ble_eq_true rfl⟩ ⟨Nat.le_trans (show _ ≤ 610000 by omega) (Nat.le_of_ble_eq_true rfl), Nat.le_trans (show _ ≤ 7050000 by omega) (Nat.le_of_ble_eq_true rfl)⟩ rfl rfl (Nat.le_of_ble_eq_true rfl) dL_law_448 ?_
                    refine j_istore C [(0, .ref b), (1, .ref (B + 0)), (2, .ref (B + 225)), (3, .ref (B + 235)), (4, .int y4), (5, .int x157)] [1, 2, 3, 4, 5, 0] dL_law_451 (by decide) rfl ?_
                    refine j_aload_n C (q := 2) dL_law_453 rfl rfl ?_
                    refine j_aload_n C (q := 0) dL_law_454 rfl rfl ?_
                    refine j_iload C (q := 4) dL_law_455 rfl ?_
                    refine j_iconst C (v := 1) dL_law_457 (by decide) ?_
                    refine j_iadd C dL_law_458 ?_
                    obtain ⟨g160, h⟩ := gd_some h
                    refine j_sld C SB (inB_in g160) dL_law_459 ?_
                    obtain ⟨x161, t162, e163, h⟩ := bd_some h
                    refine j_callV_i C (i := 225) (As := [.int (xs (tc (y4 + 1)))]) (rest := []) (c_X7_burn l G B dy (xs (tc (y4 + 1))) _ e163) (shp7 G B _ kA_225) (kd_lt kA_225 (by decide)) rfl tw_953 tw_954 tw_955 ti_7 tw_956 hd_X7_burn ⟨Nat.le_of_ble_eq_true rfl, Nat.le_of_ble_eq_true rfl⟩ ⟨Nat.le_trans (show _ ≤ 610000 by omega) (Nat.le_of_ble_eq_true rfl), Nat.le_trans (show _ ≤ 7050000 by omega) (Nat.le_of_ble_eq_true rfl)⟩ rfl rfl (Nat.le_of_ble_eq_true rfl) dL_law_460 ?_
                    refine j_istore C [(0, .ref b), (1, .ref (B + 0)), (2, .ref (B + 225)), (3, .ref (B + 235)), (4, .int y4), (5, .int x157), (6, .int x161)] [1, 2, 3, 4, 5, 6, 0] dL_law_463 (by decide) rfl ?_
                    refine j_aload_n C (q := 2) dL_law_465 rfl rfl ?_
                    obtain ⟨x164, t165, e166, h⟩ := bd_some h
                    refine j_callV_i C (i := 225) (As := []) (rest := []) (c_X7_thrown l G B dy _ e166) (shp7 G B _ kA_225) (kd_lt kA_225 (by decide)) rfl tw_836 tw_837 tw_838 ti_7 tw_839 hd_X7_thrown ⟨Nat.le_of_ble_eq_true rfl, Nat.le_of_ble_eq_true rfl⟩ ⟨Nat.le_trans (show _ ≤ 610000 by omega) (Nat.le_of_ble_eq_true rfl), Nat.le_trans (show _ ≤ 7050000 by omega) (Nat.le_of_ble_eq_true rfl)⟩ rfl rfl (Nat.le_of_ble_eq_true rfl) dL_law_466 ?_
                    refine j_iload C (q := 5) dL_law_469 rfl ?_
                    refine j_icmp_eq C (tgt := 476) dL_law_471 (by decide) (fun c167 => ?_) (fun c167 => ?_)
                    · have h := ite_t h c167
                      refine j_iload C (q := 5) dL_law_476 rfl ?_
                      refine j_if_ne C (tgt := 493) dL_law_478 (by decide) (fun c168 => ?_) (fun c168 => ?_)
                      · have h := ite_t h c168
                        refine j_aload_n C (q := 3) dL_law_481 rfl rfl ?_
                        refine j_iconst C (v := 0) dL_law_482 (by decide) ?_
                        obtain ⟨g170, h⟩ := gd_some h
                        refine j_lald C (i := 235) k235 (inA g170 aA_235) dL_law_483 ?_
                        refine j_iload C (q := 6) dL_law_484 rfl ?_
                        refine j_i2l C dL_law_486 ?_
                        refine j_lcmp C dL_law_487 ?_
                        refine j_if_eq C (tgt := 493) dL_law_488 (by decide) (fun c171 => ?_) (fun c171 => ?_)
                        · have h := ite_t h c171
                          refine j_goto C (tgt := 1537) dL_law_493 (by decide) ?_
                          obtain ⟨x172, ex172⟩ : ∃ y : Int32, y = (y4 + 5) := ⟨_, rfl⟩
                          have h := lt_at h ex172
                          refine j_iinc C (q := 4) [(0, .ref b), (1, .ref (B + 0)), (2, .ref (B + 225)), (3, .ref (B + 235)), (4, .int x172), (5, .int x157), (6, .int x161)] [1, 2, 3, 4, 0, 5, 6] dL_law_1537 rfl (by rw [ex172]; rfl) (by decide) rfl ?_
                          refine j_goto C (tgt := 23) dL_law_1540 (by decide) ?_
                          refine j_sub [0, 1, 2, 3, 4] rfl ?_
                          exact ih23 x172 _ _ _ (by omega) (by omega) h
                        · have h := ite_f h c171
                          refine j_iconst C (v := 0) dL_law_491 (by decide) ?_
                          exact absurd (Option.some.inj h) (by decide)
                      · have h := ite_f h c168
                        refine j_goto C (tgt := 1537) dL_law_493 (by decide) ?_
                        obtain ⟨x169, ex169⟩ : ∃ y : Int32, y = (y4 + 5) := ⟨_, rfl⟩
                        have h := lt_at h ex169
                        refine j_iinc C (q := 4) [(0, .ref b), (1, .ref (B + 0)), (2, .ref (B + 225)), (3, .ref (B + 235)), (4, .int x169), (5, .int x157), (6, .int x161)] [1, 2, 3, 4, 0, 5, 6] dL_law_1537 rfl (by rw [ex169]; rfl) (by decide) rfl ?_
                        refine j_goto C (tgt := 23) dL_law_1540 (by decide) ?_
                        refine j_sub [0, 1, 2, 3, 4] rfl ?_
                        exact ih23 x169 _ _ _ (by omega) (by omega) h
                    · have h := ite_f h c167
                      refine j_iconst C (v := 0) dL_law_474 (by decide) ?_
                      exact absurd (Option.some.inj h) (by decide)
                  · have h := ite_f h c155
                    by_cases c173 : ((xs (tc y4)) &&& 31) = 6
                    · have h := ite_t h c173
                      refine j_tableIn C (tgt := 496) dL_law_39 (by rw [c173]; decide) (by rw [c173]; decide) (by rw [c173]; rfl) (by decide) ?_
                      refine j_aload_n C (q := 1) dL_law_496 rfl rfl ?_
                      refine j_aload_n C (q := 0) dL_law_497 rfl rfl ?_
                      refine j_iload C (q := 4) dL_law_498 rfl ?_
                      refine j_iconst C (v := 1) dL_law_500 (by decide) ?_
                      refine j_iadd C dL_law_501 ?_
                      obtain ⟨g174, h⟩ := gd_some h
                      refine j_sld C SB (inB_in g174) dL_law_502 ?_
                      refine j_aload_n C (q := 3) dL_law_503 rfl rfl ?_
                      obtain ⟨x175, t176, e177, h⟩ := bd_some h
                      refine j_callW C E N (As := [.ref (B + 0), .int (xs (tc (y4 + 1))), .ref (B + 235)]) (rest := []) (c_L_set l G B dy sa hls (xs (tc (y4 + 1))) _ e177) tw_669 tw_670 ti_L tw_671 hd_L_set ⟨Nat.le_of_ble_eq_true rfl, Nat.le_of_ble_eq_true rfl⟩ ⟨Nat.le_trans (show _ ≤ 610000 by omega) (Nat.le_of_ble_eq_true rfl), Nat.le_trans (show _ ≤ 7050000 by omega) (Nat.le_of_ble_eq_true rfl)⟩ rfl rfl (Nat.le_of_ble_eq_true rfl) dL_law_504 ?_
                      refine j_istore C [(0, .ref b), (1, .ref (B + 0)), (2, .ref (B + 225)), (3, .ref (B + 235)), (4, .int y4), (5, .int x175)] [1, 2, 3, 4, 5, 0] dL_law_507 (by decide) rfl ?_
                      refine j_aload_n C (q := 2) dL_law_509 rfl rfl ?_
                      refine j_aload_n C (q := 0) dL_law_510 rfl rfl ?_
                      refine j_iload C (q := 4) dL_law_511 rfl ?_
                      refine j_iconst C (v := 1) dL_law_513 (by decide) ?_
                      refine j_iadd C dL_law_514 ?_
                      obtain ⟨g178, h⟩ := gd_some h
                      refine j_sld C SB (inB_in g178) dL_law_515 ?_
                      obtain ⟨x179, t180, e181, h⟩ := bd_some h
                      refine j_callV_i C (i := 225) (As := [.int (xs (tc (y4 + 1)))]) (rest := []) (c_X7_set l G B dy (xs (tc (y4 + 1))) _ e181) (shp7 G B _ kA_225) (kd_lt kA_225 (by decide)) rfl tw_917 tw_918 tw_919 ti_7 tw_920 hd_X7_set ⟨Nat.le_of_ble_eq_true rfl, Nat.le_of_ble_eq_true rfl⟩ ⟨Nat.le_trans (show _ ≤ 610000 by omega) (Nat.le_of_ble_eq_true rfl), Nat.le_trans (show _ ≤ 7050000 by omega) (Nat.le_of_ble_eq_true rfl)⟩ rfl rfl (Nat.le_of_ble_eq_true rfl) dL_law_516 ?_
                      refine j_istore C [(0, .ref b), (1, .ref (B + 0)), (2, .ref (B + 225)), (3, .ref (B + 235)), (4, .int y4), (5, .int x175), (6, .int x179)] [1, 2, 3, 4, 5, 6, 0] dL_law_519 (by decide) rfl ?_
                      refine j_aload_n C (q := 2) dL_law_521 rfl rfl ?_
                      obtain ⟨x182, t183, e184, h⟩ := bd_some h
                      refine j_callV_i C (i := 225) (As := []) (rest := []) (c_X7_thrown l G B dy _ e184) (shp7 G B _ kA_225) (kd_lt kA_225 (by decide)) rfl tw_836 tw_837 tw_838 ti_7 tw_839 hd_X7_thrown ⟨Nat.le_of_ble_eq_true rfl, Nat.le_of_ble_eq_true rfl⟩ ⟨Nat.le_trans (show _ ≤ 610000 by omega) (Nat.le_of_ble_eq_true rfl), Nat.le_trans (show _ ≤ 7050000 by omega) (Nat.le_of_ble_eq_true rfl)⟩ rfl rfl (Nat.le_of_ble_eq_true rfl) dL_law_522 ?_
                      refine j_iload C (q := 5) dL_law_525 rfl ?_
                      refine j_icmp_eq C (tgt := 532) dL_law_527 (by decide) (fun c185 => ?_) (fun c185 => ?_)
                      · have h := ite_t h c185
                        refine j_iload C (q := 5) dL_law_532 rfl ?_
                        refine j_if_ne C (tgt := 549) dL_law_534 (by decide) (fun c186 => ?_) (fun c186 => ?_)
                        · have h := ite_t h c186
                          refine j_aload_n C (q := 3) dL_law_537 rfl rfl ?_
                          refine j_iconst C (v := 0) dL_law_538 (by decide) ?_
                          obtain ⟨g188, h⟩ := gd_some h
                          refine j_lald C (i := 235) k235 (inA g188 aA_235) dL_law_539 ?_
                          refine j_iload C (q := 6) dL_law_540 rfl ?_
                          refine j_i2l C dL_law_542 ?_
                          refine j_lcmp C dL_law_543 ?_
                          refine j_if_eq C (tgt := 549) dL_law_544 (by decide) (fun c189 => ?_) (fun c189 => ?_)
                          · have h := ite_t h c189
                            refine j_goto C (tgt := 1537) dL_law_549 (by decide) ?_
                            obtain ⟨x190, ex190⟩ : ∃ y : Int32, y = (y4 + 5) := ⟨_, rfl⟩
                            have h := lt_at h ex190
                            refine j_iinc C (q := 4) [(0, .ref b), (1, .ref (B + 0)), (2, .ref (B + 225)), (3, .ref (B + 235)), (4, .int x190), (5, .int x175), (6, .int x179)] [1, 2, 3, 4, 0, 5, 6] dL_law_1537 rfl (by rw [ex190]; rfl) (by decide) rfl ?_
                            refine j_goto C (tgt := 23) dL_law_1540 (by decide) ?_
                            refine j_sub [0, 1, 2, 3, 4] rfl ?_
                            exact ih23 x190 _ _ _ (by omega) (by omega) h
                          · have h := ite_f h c189
                            refine j_iconst C (v := 0) dL_law_547 (by decide) ?_
                            exact absurd (Option.some.inj h) (by decide)
                        · have h := ite_f h c186
                          refine j_goto C (tgt := 1537) dL_law_549 (by decide) ?_
                          obtain ⟨x187, ex187⟩ : ∃ y : Int32, y = (y4 + 5) := ⟨_, rfl⟩
                          have h := lt_at h ex187
                          refine j_iinc C (q := 4) [(0, .ref b), (1, .ref (B + 0)), (2, .ref (B + 225)), (3, .ref (B + 235)), (4, .int x187), (5, .int x175), (6, .int x179)] [1, 2, 3, 4, 0, 5, 6] dL_law_1537 rfl (by rw [ex187]; rfl) (by decide) rfl ?_
                          refine j_goto C (tgt := 23) dL_law_1540 (by decide) ?_
                          refine j_sub [0, 1, 2, 3, 4] rfl ?_
                          exact ih23 x187 _ _ _ (by omega) (by omega) h
                      · have h := ite_f h c185
                        refine j_iconst C (v := 0) dL_law_530 (by decide) ?_
                        exact absurd (Option.some.inj h) (by decide)
                    · have h := ite_f h c173
                      by_cases c191 : ((xs (tc y4)) &&& 31) = 7
                      · have h := ite_t h c191
                        refine j_tableIn C (tgt := 552) dL_law_39 (by rw [c191]; decide) (by rw [c191]; decide) (by rw [c191]; rfl) (by decide) ?_
                        refine j_aload_n C (q := 1) dL_law_552 rfl rfl ?_
                        refine j_aload_n C (q := 0) dL_law_553 rfl rfl ?_
                        refine j_iload C (q := 4) dL_law_554 rfl ?_
                        refine j_iconst C (v := 1) dL_law_556 (by decide) ?_
                        refine j_iadd C dL_law_557 ?_
                        obtain ⟨g192, h⟩ := gd_some h
                        refine j_sld C SB (inB_in g192) dL_law_558 ?_
                        refine j_aload_n C (q := 3) dL_law_559 rfl rfl ?_
                        obtain ⟨x193, t194, e195, h⟩ := bd_some h
                        refine j_callW C E N (As := [.ref (B + 0), .int (xs (tc (y4 + 1))), .ref (B + 235)]) (rest := []) (c_L_append l G B dy sa hls (xs (tc (y4 + 1))) _ e195) tw_676 tw_677 ti_L tw_678 hd_L_append ⟨Nat.le_of_ble_eq_true rfl, Nat.le_of_ble_eq_true rfl⟩ ⟨Nat.le_trans (show _ ≤ 610000 by omega) (Nat.le_of_ble_eq_true rfl), Nat.le_trans (show _ ≤ 7050000 by omega) (Nat.le_of_ble_eq_true rfl)⟩ rfl rfl (Nat.le_of_ble_eq_true rfl) dL_law_560 ?_
                        refine j_istore C [(0, .ref b), (1, .ref (B + 0)), (2, .ref (B + 225)), (3, .ref (B + 235)), (4, .int y4), (5, .int x193)] [1, 2, 3, 4, 5, 0] dL_law_563 (by decide) rfl ?_
                        refine j_aload_n C (q := 2) dL_law_565 rfl rfl ?_
                        refine j_aload_n C (q := 0) dL_law_566 rfl rfl ?_
                        refine j_iload C (q := 4) dL_law_567 rfl ?_
                        refine j_iconst C (v := 1) dL_law_569 (by decide) ?_
                        refine j_iadd C dL_law_570 ?_
                        obtain ⟨g196, h⟩ := gd_some h
                        refine j_sld C SB (inB_in g196) dL_law_571 ?_
                        obtain ⟨x197, t198, e199, h⟩ := bd_some h
                        refine j_callV_i C (i := 225) (As := [.int (xs (tc (y4 + 1)))]) (rest := []) (c_X7_append l G B dy (xs (tc (y4 + 1))) _ e199) (shp7 G B _ kA_225) (kd_lt kA_225 (by decide)) rfl tw_840 tw_841 tw_842 ti_7 tw_843 hd_X7_append ⟨Nat.le_of_ble_eq_true rfl, Nat.le_of_ble_eq_true rfl⟩ ⟨Nat.le_trans (show _ ≤ 610000 by omega) (Nat.le_of_ble_eq_true rfl), Nat.le_trans (show _ ≤ 7050000 by omega) (Nat.le_of_ble_eq_true rfl)⟩ rfl rfl (Nat.le_of_ble_eq_true rfl) dL_law_572 ?_
                        refine j_istore C [(0, .ref b), (1, .ref (B + 0)), (2, .ref (B + 225)), (3, .ref (B + 235)), (4, .int y4), (5, .int x193), (6, .int x197)] [1, 2, 3, 4, 5, 6, 0] dL_law_575 (by decide) rfl ?_
                        refine j_aload_n C (q := 2) dL_law_577 rfl rfl ?_
                        obtain ⟨x200, t201, e202, h⟩ := bd_some h
                        refine j_callV_i C (i := 225) (As := []) (rest := []) (c_X7_thrown l G B dy _ e202) (shp7 G B _ kA_225) (kd_lt kA_225 (by decide)) rfl tw_836 tw_837 tw_838 ti_7 tw_839 hd_X7_thrown ⟨Nat.le_of_ble_eq_true rfl, Nat.le_of_ble_eq_true rfl⟩ ⟨Nat.le_trans (show _ ≤ 610000 by omega) (Nat.le_of_ble_eq_true rfl), Nat.le_trans (show _ ≤ 7050000 by omega) (Nat.le_of_ble_eq_true rfl)⟩ rfl rfl (Nat.le_of_ble_eq_true rfl) dL_law_578 ?_
                        refine j_iload C (q := 5) dL_law_581 rfl ?_
                        refine j_icmp_eq C (tgt := 588) dL_law_583 (by decide) (fun c203 => ?_) (fun c203 => ?_)
                        · have h := ite_t h c203
                          refine j_iload C (q := 5) dL_law_588 rfl ?_
                          refine j_if_ne C (tgt := 605) dL_law_590 (by decide) (fun c204 => ?_) (fun c204 => ?_)
                          · have h := ite_t h c204
                            refine j_aload_n C (q := 3) dL_law_593 rfl rfl ?_
                            refine j_iconst C (v := 0) dL_law_594 (by decide) ?_
                            obtain ⟨g206, h⟩ := gd_some h
                            refine j_lald C (i := 235) k235 (inA g206 aA_235) dL_law_595 ?_
                            refine j_iload C (q := 6) dL_law_596 rfl ?_
                            refine j_i2l C dL_law_598 ?_
                            refine j_lcmp C dL_law_599 ?_
                            refine j_if_eq C (tgt := 605) dL_law_600 (by decide) (fun c207 => ?_) (fun c207 => ?_)
                            · have h := ite_t h c207
                              refine j_goto C (tgt := 1537) dL_law_605 (by decide) ?_
                              obtain ⟨x208, ex208⟩ : ∃ y : Int32, y = (y4 + 5) := ⟨_, rfl⟩
                              have h := lt_at h ex208
                              refine j_iinc C (q := 4) [(0, .ref b), (1, .ref (B + 0)), (2, .ref (B + 225)), (3, .ref (B + 235)), (4, .int x208), (5, .int x193), (6, .int x197)] [1, 2, 3, 4, 0, 5, 6] dL_law_1537 rfl (by rw [ex208]; rfl) (by decide) rfl ?_
                              refine j_goto C (tgt := 23) dL_law_1540 (by decide) ?_
                              refine j_sub [0, 1, 2, 3, 4] rfl ?_
                              exact ih23 x208 _ _ _ (by omega) (by omega) h
                            · have h := ite_f h c207
                              refine j_iconst C (v := 0) dL_law_603 (by decide) ?_
                              exact absurd (Option.some.inj h) (by decide)
                          · have h := ite_f h c204
                            refine j_goto C (tgt := 1537) dL_law_605 (by decide) ?_
                            obtain ⟨x205, ex205⟩ : ∃ y : Int32, y = (y4 + 5) := ⟨_, rfl⟩
                            have h := lt_at h ex205
                            refine j_iinc C (q := 4) [(0, .ref b), (1, .ref (B + 0)), (2, .ref (B + 225)), (3, .ref (B + 235)), (4, .int x205), (5, .int x193), (6, .int x197)] [1, 2, 3, 4, 0, 5, 6] dL_law_1537 rfl (by rw [ex205]; rfl) (by decide) rfl ?_
                            refine j_goto C (tgt := 23) dL_law_1540 (by decide) ?_
                            refine j_sub [0, 1, 2, 3, 4] rfl ?_
                            exact ih23 x205 _ _ _ (by omega) (by omega) h
                        · have h := ite_f h c203
                          refine j_iconst C (v := 0) dL_law_586 (by decide) ?_
                          exact absurd (Option.some.inj h) (by decide)
                      · have h := ite_f h c191
                        by_cases c209 : ((xs (tc y4)) &&& 31) = 8
                        · have h := ite_t h c209
                          refine j_tableIn C (tgt := 608) dL_law_39 (by rw [c209]; decide) (by rw [c209]; decide) (by rw [c209]; rfl) (by decide) ?_
                          refine j_aload_n C (q := 1) dL_law_608 rfl rfl ?_
                          obtain ⟨x210, t211, e212, h⟩ := bd_some h
                          refine j_callV_i C (i := 0) (As := []) (rest := []) (c_X6_clearBuffer l G B dy _ e212) (shp6 G B _ kA_0) (kd_lt kA_0 (by decide)) rfl tw_224 tw_225 tw_226 ti_6 tw_227 hd_X6_clearBuffer ⟨Nat.le_of_ble_eq_true rfl, Nat.le_of_ble_eq_true rfl⟩ ⟨Nat.le_trans (show _ ≤ 610000 by omega) (Nat.le_of_ble_eq_true rfl), Nat.le_trans (show _ ≤ 7050000 by omega) (Nat.le_of_ble_eq_true rfl)⟩ rfl rfl (Nat.le_of_ble_eq_true rfl) dL_law_609 ?_
                          refine j_aload_n C (q := 2) dL_law_612 rfl rfl ?_
                          obtain ⟨x213, t214, e215, h⟩ := bd_some h
                          refine j_callV_i C (i := 225) (As := []) (rest := [.int x210]) (c_X7_clearBuffer l G B dy _ e215) (shp7 G B _ kA_225) (kd_lt kA_225 (by decide)) rfl tw_851 tw_852 tw_853 ti_7 tw_854 hd_X7_clearBuffer ⟨Nat.le_of_ble_eq_true rfl, Nat.le_of_ble_eq_true rfl⟩ ⟨Nat.le_trans (show _ ≤ 610000 by omega) (Nat.le_of_ble_eq_true rfl), Nat.le_trans (show _ ≤ 7050000 by omega) (Nat.le_of_ble_eq_true rfl)⟩ rfl rfl (Nat.le_of_ble_eq_true rfl) dL_law_613 ?_
                          refine j_icmp_eq C (tgt := 1537) dL_law_616 (by decide) (fun c216 => ?_) (fun c216 => ?_)
                          · have h := ite_t h c216
                            obtain ⟨x217, ex217⟩ : ∃ y : Int32, y = (y4 + 5) := ⟨_, rfl⟩
                            have h := lt_at h ex217
                            refine j_iinc C (q := 4) [(0, .ref b), (1, .ref (B + 0)), (2, .ref (B + 225)), (3, .ref (B + 235)), (4, .int x217)] [1, 2, 3, 4, 0] dL_law_1537 rfl (by rw [ex217]; rfl) (by decide) rfl ?_
                            refine j_goto C (tgt := 23) dL_law_1540 (by decide) ?_
                            exact ih23 x217 _ _ _ (by omega) (by omega) h
                          · have h := ite_f h c216
                            refine j_iconst C (v := 0) dL_law_619 (by decide) ?_
                            exact absurd (Option.some.inj h) (by decide)
                        · have h := ite_f h c209
                          by_cases c218 : ((xs (tc y4)) &&& 31) = 9
                          · have h := ite_t h c218
                            refine j_tableIn C (tgt := 621) dL_law_39 (by rw [c218]; decide) (by rw [c218]; decide) (by rw [c218]; rfl) (by decide) ?_
                            refine j_aload_n C (q := 1) dL_law_621 rfl rfl ?_
                            obtain ⟨x219, t220, e221, h⟩ := bd_some h
                            refine j_callV_i C (i := 0) (As := []) (rest := []) (c_X6_firstError l G B dy _ e221) (shp6 G B _ kA_0) (kd_lt kA_0 (by decide)) rfl tw_228 tw_229 tw_230 ti_6 tw_231 hd_X6_firstError ⟨Nat.le_of_ble_eq_true rfl, Nat.le_of_ble_eq_true rfl⟩ ⟨Nat.le_trans (show _ ≤ 610000 by omega) (Nat.le_of_ble_eq_true rfl), Nat.le_trans (show _ ≤ 7050000 by omega) (Nat.le_of_ble_eq_true rfl)⟩ rfl rfl (Nat.le_of_ble_eq_true rfl) dL_law_622 ?_
                            refine j_aload_n C (q := 2) dL_law_625 rfl rfl ?_
                            obtain ⟨x222, t223, e224, h⟩ := bd_some h
                            refine j_callV_i C (i := 225) (As := []) (rest := [.int x219]) (c_X7_firstError l G B dy _ e224) (shp7 G B _ kA_225) (kd_lt kA_225 (by decide)) rfl tw_855 tw_856 tw_857 ti_7 tw_858 hd_X7_firstError ⟨Nat.le_of_ble_eq_true rfl, Nat.le_of_ble_eq_true rfl⟩ ⟨Nat.le_trans (show _ ≤ 610000 by omega) (Nat.le_of_ble_eq_true rfl), Nat.le_trans (show _ ≤ 7050000 by omega) (Nat.le_of_ble_eq_true rfl)⟩ rfl rfl (Nat.le_of_ble_eq_true rfl) dL_law_626 ?_
                            refine j_icmp_eq C (tgt := 1537) dL_law_629 (by decide) (fun c225 => ?_) (fun c225 => ?_)
                            · have h := ite_t h c225
                              obtain ⟨x226, ex226⟩ : ∃ y : Int32, y = (y4 + 5) := ⟨_, rfl⟩
                              have h := lt_at h ex226
                              refine j_iinc C (q := 4) [(0, .ref b), (1, .ref (B + 0)), (2, .ref (B + 225)), (3, .ref (B + 235)), (4, .int x226)] [1, 2, 3, 4, 0] dL_law_1537 rfl (by rw [ex226]; rfl) (by decide) rfl ?_
                              refine j_goto C (tgt := 23) dL_law_1540 (by decide) ?_
                              exact ih23 x226 _ _ _ (by omega) (by omega) h
                            · have h := ite_f h c225
                              refine j_iconst C (v := 0) dL_law_632 (by decide) ?_
                              exact absurd (Option.some.inj h) (by decide)
                          · have h := ite_f h c218
                            by_cases c227 : ((xs (tc y4)) &&& 31) = 10
                            · have h := ite_t h c227
                              refine j_tableIn C (tgt := 634) dL_law_39 (by rw [c227]; decide) (by rw [c227]; decide) (by rw [c227]; rfl) (by decide) ?_
                              refine j_aload_n C (q := 1) dL_law_634 rfl rfl ?_
                              refine j_aload_n C (q := 3) dL_law_635 rfl rfl ?_
                              obtain ⟨x228, t229, e230, h⟩ := bd_some h
                              refine j_callW C E N (As := [.ref (B + 0), .ref (B + 235)]) (rest := []) (c_L_undo l G B dy sa hls _ e230) tw_684 tw_685 ti_L tw_686 hd_L_undo ⟨Nat.le_of_ble_eq_true rfl, Nat.le_of_ble_eq_true rfl⟩ ⟨Nat.le_trans (show _ ≤ 610000 by omega) (Nat.le_of_ble_eq_true rfl), Nat.le_trans (show _ ≤ 7050000 by omega) (Nat.le_of_ble_eq_true rfl)⟩ rfl rfl (Nat.le_of_ble_eq_true rfl) dL_law_636 ?_
                              refine j_istore C [(0, .ref b), (1, .ref (B + 0)), (2, .ref (B + 225)), (3, .ref (B + 235)), (4, .int y4), (5, .int x228)] [1, 2, 3, 4, 5, 0] dL_law_639 (by decide) rfl ?_
                              refine j_aload_n C (q := 2) dL_law_641 rfl rfl ?_
                              obtain ⟨x231, t232, e233, h⟩ := bd_some h
                              refine j_callV_i C (i := 225) (As := []) (rest := []) (c_X7_undo l G B dy _ e233) (shp7 G B _ kA_225) (kd_lt kA_225 (by decide)) rfl tw_964 tw_965 tw_966 ti_7 tw_967 hd_X7_undo ⟨Nat.le_of_ble_eq_true rfl, Nat.le_of_ble_eq_true rfl⟩ ⟨Nat.le_trans (show _ ≤ 610000 by omega) (Nat.le_of_ble_eq_true rfl), Nat.le_trans (show _ ≤ 7050000 by omega) (Nat.le_of_ble_eq_true rfl)⟩ rfl rfl (Nat.le_of_ble_eq_true rfl) dL_law_642 ?_
                              refine j_istore C [(0, .ref b), (1, .ref (B + 0)), (2, .ref (B + 225)), (3, .ref (B + 235)), (4, .int y4), (5, .int x228), (6, .int x231)] [1, 2, 3, 4, 5, 6, 0] dL_law_645 (by decide) rfl ?_
                              refine j_aload_n C (q := 2) dL_law_647 rfl rfl ?_
                              obtain ⟨x234, t235, e236, h⟩ := bd_some h
                              refine j_callV_i C (i := 225) (As := []) (rest := []) (c_X7_thrown l G B dy _ e236) (shp7 G B _ kA_225) (kd_lt kA_225 (by decide)) rfl tw_836 tw_837 tw_838 ti_7 tw_839 hd_X7_thrown ⟨Nat.le_of_ble_eq_true rfl, Nat.le_of_ble_eq_true rfl⟩ ⟨Nat.le_trans (show _ ≤ 610000 by omega) (Nat.le_of_ble_eq_true rfl), Nat.le_trans (show _ ≤ 7050000 by omega) (Nat.le_of_ble_eq_true rfl)⟩ rfl rfl (Nat.le_of_ble_eq_true rfl) dL_law_648 ?_
                              refine j_iload C (q := 5) dL_law_651 rfl ?_
                              refine j_icmp_eq C (tgt := 658) dL_law_653 (by decide) (fun c237 => ?_) (fun c237 => ?_)
                              · have h := ite_t h c237
                                refine j_iload C (q := 5) dL_law_658 rfl ?_
                                refine j_if_ne C (tgt := 675) dL_law_660 (by decide) (fun c238 => ?_) (fun c238 => ?_)
                                · have h := ite_t h c238
                                  refine j_aload_n C (q := 3) dL_law_663 rfl rfl ?_
                                  refine j_iconst C (v := 0) dL_law_664 (by decide) ?_
                                  obtain ⟨g240, h⟩ := gd_some h
                                  refine j_lald C (i := 235) k235 (inA g240 aA_235) dL_law_665 ?_
                                  refine j_iload C (q := 6) dL_law_666 rfl ?_
                                  refine j_i2l C dL_law_668 ?_
                                  refine j_lcmp C dL_law_669 ?_
                                  refine j_if_eq C (tgt := 675) dL_law_670 (by decide) (fun c241 => ?_) (fun c241 => ?_)
                                  · have h := ite_t h c241
                                    refine j_goto C (tgt := 1537) dL_law_675 (by decide) ?_
                                    obtain ⟨x242, ex242⟩ : ∃ y : Int32, y = (y4 + 5) := ⟨_, rfl⟩
                                    have h := lt_at h ex242
                                    refine j_iinc C (q := 4) [(0, .ref b), (1, .ref (B + 0)), (2, .ref (B + 225)), (3, .ref (B + 235)), (4, .int x242), (5, .int x228), (6, .int x231)] [1, 2, 3, 4, 0, 5, 6] dL_law_1537 rfl (by rw [ex242]; rfl) (by decide) rfl ?_
                                    refine j_goto C (tgt := 23) dL_law_1540 (by decide) ?_
                                    refine j_sub [0, 1, 2, 3, 4] rfl ?_
                                    exact ih23 x242 _ _ _ (by omega) (by omega) h
                                  · have h := ite_f h c241
                                    refine j_iconst C (v := 0) dL_law_673 (by decide) ?_
                                    exact absurd (Option.some.inj h) (by decide)
                                · have h := ite_f h c238
                                  refine j_goto C (tgt := 1537) dL_law_675 (by decide) ?_
                                  obtain ⟨x239, ex239⟩ : ∃ y : Int32, y = (y4 + 5) := ⟨_, rfl⟩
                                  have h := lt_at h ex239
                                  refine j_iinc C (q := 4) [(0, .ref b), (1, .ref (B + 0)), (2, .ref (B + 225)), (3, .ref (B + 235)), (4, .int x239), (5, .int x228), (6, .int x231)] [1, 2, 3, 4, 0, 5, 6] dL_law_1537 rfl (by rw [ex239]; rfl) (by decide) rfl ?_
                                  refine j_goto C (tgt := 23) dL_law_1540 (by decide) ?_
                                  refine j_sub [0, 1, 2, 3, 4] rfl ?_
                                  exact ih23 x239 _ _ _ (by omega) (by omega) h
                              · have h := ite_f h c237
                                refine j_iconst C (v := 0) dL_law_656 (by decide) ?_
                                exact absurd (Option.some.inj h) (by decide)
                            · have h := ite_f h c227
                              by_cases c243 : ((xs (tc y4)) &&& 31) = 11
                              · have h := ite_t h c243
                                refine j_tableIn C (tgt := 678) dL_law_39 (by rw [c243]; decide) (by rw [c243]; decide) (by rw [c243]; rfl) (by decide) ?_
                                refine j_aload_n C (q := 1) dL_law_678 rfl rfl ?_
                                refine j_aload_n C (q := 0) dL_law_679 rfl rfl ?_
                                refine j_iload C (q := 4) dL_law_680 rfl ?_
                                refine j_iconst C (v := 1) dL_law_682 (by decide) ?_
                                refine j_iadd C dL_law_683 ?_
                                obtain ⟨g244, h⟩ := gd_some h
                                refine j_sld C SB (inB_in g244) dL_law_684 ?_
                                refine j_aload_n C (q := 0) dL_law_685 rfl rfl ?_
                                refine j_iload C (q := 4) dL_law_686 rfl ?_
                                refine j_iconst C (v := 2) dL_law_688 (by decide) ?_
                                refine j_iadd C dL_law_689 ?_
                                obtain ⟨g245, h⟩ := gd_some h
                                refine j_sld C SB (inB_in g245) dL_law_690 ?_
                                refine j_aload_n C (q := 0) dL_law_691 rfl rfl ?_
                                refine j_iload C (q := 4) dL_law_692 rfl ?_
                                refine j_iconst C (v := 3) dL_law_694 (by decide) ?_
                                refine j_iadd C dL_law_695 ?_
                                obtain ⟨g246, h⟩ := gd_some h
                                refine j_sld C SB (inB_in g246) dL_law_696 ?_
                                refine j_aload_n C (q := 3) dL_law_697 rfl rfl ?_
                                obtain ⟨x247, t248, e249, h⟩ := bd_some h
                                refine j_callW C E N (As := [.ref (B + 0), .int (xs (tc (y4 + 1))), .int (xs (tc (y4 + 2))), .int (xs (tc (y4 + 3))), .ref (B + 235)]) (rest := []) (c_L_day l G B dy sa hls (xs (tc (y4 + 1))) (xs (tc (y4 + 2))) (xs (tc (y4 + 3))) _ e249) tw_700 tw_701 ti_L tw_702 hd_L_day ⟨Nat.le_of_ble_eq_true rfl, Nat.le_of_ble_eq_true rfl⟩ ⟨Nat.le_trans (show _ ≤ 610000 by omega) (Nat.le_of_ble_eq_true rfl), Nat.le_trans (show _ ≤ 7050000 by omega) (Nat.le_of_ble_eq_true rfl)⟩ rfl rfl (Nat.le_of_ble_eq_true rfl) dL_law_698 ?_
                                refine j_istore C [(0, .ref b), (1, .ref (B + 0)), (2, .ref (B + 225)), (3, .ref (B + 235)), (4, .int y4), (5, .int x247)] [1, 2, 3, 4, 5, 0] dL_law_701 (by decide) rfl ?_
                                refine j_aload_n C (q := 2) dL_law_703 rfl rfl ?_
                                refine j_aload_n C (q := 0) dL_law_704 rfl rfl ?_
                                refine j_iload C (q := 4) dL_law_705 rfl ?_
                                refine j_iconst C (v := 1) dL_law_707 (by decide) ?_
                                refine j_iadd C dL_law_708 ?_
                                obtain ⟨g250, h⟩ := gd_some h
                                refine j_sld C SB (inB_in g250) dL_law_709 ?_
                                refine j_aload_n C (q := 0) dL_law_710 rfl rfl ?_
                                refine j_iload C (q := 4) dL_law_711 rfl ?_
                                refine j_iconst C (v := 2) dL_law_713 (by decide) ?_
                                refine j_iadd C dL_law_714 ?_
                                obtain ⟨g251, h⟩ := gd_some h
                                refine j_sld C SB (inB_in g251) dL_law_715 ?_
                                refine j_aload_n C (q := 0) dL_law_716 rfl rfl ?_
                                refine j_iload C (q := 4) dL_law_717 rfl ?_
                                refine j_iconst C (v := 3) dL_law_719 (by decide) ?_
                                refine j_iadd C dL_law_720 ?_
                                obtain ⟨g252, h⟩ := gd_some h
                                refine j_sld C SB (inB_in g252) dL_law_721 ?_
                                obtain ⟨x253, t254, e255, h⟩ := bd_some h
                                refine j_callV_i C (i := 225) (As := [.int (xs (tc (y4 + 1))), .int (xs (tc (y4 + 2))), .int (xs (tc (y4 + 3)))]) (rest := []) (c_X7_day l G B dy (xs (tc (y4 + 1))) (xs (tc (y4 + 2))) (xs (tc (y4 + 3))) _ e255) (shp7 G B _ kA_225) (kd_lt kA_225 (by decide)) rfl tw_968 tw_969 tw_970 ti_7 tw_971 hd_X7_day ⟨Nat.le_of_ble_eq_true rfl, Nat.le_of_ble_eq_true rfl⟩ ⟨Nat.le_trans (show _ ≤ 610000 by omega) (Nat.le_of_ble_eq_true rfl), Nat.le_trans (show _ ≤ 7050000 by omega) (Nat.le_of_ble_eq_true rfl)⟩ rfl rfl (Nat.le_of_ble_eq_true rfl) dL_law_722 ?_
                                refine j_istore C [(0, .ref b), (1, .ref (B + 0)), (2, .ref (B + 225)), (3, .ref (B + 235)), (4, .int y4), (5, .int x247), (6, .int x253)] [1, 2, 3, 4, 5, 6, 0] dL_law_725 (by decide) rfl ?_
                                refine j_aload_n C (q := 2) dL_law_727 rfl rfl ?_
                                obtain ⟨x256, t257, e258, h⟩ := bd_some h
                                refine j_callV_i C (i := 225) (As := []) (rest := []) (c_X7_thrown l G B dy _ e258) (shp7 G B _ kA_225) (kd_lt kA_225 (by decide)) rfl tw_836 tw_837 tw_838 ti_7 tw_839 hd_X7_thrown ⟨Nat.le_of_ble_eq_true rfl, Nat.le_of_ble_eq_true rfl⟩ ⟨Nat.le_trans (show _ ≤ 610000 by omega) (Nat.le_of_ble_eq_true rfl), Nat.le_trans (show _ ≤ 7050000 by omega) (Nat.le_of_ble_eq_true rfl)⟩ rfl rfl (Nat.le_of_ble_eq_true rfl) dL_law_728 ?_
                                refine j_iload C (q := 5) dL_law_731 rfl ?_
                                refine j_icmp_eq C (tgt := 738) dL_law_733 (by decide) (fun c259 => ?_) (fun c259 => ?_)
                                · have h := ite_t h c259
                                  refine j_iload C (q := 5) dL_law_738 rfl ?_
                                  refine j_if_ne C (tgt := 755) dL_law_740 (by decide) (fun c260 => ?_) (fun c260 => ?_)
                                  · have h := ite_t h c260
                                    refine j_aload_n C (q := 3) dL_law_743 rfl rfl ?_
                                    refine j_iconst C (v := 0) dL_law_744 (by decide) ?_
                                    obtain ⟨g262, h⟩ := gd_some h
                                    refine j_lald C (i := 235) k235 (inA g262 aA_235) dL_law_745 ?_
                                    refine j_iload C (q := 6) dL_law_746 rfl ?_
                                    refine j_i2l C dL_law_748 ?_
                                    refine j_lcmp C dL_law_749 ?_
                                    refine j_if_eq C (tgt := 755) dL_law_750 (by decide) (fun c263 => ?_) (fun c263 => ?_)
                                    · have h := ite_t h c263
                                      refine j_goto C (tgt := 1537) dL_law_755 (by decide) ?_
                                      obtain ⟨x264, ex264⟩ : ∃ y : Int32, y = (y4 + 5) := ⟨_, rfl⟩
                                      have h := lt_at h ex264
                                      refine j_iinc C (q := 4) [(0, .ref b), (1, .ref (B + 0)), (2, .ref (B + 225)), (3, .ref (B + 235)), (4, .int x264), (5, .int x247), (6, .int x253)] [1, 2, 3, 4, 0, 5, 6] dL_law_1537 rfl (by rw [ex264]; rfl) (by decide) rfl ?_
                                      refine j_goto C (tgt := 23) dL_law_1540 (by decide) ?_
                                      refine j_sub [0, 1, 2, 3, 4] rfl ?_
                                      exact ih23 x264 _ _ _ (by omega) (by omega) h
                                    · have h := ite_f h c263
                                      refine j_iconst C (v := 0) dL_law_753 (by decide) ?_
                                      exact absurd (Option.some.inj h) (by decide)
                                  · have h := ite_f h c260
                                    refine j_goto C (tgt := 1537) dL_law_755 (by decide) ?_
                                    obtain ⟨x261, ex261⟩ : ∃ y : Int32, y = (y4 + 5) := ⟨_, rfl⟩
                                    have h := lt_at h ex261
                                    refine j_iinc C (q := 4) [(0, .ref b), (1, .ref (B + 0)), (2, .ref (B + 225)), (3, .ref (B + 235)), (4, .int x261), (5, .int x247), (6, .int x253)] [1, 2, 3, 4, 0, 5, 6] dL_law_1537 rfl (by rw [ex261]; rfl) (by decide) rfl ?_
                                    refine j_goto C (tgt := 23) dL_law_1540 (by decide) ?_
                                    refine j_sub [0, 1, 2, 3, 4] rfl ?_
                                    exact ih23 x261 _ _ _ (by omega) (by omega) h
                                · have h := ite_f h c259
                                  refine j_iconst C (v := 0) dL_law_736 (by decide) ?_
                                  exact absurd (Option.some.inj h) (by decide)
                              · have h := ite_f h c243
                                by_cases c265 : ((xs (tc y4)) &&& 31) = 12
                                · have h := ite_t h c265
                                  refine j_tableIn C (tgt := 758) dL_law_39 (by rw [c265]; decide) (by rw [c265]; decide) (by rw [c265]; rfl) (by decide) ?_
                                  refine j_aload_n C (q := 1) dL_law_758 rfl rfl ?_
                                  refine j_aload_n C (q := 0) dL_law_759 rfl rfl ?_
                                  refine j_iload C (q := 4) dL_law_760 rfl ?_
                                  refine j_iconst C (v := 1) dL_law_762 (by decide) ?_
                                  refine j_iadd C dL_law_763 ?_
                                  obtain ⟨g266, h⟩ := gd_some h
                                  refine j_sld C SB (inB_in g266) dL_law_764 ?_
                                  refine j_aload_n C (q := 0) dL_law_765 rfl rfl ?_
                                  refine j_iload C (q := 4) dL_law_766 rfl ?_
                                  refine j_iconst C (v := 2) dL_law_768 (by decide) ?_
                                  refine j_iadd C dL_law_769 ?_
                                  obtain ⟨g267, h⟩ := gd_some h
                                  refine j_sld C SB (inB_in g267) dL_law_770 ?_
                                  refine j_aload_n C (q := 3) dL_law_771 rfl rfl ?_
                                  obtain ⟨x268, t269, e270, h⟩ := bd_some h
                                  refine j_callW C E N (As := [.ref (B + 0), .int (xs (tc (y4 + 1))), .int (xs (tc (y4 + 2))), .ref (B + 235)]) (rest := []) (c_L_feast l G B dy sa hls (xs (tc (y4 + 1))) (xs (tc (y4 + 2))) _ e270) tw_713 tw_714 ti_L tw_715 hd_L_feast ⟨Nat.le_of_ble_eq_true rfl, Nat.le_of_ble_eq_true rfl⟩ ⟨Nat.le_trans (show _ ≤ 610000 by omega) (Nat.le_of_ble_eq_true rfl), Nat.le_trans (show _ ≤ 7050000 by omega) (Nat.le_of_ble_eq_true rfl)⟩ rfl rfl (Nat.le_of_ble_eq_true rfl) dL_law_772 ?_
                                  refine j_istore C [(0, .ref b), (1, .ref (B + 0)), (2, .ref (B + 225)), (3, .ref (B + 235)), (4, .int y4), (5, .int x268)] [1, 2, 3, 4, 5, 0] dL_law_775 (by decide) rfl ?_
                                  refine j_aload_n C (q := 2) dL_law_777 rfl rfl ?_
                                  refine j_aload_n C (q := 0) dL_law_778 rfl rfl ?_
                                  refine j_iload C (q := 4) dL_law_779 rfl ?_
                                  refine j_iconst C (v := 1) dL_law_781 (by decide) ?_
                                  refine j_iadd C dL_law_782 ?_
                                  obtain ⟨g271, h⟩ := gd_some h
                                  refine j_sld C SB (inB_in g271) dL_law_783 ?_
                                  refine j_aload_n C (q := 0) dL_law_784 rfl rfl ?_
                                  refine j_iload C (q := 4) dL_law_785 rfl ?_
                                  refine j_iconst C (v := 2) dL_law_787 (by decide) ?_
                                  refine j_iadd C dL_law_788 ?_
                                  obtain ⟨g272, h⟩ := gd_some h
                                  refine j_sld C SB (inB_in g272) dL_law_789 ?_
                                  obtain ⟨x273, t274, e275, h⟩ := bd_some h
                                  refine j_callV_i C (i := 225) (As := [.int (xs (tc (y4 + 1))), .int (xs (tc (y4 + 2)))]) (rest := []) (c_X7_feast l G B dy (xs (tc (y4 + 1))) (xs (tc (y4 + 2))) _ e275) (shp7 G B _ kA_225) (kd_lt kA_225 (by decide)) rfl tw_988 tw_989 tw_990 ti_7 tw_991 hd_X7_feast ⟨Nat.le_of_ble_eq_true rfl, Nat.le_of_ble_eq_true rfl⟩ ⟨Nat.le_trans (show _ ≤ 610000 by omega) (Nat.le_of_ble_eq_true rfl), Nat.le_trans (show _ ≤ 7050000 by omega) (Nat.le_of_ble_eq_true rfl)⟩ rfl rfl (Nat.le_of_ble_eq_true rfl) dL_law_790 ?_
                                  refine j_istore C [(0, .ref b), (1, .ref (B + 0)), (2, .ref (B + 225)), (3, .ref (B + 235)), (4, .int y4), (5, .int x268), (6, .int x273)] [1, 2, 3, 4, 5, 6, 0] dL_law_793 (by decide) rfl ?_
                                  refine j_aload_n C (q := 2) dL_law_795 rfl rfl ?_
                                  obtain ⟨x276, t277, e278, h⟩ := bd_some h
                                  refine j_callV_i C (i := 225) (As := []) (rest := []) (c_X7_thrown l G B dy _ e278) (shp7 G B _ kA_225) (kd_lt kA_225 (by decide)) rfl tw_836 tw_837 tw_838 ti_7 tw_839 hd_X7_thrown ⟨Nat.le_of_ble_eq_true rfl, Nat.le_of_ble_eq_true rfl⟩ ⟨Nat.le_trans (show _ ≤ 610000 by omega) (Nat.le_of_ble_eq_true rfl), Nat.le_trans (show _ ≤ 7050000 by omega) (Nat.le_of_ble_eq_true rfl)⟩ rfl rfl (Nat.le_of_ble_eq_true rfl) dL_law_796 ?_
                                  refine j_iload C (q := 5) dL_law_799 rfl ?_
                                  refine j_icmp_eq C (tgt := 806) dL_law_801 (by decide) (fun c279 => ?_) (fun c279 => ?_)
                                  · have h := ite_t h c279
                                    refine j_iload C (q := 5) dL_law_806 rfl ?_
                                    refine j_if_ne C (tgt := 823) dL_law_808 (by decide) (fun c280 => ?_) (fun c280 => ?_)
                                    · have h := ite_t h c280
                                      refine j_aload_n C (q := 3) dL_law_811 rfl rfl ?_
                                      refine j_iconst C (v := 0) dL_law_812 (by decide) ?_
                                      obtain ⟨g282, h⟩ := gd_some h
                                      refine j_lald C (i := 235) k235 (inA g282 aA_235) dL_law_813 ?_
                                      refine j_iload C (q := 6) dL_law_814 rfl ?_
                                      refine j_i2l C dL_law_816 ?_
                                      refine j_lcmp C dL_law_817 ?_
                                      refine j_if_eq C (tgt := 823) dL_law_818 (by decide) (fun c283 => ?_) (fun c283 => ?_)
                                      · have h := ite_t h c283
                                        refine j_goto C (tgt := 1537) dL_law_823 (by decide) ?_
                                        obtain ⟨x284, ex284⟩ : ∃ y : Int32, y = (y4 + 5) := ⟨_, rfl⟩
                                        have h := lt_at h ex284
                                        refine j_iinc C (q := 4) [(0, .ref b), (1, .ref (B + 0)), (2, .ref (B + 225)), (3, .ref (B + 235)), (4, .int x284), (5, .int x268), (6, .int x273)] [1, 2, 3, 4, 0, 5, 6] dL_law_1537 rfl (by rw [ex284]; rfl) (by decide) rfl ?_
                                        refine j_goto C (tgt := 23) dL_law_1540 (by decide) ?_
                                        refine j_sub [0, 1, 2, 3, 4] rfl ?_
                                        exact ih23 x284 _ _ _ (by omega) (by omega) h
                                      · have h := ite_f h c283
                                        refine j_iconst C (v := 0) dL_law_821 (by decide) ?_
                                        exact absurd (Option.some.inj h) (by decide)
                                    · have h := ite_f h c280
                                      refine j_goto C (tgt := 1537) dL_law_823 (by decide) ?_
                                      obtain ⟨x281, ex281⟩ : ∃ y : Int32, y = (y4 + 5) := ⟨_, rfl⟩
                                      have h := lt_at h ex281
                                      refine j_iinc C (q := 4) [(0, .ref b), (1, .ref (B + 0)), (2, .ref (B + 225)), (3, .ref (B + 235)), (4, .int x281), (5, .int x268), (6, .int x273)] [1, 2, 3, 4, 0, 5, 6] dL_law_1537 rfl (by rw [ex281]; rfl) (by decide) rfl ?_
                                      refine j_goto C (tgt := 23) dL_law_1540 (by decide) ?_
                                      refine j_sub [0, 1, 2, 3, 4] rfl ?_
                                      exact ih23 x281 _ _ _ (by omega) (by omega) h
                                  · have h := ite_f h c279
                                    refine j_iconst C (v := 0) dL_law_804 (by decide) ?_
                                    exact absurd (Option.some.inj h) (by decide)
                                · have h := ite_f h c265
                                  by_cases c285 : ((xs (tc y4)) &&& 31) = 13
                                  · have h := ite_t h c285
                                    refine j_tableIn C (tgt := 826) dL_law_39 (by rw [c285]; decide) (by rw [c285]; decide) (by rw [c285]; rfl) (by decide) ?_
                                    refine j_aload_n C (q := 1) dL_law_826 rfl rfl ?_
                                    refine j_aload_n C (q := 0) dL_law_827 rfl rfl ?_
                                    refine j_iload C (q := 4) dL_law_828 rfl ?_
                                    refine j_iconst C (v := 1) dL_law_830 (by decide) ?_
                                    refine j_iadd C dL_law_831 ?_
                                    obtain ⟨g286, h⟩ := gd_some h
                                    refine j_sld C SB (inB_in g286) dL_law_832 ?_
                                    refine j_aload_n C (q := 0) dL_law_833 rfl rfl ?_
                                    refine j_iload C (q := 4) dL_law_834 rfl ?_
                                    refine j_iconst C (v := 2) dL_law_836 (by decide) ?_
                                    refine j_iadd C dL_law_837 ?_
                                    obtain ⟨g287, h⟩ := gd_some h
                                    refine j_sld C SB (inB_in g287) dL_law_838 ?_
                                    refine j_aload_n C (q := 0) dL_law_839 rfl rfl ?_
                                    refine j_iload C (q := 4) dL_law_840 rfl ?_
                                    refine j_iconst C (v := 3) dL_law_842 (by decide) ?_
                                    refine j_iadd C dL_law_843 ?_
                                    obtain ⟨g288, h⟩ := gd_some h
                                    refine j_sld C SB (inB_in g288) dL_law_844 ?_
                                    refine j_aload_n C (q := 0) dL_law_845 rfl rfl ?_
                                    refine j_iload C (q := 4) dL_law_846 rfl ?_
                                    refine j_iconst C (v := 4) dL_law_848 (by decide) ?_
                                    refine j_iadd C dL_law_849 ?_
                                    obtain ⟨g289, h⟩ := gd_some h
                                    refine j_sld C SB (inB_in g289) dL_law_850 ?_
                                    refine j_if_eq C (tgt := 858) dL_law_851 (by decide) (fun c290 => ?_) (fun c290 => ?_)
                                    · have h := ite_t h c290
                                      refine j_iconst C (v := 0) dL_law_858 (by decide) ?_
                                      exact J859 y4 0 (xs (tc (y4 + 3))) (xs (tc (y4 + 2))) (xs (tc (y4 + 1))) _ _ _ (by omega) (by omega) h
                                    · have h := ite_f h c290
                                      refine j_iconst C (v := 1) dL_law_854 (by decide) ?_
                                      refine j_goto C (tgt := 859) dL_law_855 (by decide) ?_
                                      exact J859 y4 1 (xs (tc (y4 + 3))) (xs (tc (y4 + 2))) (xs (tc (y4 + 1))) _ _ _ (by omega) (by omega) h
                                  · have h := ite_f h c285
                                    by_cases c291 : ((xs (tc y4)) &&& 31) = 14
                                    · have h := ite_t h c291
                                      refine j_tableIn C (tgt := 934) dL_law_39 (by rw [c291]; decide) (by rw [c291]; decide) (by rw [c291]; rfl) (by decide) ?_
                                      refine j_aload_n C (q := 1) dL_law_934 rfl rfl ?_
                                      refine j_aload_n C (q := 0) dL_law_935 rfl rfl ?_
                                      refine j_iload C (q := 4) dL_law_936 rfl ?_
                                      refine j_iconst C (v := 1) dL_law_938 (by decide) ?_
                                      refine j_iadd C dL_law_939 ?_
                                      obtain ⟨g292, h⟩ := gd_some h
                                      refine j_sld C SB (inB_in g292) dL_law_940 ?_
                                      refine j_aload_n C (q := 0) dL_law_941 rfl rfl ?_
                                      refine j_iload C (q := 4) dL_law_942 rfl ?_
                                      refine j_iconst C (v := 2) dL_law_944 (by decide) ?_
                                      refine j_iadd C dL_law_945 ?_
                                      obtain ⟨g293, h⟩ := gd_some h
                                      refine j_sld C SB (inB_in g293) dL_law_946 ?_
                                      refine j_aload_n C (q := 3) dL_law_947 rfl rfl ?_
                                      obtain ⟨x294, t295, e296, h⟩ := bd_some h
                                      refine j_callW C E N (As := [.ref (B + 0), .int (xs (tc (y4 + 1))), .int (xs (tc (y4 + 2))), .ref (B + 235)]) (rest := []) (c_L_settled l G B dy sa hls (xs (tc (y4 + 1))) (xs (tc (y4 + 2))) _ e296) tw_727 tw_728 ti_L tw_729 hd_L_settled ⟨Nat.le_of_ble_eq_true rfl, Nat.le_of_ble_eq_true rfl⟩ ⟨Nat.le_trans (show _ ≤ 610000 by omega) (Nat.le_of_ble_eq_true rfl), Nat.le_trans (show _ ≤ 7050000 by omega) (Nat.le_of_ble_eq_true rfl)⟩ rfl rfl (Nat.le_of_ble_eq_true rfl) dL_law_948 ?_
                                      refine j_istore C [(0, .ref b), (1, .ref (B + 0)), (2, .ref (B + 225)), (3, .ref (B + 235)), (4, .int y4), (5, .int x294)] [1, 2, 3, 4, 5, 0] dL_law_951 (by decide) rfl ?_
                                      refine j_aload_n C (q := 2) dL_law_953 rfl rfl ?_
                                      refine j_aload_n C (q := 0) dL_law_954 rfl rfl ?_
                                      refine j_iload C (q := 4) dL_law_955 rfl ?_
                                      refine j_iconst C (v := 1) dL_law_957 (by decide) ?_
                                      refine j_iadd C dL_law_958 ?_
                                      obtain ⟨g297, h⟩ := gd_some h
                                      refine j_sld C SB (inB_in g297) dL_law_959 ?_
                                      refine j_aload_n C (q := 0) dL_law_960 rfl rfl ?_
                                      refine j_iload C (q := 4) dL_law_961 rfl ?_
                                      refine j_iconst C (v := 2) dL_law_963 (by decide) ?_
                                      refine j_iadd C dL_law_964 ?_
                                      obtain ⟨g298, h⟩ := gd_some h
                                      refine j_sld C SB (inB_in g298) dL_law_965 ?_
                                      obtain ⟨x299, t300, e301, h⟩ := bd_some h
                                      refine j_callV_i C (i := 225) (As := [.int (xs (tc (y4 + 1))), .int (xs (tc (y4 + 2)))]) (rest := []) (c_X7_settled l G B dy (xs (tc (y4 + 1))) (xs (tc (y4 + 2))) _ e301) (shp7 G B _ kA_225) (kd_lt kA_225 (by decide)) rfl tw_1004 tw_1005 tw_1006 ti_7 tw_1007 hd_X7_settled ⟨Nat.le_of_ble_eq_true rfl, Nat.le_of_ble_eq_true rfl⟩ ⟨Nat.le_trans (show _ ≤ 610000 by omega) (Nat.le_of_ble_eq_true rfl), Nat.le_trans (show _ ≤ 7050000 by omega) (Nat.le_of_ble_eq_true rfl)⟩ rfl rfl (Nat.le_of_ble_eq_true rfl) dL_law_966 ?_
                                      refine j_istore C [(0, .ref b), (1, .ref (B + 0)), (2, .ref (B + 225)), (3, .ref (B + 235)), (4, .int y4), (5, .int x294), (6, .int x299)] [1, 2, 3, 4, 5, 6, 0] dL_law_969 (by decide) rfl ?_
                                      refine j_aload_n C (q := 2) dL_law_971 rfl rfl ?_
                                      obtain ⟨x302, t303, e304, h⟩ := bd_some h
                                      refine j_callV_i C (i := 225) (As := []) (rest := []) (c_X7_thrown l G B dy _ e304) (shp7 G B _ kA_225) (kd_lt kA_225 (by decide)) rfl tw_836 tw_837 tw_838 ti_7 tw_839 hd_X7_thrown ⟨Nat.le_of_ble_eq_true rfl, Nat.le_of_ble_eq_true rfl⟩ ⟨Nat.le_trans (show _ ≤ 610000 by omega) (Nat.le_of_ble_eq_true rfl), Nat.le_trans (show _ ≤ 7050000 by omega) (Nat.le_of_ble_eq_true rfl)⟩ rfl rfl (Nat.le_of_ble_eq_true rfl) dL_law_972 ?_
                                      refine j_iload C (q := 5) dL_law_975 rfl ?_
                                      refine j_icmp_eq C (tgt := 982) dL_law_977 (by decide) (fun c305 => ?_) (fun c305 => ?_)
                                      · have h := ite_t h c305
                                        refine j_iload C (q := 5) dL_law_982 rfl ?_
                                        refine j_if_ne C (tgt := 999) dL_law_984 (by decide) (fun c306 => ?_) (fun c306 => ?_)
                                        · have h := ite_t h c306
                                          refine j_aload_n C (q := 3) dL_law_987 rfl rfl ?_
                                          refine j_iconst C (v := 0) dL_law_988 (by decide) ?_
                                          obtain ⟨g308, h⟩ := gd_some h
                                          refine j_lald C (i := 235) k235 (inA g308 aA_235) dL_law_989 ?_
                                          refine j_iload C (q := 6) dL_law_990 rfl ?_
                                          refine j_i2l C dL_law_992 ?_
                                          refine j_lcmp C dL_law_993 ?_
                                          refine j_if_eq C (tgt := 999) dL_law_994 (by decide) (fun c309 => ?_) (fun c309 => ?_)
                                          · have h := ite_t h c309
                                            refine j_goto C (tgt := 1537) dL_law_999 (by decide) ?_
                                            obtain ⟨x310, ex310⟩ : ∃ y : Int32, y = (y4 + 5) := ⟨_, rfl⟩
                                            have h := lt_at h ex310
                                            refine j_iinc C (q := 4) [(0, .ref b), (1, .ref (B + 0)), (2, .ref (B + 225)), (3, .ref (B + 235)), (4, .int x310), (5, .int x294), (6, .int x299)] [1, 2, 3, 4, 0, 5, 6] dL_law_1537 rfl (by rw [ex310]; rfl) (by decide) rfl ?_
                                            refine j_goto C (tgt := 23) dL_law_1540 (by decide) ?_
                                            refine j_sub [0, 1, 2, 3, 4] rfl ?_
                                            exact ih23 x310 _ _ _ (by omega) (by omega) h
                                          · have h := ite_f h c309
                                            refine j_iconst C (v := 0) dL_law_997 (by decide) ?_
                                            exact absurd (Option.some.inj h) (by decide)
                                        · have h := ite_f h c306
                                          refine j_goto C (tgt := 1537) dL_law_999 (by decide) ?_
                                          obtain ⟨x307, ex307⟩ : ∃ y : Int32, y = (y4 + 5) := ⟨_, rfl⟩
                                          have h := lt_at h ex307
                                          refine j_iinc C (q := 4) [(0, .ref b), (1, .ref (B + 0)), (2, .ref (B + 225)), (3, .ref (B + 235)), (4, .int x307), (5, .int x294), (6, .int x299)] [1, 2, 3, 4, 0, 5, 6] dL_law_1537 rfl (by rw [ex307]; rfl) (by decide) rfl ?_
                                          refine j_goto C (tgt := 23) dL_law_1540 (by decide) ?_
                                          refine j_sub [0, 1, 2, 3, 4] rfl ?_
                                          exact ih23 x307 _ _ _ (by omega) (by omega) h
                                      · have h := ite_f h c305
                                        refine j_iconst C (v := 0) dL_law_980 (by decide) ?_
                                        exact absurd (Option.some.inj h) (by decide)
                                    · have h := ite_f h c291
                                      by_cases c311 : ((xs (tc y4)) &&& 31) = 15
                                      · have h := ite_t h c311
                                        refine j_tableIn C (tgt := 1002) dL_law_39 (by rw [c311]; decide) (by rw [c311]; decide) (by rw [c311]; rfl) (by decide) ?_
                                        refine j_aload_n C (q := 1) dL_law_1002 rfl rfl ?_
                                        refine j_aload_n C (q := 0) dL_law_1003 rfl rfl ?_
                                        refine j_iload C (q := 4) dL_law_1004 rfl ?_
                                        refine j_iconst C (v := 1) dL_law_1006 (by decide) ?_
                                        refine j_iadd C dL_law_1007 ?_
                                        obtain ⟨g312, h⟩ := gd_some h
                                        refine j_sld C SB (inB_in g312) dL_law_1008 ?_
                                        refine j_aload_n C (q := 3) dL_law_1009 rfl rfl ?_
                                        obtain ⟨x313, t314, e315, h⟩ := bd_some h
                                        refine j_callW C E N (As := [.ref (B + 0), .int (xs (tc (y4 + 1))), .ref (B + 235)]) (rest := []) (c_L_quarrels l G B dy sa hls (xs (tc (y4 + 1))) _ e315) tw_734 tw_735 ti_L tw_736 hd_L_quarrels ⟨Nat.le_of_ble_eq_true rfl, Nat.le_of_ble_eq_true rfl⟩ ⟨Nat.le_trans (show _ ≤ 610000 by omega) (Nat.le_of_ble_eq_true rfl), Nat.le_trans (show _ ≤ 7050000 by omega) (Nat.le_of_ble_eq_true rfl)⟩ rfl rfl (Nat.le_of_ble_eq_true rfl) dL_law_1010 ?_
                                        refine j_istore C [(0, .ref b), (1, .ref (B + 0)), (2, .ref (B + 225)), (3, .ref (B + 235)), (4, .int y4), (5, .int x313)] [1, 2, 3, 4, 5, 0] dL_law_1013 (by decide) rfl ?_
                                        refine j_aload_n C (q := 2) dL_law_1015 rfl rfl ?_
                                        refine j_aload_n C (q := 0) dL_law_1016 rfl rfl ?_
                                        refine j_iload C (q := 4) dL_law_1017 rfl ?_
                                        refine j_iconst C (v := 1) dL_law_1019 (by decide) ?_
                                        refine j_iadd C dL_law_1020 ?_
                                        obtain ⟨g316, h⟩ := gd_some h
                                        refine j_sld C SB (inB_in g316) dL_law_1021 ?_
                                        obtain ⟨x317, t318, e319, h⟩ := bd_some h
                                        refine j_callV_i C (i := 225) (As := [.int (xs (tc (y4 + 1)))]) (rest := []) (c_X7_quarrels l G B dy (xs (tc (y4 + 1))) _ e319) (shp7 G B _ kA_225) (kd_lt kA_225 (by decide)) rfl tw_1012 tw_1013 tw_1014 ti_7 tw_1015 hd_X7_quarrels ⟨Nat.le_of_ble_eq_true rfl, Nat.le_of_ble_eq_true rfl⟩ ⟨Nat.le_trans (show _ ≤ 610000 by omega) (Nat.le_of_ble_eq_true rfl), Nat.le_trans (show _ ≤ 7050000 by omega) (Nat.le_of_ble_eq_true rfl)⟩ rfl rfl (Nat.le_of_ble_eq_true rfl) dL_law_1022 ?_
                                        refine j_istore C [(0, .ref b), (1, .ref (B + 0)), (2, .ref (B + 225)), (3, .ref (B + 235)), (4, .int y4), (5, .int x313), (6, .int x317)] [1, 2, 3, 4, 5, 6, 0] dL_law_1025 (by decide) rfl ?_
                                        refine j_aload_n C (q := 2) dL_law_1027 rfl rfl ?_
                                        obtain ⟨x320, t321, e322, h⟩ := bd_some h
                                        refine j_callV_i C (i := 225) (As := []) (rest := []) (c_X7_thrown l G B dy _ e322) (shp7 G B _ kA_225) (kd_lt kA_225 (by decide)) rfl tw_836 tw_837 tw_838 ti_7 tw_839 hd_X7_thrown ⟨Nat.le_of_ble_eq_true rfl, Nat.le_of_ble_eq_true rfl⟩ ⟨Nat.le_trans (show _ ≤ 610000 by omega) (Nat.le_of_ble_eq_true rfl), Nat.le_trans (show _ ≤ 7050000 by omega) (Nat.le_of_ble_eq_true rfl)⟩ rfl rfl (Nat.le_of_ble_eq_true rfl) dL_law_1028 ?_
                                        refine j_iload C (q := 5) dL_law_1031 rfl ?_
                                        refine j_icmp_eq C (tgt := 1038) dL_law_1033 (by decide) (fun c323 => ?_) (fun c323 => ?_)
                                        · have h := ite_t h c323
                                          refine j_iload C (q := 5) dL_law_1038 rfl ?_
                                          refine j_if_ne C (tgt := 1055) dL_law_1040 (by decide) (fun c324 => ?_) (fun c324 => ?_)
                                          · have h := ite_t h c324
                                            refine j_aload_n C (q := 3) dL_law_1043 rfl rfl ?_
                                            refine j_iconst C (v := 0) dL_law_1044 (by decide) ?_
                                            obtain ⟨g326, h⟩ := gd_some h
                                            refine j_lald C (i := 235) k235 (inA g326 aA_235) dL_law_1045 ?_
                                            refine j_iload C (q := 6) dL_law_1046 rfl ?_
                                            refine j_i2l C dL_law_1048 ?_
                                            refine j_lcmp C dL_law_1049 ?_
                                            refine j_if_eq C (tgt := 1055) dL_law_1050 (by decide) (fun c327 => ?_) (fun c327 => ?_)
                                            · have h := ite_t h c327
                                              refine j_goto C (tgt := 1537) dL_law_1055 (by decide) ?_
                                              obtain ⟨x328, ex328⟩ : ∃ y : Int32, y = (y4 + 5) := ⟨_, rfl⟩
                                              have h := lt_at h ex328
                                              refine j_iinc C (q := 4) [(0, .ref b), (1, .ref (B + 0)), (2, .ref (B + 225)), (3, .ref (B + 235)), (4, .int x328), (5, .int x313), (6, .int x317)] [1, 2, 3, 4, 0, 5, 6] dL_law_1537 rfl (by rw [ex328]; rfl) (by decide) rfl ?_
                                              refine j_goto C (tgt := 23) dL_law_1540 (by decide) ?_
                                              refine j_sub [0, 1, 2, 3, 4] rfl ?_
                                              exact ih23 x328 _ _ _ (by omega) (by omega) h
                                            · have h := ite_f h c327
                                              refine j_iconst C (v := 0) dL_law_1053 (by decide) ?_
                                              exact absurd (Option.some.inj h) (by decide)
                                          · have h := ite_f h c324
                                            refine j_goto C (tgt := 1537) dL_law_1055 (by decide) ?_
                                            obtain ⟨x325, ex325⟩ : ∃ y : Int32, y = (y4 + 5) := ⟨_, rfl⟩
                                            have h := lt_at h ex325
                                            refine j_iinc C (q := 4) [(0, .ref b), (1, .ref (B + 0)), (2, .ref (B + 225)), (3, .ref (B + 235)), (4, .int x325), (5, .int x313), (6, .int x317)] [1, 2, 3, 4, 0, 5, 6] dL_law_1537 rfl (by rw [ex325]; rfl) (by decide) rfl ?_
                                            refine j_goto C (tgt := 23) dL_law_1540 (by decide) ?_
                                            refine j_sub [0, 1, 2, 3, 4] rfl ?_
                                            exact ih23 x325 _ _ _ (by omega) (by omega) h
                                        · have h := ite_f h c323
                                          refine j_iconst C (v := 0) dL_law_1036 (by decide) ?_
                                          exact absurd (Option.some.inj h) (by decide)
                                      · have h := ite_f h c311
                                        by_cases c329 : ((xs (tc y4)) &&& 31) = 16
                                        · have h := ite_t h c329
                                          refine j_tableIn C (tgt := 1058) dL_law_39 (by rw [c329]; decide) (by rw [c329]; decide) (by rw [c329]; rfl) (by decide) ?_
                                          refine j_aload_n C (q := 1) dL_law_1058 rfl rfl ?_
                                          refine j_aload_n C (q := 0) dL_law_1059 rfl rfl ?_
                                          refine j_iload C (q := 4) dL_law_1060 rfl ?_
                                          refine j_iconst C (v := 1) dL_law_1062 (by decide) ?_
                                          refine j_iadd C dL_law_1063 ?_
                                          obtain ⟨g330, h⟩ := gd_some h
                                          refine j_sld C SB (inB_in g330) dL_law_1064 ?_
                                          refine j_aload_n C (q := 0) dL_law_1065 rfl rfl ?_
                                          refine j_iload C (q := 4) dL_law_1066 rfl ?_
                                          refine j_iconst C (v := 2) dL_law_1068 (by decide) ?_
                                          refine j_iadd C dL_law_1069 ?_
                                          obtain ⟨g331, h⟩ := gd_some h
                                          refine j_sld C SB (inB_in g331) dL_law_1070 ?_
                                          refine j_aload_n C (q := 3) dL_law_1071 rfl rfl ?_
                                          obtain ⟨x332, t333, e334, h⟩ := bd_some h
                                          refine j_callW C E N (As := [.ref (B + 0), .int (xs (tc (y4 + 1))), .int (xs (tc (y4 + 2))), .ref (B + 235)]) (rest := []) (c_L_stick l G B dy sa hls (xs (tc (y4 + 1))) (xs (tc (y4 + 2))) _ e334) tw_741 tw_742 ti_L tw_743 hd_L_stick ⟨Nat.le_of_ble_eq_true rfl, Nat.le_of_ble_eq_true rfl⟩ ⟨Nat.le_trans (show _ ≤ 610000 by omega) (Nat.le_of_ble_eq_true rfl), Nat.le_trans (show _ ≤ 7050000 by omega) (Nat.le_of_ble_eq_true rfl)⟩ rfl rfl (Nat.le_of_ble_eq_true rfl) dL_law_1072 ?_
                                          refine j_istore C [(0, .ref b), (1, .ref (B + 0)), (2, .ref (B + 225)), (3, .ref (B + 235)), (4, .int y4), (5, .int x332)] [1, 2, 3, 4, 5, 0] dL_law_1075 (by decide) rfl ?_
                                          refine j_aload_n C (q := 2) dL_law_1077 rfl rfl ?_
                                          refine j_aload_n C (q := 0) dL_law_1078 rfl rfl ?_
                                          refine j_iload C (q := 4) dL_law_1079 rfl ?_
                                          refine j_iconst C (v := 1) dL_law_1081 (by decide) ?_
                                          refine j_iadd C dL_law_1082 ?_
                                          obtain ⟨g335, h⟩ := gd_some h
                                          refine j_sld C SB (inB_in g335) dL_law_1083 ?_
                                          refine j_aload_n C (q := 0) dL_law_1084 rfl rfl ?_
                                          refine j_iload C (q := 4) dL_law_1085 rfl ?_
                                          refine j_iconst C (v := 2) dL_law_1087 (by decide) ?_
                                          refine j_iadd C dL_law_1088 ?_
                                          obtain ⟨g336, h⟩ := gd_some h
                                          refine j_sld C SB (inB_in g336) dL_law_1089 ?_
                                          obtain ⟨x337, t338, e339, h⟩ := bd_some h
                                          refine j_callV_i C (i := 225) (As := [.int (xs (tc (y4 + 1))), .int (xs (tc (y4 + 2)))]) (rest := []) (c_X7_stick l G B dy (xs (tc (y4 + 1))) (xs (tc (y4 + 2))) _ e339) (shp7 G B _ kA_225) (kd_lt kA_225 (by decide)) rfl tw_1024 tw_1025 tw_1026 ti_7 tw_1027 hd_X7_stick ⟨Nat.le_of_ble_eq_true rfl, Nat.le_of_ble_eq_true rfl⟩ ⟨Nat.le_trans (show _ ≤ 610000 by omega) (Nat.le_of_ble_eq_true rfl), Nat.le_trans (show _ ≤ 7050000 by omega) (Nat.le_of_ble_eq_true rfl)⟩ rfl rfl (Nat.le_of_ble_eq_true rfl) dL_law_1090 ?_
                                          refine j_istore C [(0, .ref b), (1, .ref (B + 0)), (2, .ref (B + 225)), (3, .ref (B + 235)), (4, .int y4), (5, .int x332), (6, .int x337)] [1, 2, 3, 4, 5, 6, 0] dL_law_1093 (by decide) rfl ?_
                                          refine j_aload_n C (q := 2) dL_law_1095 rfl rfl ?_
                                          obtain ⟨x340, t341, e342, h⟩ := bd_some h
                                          refine j_callV_i C (i := 225) (As := []) (rest := []) (c_X7_thrown l G B dy _ e342) (shp7 G B _ kA_225) (kd_lt kA_225 (by decide)) rfl tw_836 tw_837 tw_838 ti_7 tw_839 hd_X7_thrown ⟨Nat.le_of_ble_eq_true rfl, Nat.le_of_ble_eq_true rfl⟩ ⟨Nat.le_trans (show _ ≤ 610000 by omega) (Nat.le_of_ble_eq_true rfl), Nat.le_trans (show _ ≤ 7050000 by omega) (Nat.le_of_ble_eq_true rfl)⟩ rfl rfl (Nat.le_of_ble_eq_true rfl) dL_law_1096 ?_
                                          refine j_iload C (q := 5) dL_law_1099 rfl ?_
                                          refine j_icmp_eq C (tgt := 1106) dL_law_1101 (by decide) (fun c343 => ?_) (fun c343 => ?_)
                                          · have h := ite_t h c343
                                            refine j_iload C (q := 5) dL_law_1106 rfl ?_
                                            refine j_if_ne C (tgt := 1123) dL_law_1108 (by decide) (fun c344 => ?_) (fun c344 => ?_)
                                            · have h := ite_t h c344
                                              refine j_aload_n C (q := 3) dL_law_1111 rfl rfl ?_
                                              refine j_iconst C (v := 0) dL_law_1112 (by decide) ?_
                                              obtain ⟨g346, h⟩ := gd_some h
                                              refine j_lald C (i := 235) k235 (inA g346 aA_235) dL_law_1113 ?_
                                              refine j_iload C (q := 6) dL_law_1114 rfl ?_
                                              refine j_i2l C dL_law_1116 ?_
                                              refine j_lcmp C dL_law_1117 ?_
                                              refine j_if_eq C (tgt := 1123) dL_law_1118 (by decide) (fun c347 => ?_) (fun c347 => ?_)
                                              · have h := ite_t h c347
                                                refine j_goto C (tgt := 1537) dL_law_1123 (by decide) ?_
                                                obtain ⟨x348, ex348⟩ : ∃ y : Int32, y = (y4 + 5) := ⟨_, rfl⟩
                                                have h := lt_at h ex348
                                                refine j_iinc C (q := 4) [(0, .ref b), (1, .ref (B + 0)), (2, .ref (B + 225)), (3, .ref (B + 235)), (4, .int x348), (5, .int x332), (6, .int x337)] [1, 2, 3, 4, 0, 5, 6] dL_law_1537 rfl (by rw [ex348]; rfl) (by decide) rfl ?_
                                                refine j_goto C (tgt := 23) dL_law_1540 (by decide) ?_
                                                refine j_sub [0, 1, 2, 3, 4] rfl ?_
                                                exact ih23 x348 _ _ _ (by omega) (by omega) h
                                              · have h := ite_f h c347
                                                refine j_iconst C (v := 0) dL_law_1121 (by decide) ?_
                                                exact absurd (Option.some.inj h) (by decide)
                                            · have h := ite_f h c344
                                              refine j_goto C (tgt := 1537) dL_law_1123 (by decide) ?_
                                              obtain ⟨x345, ex345⟩ : ∃ y : Int32, y = (y4 + 5) := ⟨_, rfl⟩
                                              have h := lt_at h ex345
                                              refine j_iinc C (q := 4) [(0, .ref b), (1, .ref (B + 0)), (2, .ref (B + 225)), (3, .ref (B + 235)), (4, .int x345), (5, .int x332), (6, .int x337)] [1, 2, 3, 4, 0, 5, 6] dL_law_1537 rfl (by rw [ex345]; rfl) (by decide) rfl ?_
                                              refine j_goto C (tgt := 23) dL_law_1540 (by decide) ?_
                                              refine j_sub [0, 1, 2, 3, 4] rfl ?_
                                              exact ih23 x345 _ _ _ (by omega) (by omega) h
                                          · have h := ite_f h c343
                                            refine j_iconst C (v := 0) dL_law_1104 (by decide) ?_
                                            exact absurd (Option.some.inj h) (by decide)
                                        · have h := ite_f h c329
                                          by_cases c349 : ((xs (tc y4)) &&& 31) = 17
                                          · have h := ite_t h c349
                                            refine j_tableIn C (tgt := 1126) dL_law_39 (by rw [c349]; decide) (by rw [c349]; decide) (by rw [c349]; rfl) (by decide) ?_
                                            refine j_aload_n C (q := 1) dL_law_1126 rfl rfl ?_
                                            refine j_aload_n C (q := 0) dL_law_1127 rfl rfl ?_
                                            refine j_iload C (q := 4) dL_law_1128 rfl ?_
                                            refine j_iconst C (v := 1) dL_law_1130 (by decide) ?_
                                            refine j_iadd C dL_law_1131 ?_
                                            obtain ⟨g350, h⟩ := gd_some h
                                            refine j_sld C SB (inB_in g350) dL_law_1132 ?_
                                            refine j_aload_n C (q := 3) dL_law_1133 rfl rfl ?_
                                            obtain ⟨x351, t352, e353, h⟩ := bd_some h
                                            refine j_callW C E N (As := [.ref (B + 0), .int (xs (tc (y4 + 1))), .ref (B + 235)]) (rest := []) (c_L_count l G B dy sa hls (xs (tc (y4 + 1))) _ e353) tw_748 tw_749 ti_L tw_750 hd_L_count ⟨Nat.le_of_ble_eq_true rfl, Nat.le_of_ble_eq_true rfl⟩ ⟨Nat.le_trans (show _ ≤ 610000 by omega) (Nat.le_of_ble_eq_true rfl), Nat.le_trans (show _ ≤ 7050000 by omega) (Nat.le_of_ble_eq_true rfl)⟩ rfl rfl (Nat.le_of_ble_eq_true rfl) dL_law_1134 ?_
                                            refine j_istore C [(0, .ref b), (1, .ref (B + 0)), (2, .ref (B + 225)), (3, .ref (B + 235)), (4, .int y4), (5, .int x351)] [1, 2, 3, 4, 5, 0] dL_law_1137 (by decide) rfl ?_
                                            refine j_aload_n C (q := 2) dL_law_1139 rfl rfl ?_
                                            refine j_aload_n C (q := 0) dL_law_1140 rfl rfl ?_
                                            refine j_iload C (q := 4) dL_law_1141 rfl ?_
                                            refine j_iconst C (v := 1) dL_law_1143 (by decide) ?_
                                            refine j_iadd C dL_law_1144 ?_
                                            obtain ⟨g354, h⟩ := gd_some h
                                            refine j_sld C SB (inB_in g354) dL_law_1145 ?_
                                            obtain ⟨x355, t356, e357, h⟩ := bd_some h
                                            refine j_callV_i C (i := 225) (As := [.int (xs (tc (y4 + 1)))]) (rest := []) (c_X7_count l G B dy (xs (tc (y4 + 1))) _ e357) (shp7 G B _ kA_225) (kd_lt kA_225 (by decide)) rfl tw_1036 tw_1037 tw_1038 ti_7 tw_1039 hd_X7_count ⟨Nat.le_of_ble_eq_true rfl, Nat.le_of_ble_eq_true rfl⟩ ⟨Nat.le_trans (show _ ≤ 610000 by omega) (Nat.le_of_ble_eq_true rfl), Nat.le_trans (show _ ≤ 7050000 by omega) (Nat.le_of_ble_eq_true rfl)⟩ rfl rfl (Nat.le_of_ble_eq_true rfl) dL_law_1146 ?_
                                            refine j_istore C [(0, .ref b), (1, .ref (B + 0)), (2, .ref (B + 225)), (3, .ref (B + 235)), (4, .int y4), (5, .int x351), (6, .int x355)] [1, 2, 3, 4, 5, 6, 0] dL_law_1149 (by decide) rfl ?_
                                            refine j_aload_n C (q := 2) dL_law_1151 rfl rfl ?_
                                            obtain ⟨x358, t359, e360, h⟩ := bd_some h
                                            refine j_callV_i C (i := 225) (As := []) (rest := []) (c_X7_thrown l G B dy _ e360) (shp7 G B _ kA_225) (kd_lt kA_225 (by decide)) rfl tw_836 tw_837 tw_838 ti_7 tw_839 hd_X7_thrown ⟨Nat.le_of_ble_eq_true rfl, Nat.le_of_ble_eq_true rfl⟩ ⟨Nat.le_trans (show _ ≤ 610000 by omega) (Nat.le_of_ble_eq_true rfl), Nat.le_trans (show _ ≤ 7050000 by omega) (Nat.le_of_ble_eq_true rfl)⟩ rfl rfl (Nat.le_of_ble_eq_true rfl) dL_law_1152 ?_
                                            refine j_iload C (q := 5) dL_law_1155 rfl ?_
                                            refine j_icmp_eq C (tgt := 1162) dL_law_1157 (by decide) (fun c361 => ?_) (fun c361 => ?_)
                                            · have h := ite_t h c361
                                              refine j_iload C (q := 5) dL_law_1162 rfl ?_
                                              refine j_if_ne C (tgt := 1179) dL_law_1164 (by decide) (fun c362 => ?_) (fun c362 => ?_)
                                              · have h := ite_t h c362
                                                refine j_aload_n C (q := 3) dL_law_1167 rfl rfl ?_
                                                refine j_iconst C (v := 0) dL_law_1168 (by decide) ?_
                                                obtain ⟨g364, h⟩ := gd_some h
                                                refine j_lald C (i := 235) k235 (inA g364 aA_235) dL_law_1169 ?_
                                                refine j_iload C (q := 6) dL_law_1170 rfl ?_
                                                refine j_i2l C dL_law_1172 ?_
                                                refine j_lcmp C dL_law_1173 ?_
                                                refine j_if_eq C (tgt := 1179) dL_law_1174 (by decide) (fun c365 => ?_) (fun c365 => ?_)
                                                · have h := ite_t h c365
                                                  refine j_goto C (tgt := 1537) dL_law_1179 (by decide) ?_
                                                  obtain ⟨x366, ex366⟩ : ∃ y : Int32, y = (y4 + 5) := ⟨_, rfl⟩
                                                  have h := lt_at h ex366
                                                  refine j_iinc C (q := 4) [(0, .ref b), (1, .ref (B + 0)), (2, .ref (B + 225)), (3, .ref (B + 235)), (4, .int x366), (5, .int x351), (6, .int x355)] [1, 2, 3, 4, 0, 5, 6] dL_law_1537 rfl (by rw [ex366]; rfl) (by decide) rfl ?_
                                                  refine j_goto C (tgt := 23) dL_law_1540 (by decide) ?_
                                                  refine j_sub [0, 1, 2, 3, 4] rfl ?_
                                                  exact ih23 x366 _ _ _ (by omega) (by omega) h
                                                · have h := ite_f h c365
                                                  refine j_iconst C (v := 0) dL_law_1177 (by decide) ?_
                                                  exact absurd (Option.some.inj h) (by decide)
                                              · have h := ite_f h c362
                                                refine j_goto C (tgt := 1537) dL_law_1179 (by decide) ?_
                                                obtain ⟨x363, ex363⟩ : ∃ y : Int32, y = (y4 + 5) := ⟨_, rfl⟩
                                                have h := lt_at h ex363
                                                refine j_iinc C (q := 4) [(0, .ref b), (1, .ref (B + 0)), (2, .ref (B + 225)), (3, .ref (B + 235)), (4, .int x363), (5, .int x351), (6, .int x355)] [1, 2, 3, 4, 0, 5, 6] dL_law_1537 rfl (by rw [ex363]; rfl) (by decide) rfl ?_
                                                refine j_goto C (tgt := 23) dL_law_1540 (by decide) ?_
                                                refine j_sub [0, 1, 2, 3, 4] rfl ?_
                                                exact ih23 x363 _ _ _ (by omega) (by omega) h
                                            · have h := ite_f h c361
                                              refine j_iconst C (v := 0) dL_law_1160 (by decide) ?_
                                              exact absurd (Option.some.inj h) (by decide)
                                          · have h := ite_f h c349
                                            by_cases c367 : ((xs (tc y4)) &&& 31) = 18
                                            · have h := ite_t h c367
                                              refine j_tableIn C (tgt := 1182) dL_law_39 (by rw [c367]; decide) (by rw [c367]; decide) (by rw [c367]; rfl) (by decide) ?_
                                              refine j_aload_n C (q := 1) dL_law_1182 rfl rfl ?_
                                              refine j_aload_n C (q := 0) dL_law_1183 rfl rfl ?_
                                              refine j_iload C (q := 4) dL_law_1184 rfl ?_
                                              refine j_iconst C (v := 1) dL_law_1186 (by decide) ?_
                                              refine j_iadd C dL_law_1187 ?_
                                              obtain ⟨g368, h⟩ := gd_some h
                                              refine j_sld C SB (inB_in g368) dL_law_1188 ?_
                                              refine j_aload_n C (q := 0) dL_law_1189 rfl rfl ?_
                                              refine j_iload C (q := 4) dL_law_1190 rfl ?_
                                              refine j_iconst C (v := 2) dL_law_1192 (by decide) ?_
                                              refine j_iadd C dL_law_1193 ?_
                                              obtain ⟨g369, h⟩ := gd_some h
                                              refine j_sld C SB (inB_in g369) dL_law_1194 ?_
                                              refine j_aload_n C (q := 0) dL_law_1195 rfl rfl ?_
                                              refine j_iload C (q := 4) dL_law_1196 rfl ?_
                                              refine j_iconst C (v := 3) dL_law_1198 (by decide) ?_
                                              refine j_iadd C dL_law_1199 ?_
                                              obtain ⟨g370, h⟩ := gd_some h
                                              refine j_sld C SB (inB_in g370) dL_law_1200 ?_
                                              refine j_aload_n C (q := 0) dL_law_1201 rfl rfl ?_
                                              refine j_iload C (q := 4) dL_law_1202 rfl ?_
                                              refine j_iconst C (v := 4) dL_law_1204 (by decide) ?_
                                              refine j_iadd C dL_law_1205 ?_
                                              obtain ⟨g371, h⟩ := gd_some h
                                              refine j_sld C SB (inB_in g371) dL_law_1206 ?_
                                              refine j_if_eq C (tgt := 1214) dL_law_1207 (by decide) (fun c372 => ?_) (fun c372 => ?_)
                                              · have h := ite_t h c372
                                                refine j_iconst C (v := 0) dL_law_1214 (by decide) ?_
                                                exact J1215 y4 0 (xs (tc (y4 + 3))) (xs (tc (y4 + 2))) (xs (tc (y4 + 1))) _ _ _ (by omega) (by omega) h
                                              · have h := ite_f h c372
                                                refine j_iconst C (v := 1) dL_law_1210 (by decide) ?_
                                                refine j_goto C (tgt := 1215) dL_law_1211 (by decide) ?_
                                                exact J1215 y4 1 (xs (tc (y4 + 3))) (xs (tc (y4 + 2))) (xs (tc (y4 + 1))) _ _ _ (by omega) (by omega) h
                                            · have h := ite_f h c367
                                              by_cases c373 : ((xs (tc y4)) &&& 31) = 19
                                              · have h := ite_t h c373
                                                refine j_tableIn C (tgt := 1290) dL_law_39 (by rw [c373]; decide) (by rw [c373]; decide) (by rw [c373]; rfl) (by decide) ?_
                                                refine j_aload_n C (q := 1) dL_law_1290 rfl rfl ?_
                                                refine j_aload_n C (q := 0) dL_law_1291 rfl rfl ?_
                                                refine j_iload C (q := 4) dL_law_1292 rfl ?_
                                                refine j_iconst C (v := 1) dL_law_1294 (by decide) ?_
                                                refine j_iadd C dL_law_1295 ?_
                                                obtain ⟨g374, h⟩ := gd_some h
                                                refine j_sld C SB (inB_in g374) dL_law_1296 ?_
                                                refine j_aload_n C (q := 3) dL_law_1297 rfl rfl ?_
                                                obtain ⟨x375, t376, e377, h⟩ := bd_some h
                                                refine j_callW C E N (As := [.ref (B + 0), .int (xs (tc (y4 + 1))), .ref (B + 235)]) (rest := []) (c_L_alike l G B dy sa hls (xs (tc (y4 + 1))) _ e377) tw_762 tw_763 ti_L tw_764 hd_L_alike ⟨Nat.le_of_ble_eq_true rfl, Nat.le_of_ble_eq_true rfl⟩ ⟨Nat.le_trans (show _ ≤ 610000 by omega) (Nat.le_of_ble_eq_true rfl), Nat.le_trans (show _ ≤ 7050000 by omega) (Nat.le_of_ble_eq_true rfl)⟩ rfl rfl (Nat.le_of_ble_eq_true rfl) dL_law_1298 ?_
                                                refine j_istore C [(0, .ref b), (1, .ref (B + 0)), (2, .ref (B + 225)), (3, .ref (B + 235)), (4, .int y4), (5, .int x375)] [1, 2, 3, 4, 5, 0] dL_law_1301 (by decide) rfl ?_
                                                refine j_aload_n C (q := 2) dL_law_1303 rfl rfl ?_
                                                refine j_aload_n C (q := 0) dL_law_1304 rfl rfl ?_
                                                refine j_iload C (q := 4) dL_law_1305 rfl ?_
                                                refine j_iconst C (v := 1) dL_law_1307 (by decide) ?_
                                                refine j_iadd C dL_law_1308 ?_
                                                obtain ⟨g378, h⟩ := gd_some h
                                                refine j_sld C SB (inB_in g378) dL_law_1309 ?_
                                                obtain ⟨x379, t380, e381, h⟩ := bd_some h
                                                refine j_callV_i C (i := 225) (As := [.int (xs (tc (y4 + 1)))]) (rest := []) (c_X7_alike l G B dy (xs (tc (y4 + 1))) _ e381) (shp7 G B _ kA_225) (kd_lt kA_225 (by decide)) rfl tw_1056 tw_1057 tw_1058 ti_7 tw_1059 hd_X7_alike ⟨Nat.le_of_ble_eq_true rfl, Nat.le_of_ble_eq_true rfl⟩ ⟨Nat.le_trans (show _ ≤ 610000 by omega) (Nat.le_of_ble_eq_true rfl), Nat.le_trans (show _ ≤ 7050000 by omega) (Nat.le_of_ble_eq_true rfl)⟩ rfl rfl (Nat.le_of_ble_eq_true rfl) dL_law_1310 ?_
                                                refine j_istore C [(0, .ref b), (1, .ref (B + 0)), (2, .ref (B + 225)), (3, .ref (B + 235)), (4, .int y4), (5, .int x375), (6, .int x379)] [1, 2, 3, 4, 5, 6, 0] dL_law_1313 (by decide) rfl ?_
                                                refine j_aload_n C (q := 2) dL_law_1315 rfl rfl ?_
                                                obtain ⟨x382, t383, e384, h⟩ := bd_some h
                                                refine j_callV_i C (i := 225) (As := []) (rest := []) (c_X7_thrown l G B dy _ e384) (shp7 G B _ kA_225) (kd_lt kA_225 (by decide)) rfl tw_836 tw_837 tw_838 ti_7 tw_839 hd_X7_thrown ⟨Nat.le_of_ble_eq_true rfl, Nat.le_of_ble_eq_true rfl⟩ ⟨Nat.le_trans (show _ ≤ 610000 by omega) (Nat.le_of_ble_eq_true rfl), Nat.le_trans (show _ ≤ 7050000 by omega) (Nat.le_of_ble_eq_true rfl)⟩ rfl rfl (Nat.le_of_ble_eq_true rfl) dL_law_1316 ?_
                                                refine j_iload C (q := 5) dL_law_1319 rfl ?_
                                                refine j_icmp_eq C (tgt := 1326) dL_law_1321 (by decide) (fun c385 => ?_) (fun c385 => ?_)
                                                · have h := ite_t h c385
                                                  refine j_iload C (q := 5) dL_law_1326 rfl ?_
                                                  refine j_if_ne C (tgt := 1343) dL_law_1328 (by decide) (fun c386 => ?_) (fun c386 => ?_)
                                                  · have h := ite_t h c386
                                                    refine j_aload_n C (q := 3) dL_law_1331 rfl rfl ?_
                                                    refine j_iconst C (v := 0) dL_law_1332 (by decide) ?_
                                                    obtain ⟨g388, h⟩ := gd_some h
                                                    refine j_lald C (i := 235) k235 (inA g388 aA_235) dL_law_1333 ?_
                                                    refine j_iload C (q := 6) dL_law_1334 rfl ?_
                                                    refine j_i2l C dL_law_1336 ?_
                                                    refine j_lcmp C dL_law_1337 ?_
                                                    refine j_if_eq C (tgt := 1343) dL_law_1338 (by decide) (fun c389 => ?_) (fun c389 => ?_)
                                                    · have h := ite_t h c389
                                                      refine j_goto C (tgt := 1537) dL_law_1343 (by decide) ?_
                                                      obtain ⟨x390, ex390⟩ : ∃ y : Int32, y = (y4 + 5) := ⟨_, rfl⟩
                                                      have h := lt_at h ex390
                                                      refine j_iinc C (q := 4) [(0, .ref b), (1, .ref (B + 0)), (2, .ref (B + 225)), (3, .ref (B + 235)), (4, .int x390), (5, .int x375), (6, .int x379)] [1, 2, 3, 4, 0, 5, 6] dL_law_1537 rfl (by rw [ex390]; rfl) (by decide) rfl ?_
                                                      refine j_goto C (tgt := 23) dL_law_1540 (by decide) ?_
                                                      refine j_sub [0, 1, 2, 3, 4] rfl ?_
                                                      exact ih23 x390 _ _ _ (by omega) (by omega) h
                                                    · have h := ite_f h c389
                                                      refine j_iconst C (v := 0) dL_law_1341 (by decide) ?_
                                                      exact absurd (Option.some.inj h) (by decide)
                                                  · have h := ite_f h c386
                                                    refine j_goto C (tgt := 1537) dL_law_1343 (by decide) ?_
                                                    obtain ⟨x387, ex387⟩ : ∃ y : Int32, y = (y4 + 5) := ⟨_, rfl⟩
                                                    have h := lt_at h ex387
                                                    refine j_iinc C (q := 4) [(0, .ref b), (1, .ref (B + 0)), (2, .ref (B + 225)), (3, .ref (B + 235)), (4, .int x387), (5, .int x375), (6, .int x379)] [1, 2, 3, 4, 0, 5, 6] dL_law_1537 rfl (by rw [ex387]; rfl) (by decide) rfl ?_
                                                    refine j_goto C (tgt := 23) dL_law_1540 (by decide) ?_
                                                    refine j_sub [0, 1, 2, 3, 4] rfl ?_
                                                    exact ih23 x387 _ _ _ (by omega) (by omega) h
                                                · have h := ite_f h c385
                                                  refine j_iconst C (v := 0) dL_law_1324 (by decide) ?_
                                                  exact absurd (Option.some.inj h) (by decide)
                                              · have h := ite_f h c373
                                                by_cases c391 : ((xs (tc y4)) &&& 31) = 20
                                                · have h := ite_t h c391
                                                  refine j_tableIn C (tgt := 1346) dL_law_39 (by rw [c391]; decide) (by rw [c391]; decide) (by rw [c391]; rfl) (by decide) ?_
                                                  refine j_aload_n C (q := 1) dL_law_1346 rfl rfl ?_
                                                  refine j_aload_n C (q := 0) dL_law_1347 rfl rfl ?_
                                                  refine j_iload C (q := 4) dL_law_1348 rfl ?_
                                                  refine j_iconst C (v := 1) dL_law_1350 (by decide) ?_
                                                  refine j_iadd C dL_law_1351 ?_
                                                  obtain ⟨g392, h⟩ := gd_some h
                                                  refine j_sld C SB (inB_in g392) dL_law_1352 ?_
                                                  refine j_aload_n C (q := 0) dL_law_1353 rfl rfl ?_
                                                  refine j_iload C (q := 4) dL_law_1354 rfl ?_
                                                  refine j_iconst C (v := 2) dL_law_1356 (by decide) ?_
                                                  refine j_iadd C dL_law_1357 ?_
                                                  obtain ⟨g393, h⟩ := gd_some h
                                                  refine j_sld C SB (inB_in g393) dL_law_1358 ?_
                                                  refine j_aload_n C (q := 3) dL_law_1359 rfl rfl ?_
                                                  obtain ⟨x394, t395, e396, h⟩ := bd_some h
                                                  refine j_callW C E N (As := [.ref (B + 0), .int (xs (tc (y4 + 1))), .int (xs (tc (y4 + 2))), .ref (B + 235)]) (rest := []) (c_L_peace l G B dy sa hls (xs (tc (y4 + 1))) (xs (tc (y4 + 2))) _ e396) tw_769 tw_770 ti_L tw_771 hd_L_peace ⟨Nat.le_of_ble_eq_true rfl, Nat.le_of_ble_eq_true rfl⟩ ⟨Nat.le_trans (show _ ≤ 610000 by omega) (Nat.le_of_ble_eq_true rfl), Nat.le_trans (show _ ≤ 7050000 by omega) (Nat.le_of_ble_eq_true rfl)⟩ rfl rfl (Nat.le_of_ble_eq_true rfl) dL_law_1360 ?_
                                                  refine j_istore C [(0, .ref b), (1, .ref (B + 0)), (2, .ref (B + 225)), (3, .ref (B + 235)), (4, .int y4), (5, .int x394)] [1, 2, 3, 4, 5, 0] dL_law_1363 (by decide) rfl ?_
                                                  refine j_aload_n C (q := 2) dL_law_1365 rfl rfl ?_
                                                  refine j_aload_n C (q := 0) dL_law_1366 rfl rfl ?_
                                                  refine j_iload C (q := 4) dL_law_1367 rfl ?_
                                                  refine j_iconst C (v := 1) dL_law_1369 (by decide) ?_
                                                  refine j_iadd C dL_law_1370 ?_
                                                  obtain ⟨g397, h⟩ := gd_some h
                                                  refine j_sld C SB (inB_in g397) dL_law_1371 ?_
                                                  refine j_aload_n C (q := 0) dL_law_1372 rfl rfl ?_
                                                  refine j_iload C (q := 4) dL_law_1373 rfl ?_
                                                  refine j_iconst C (v := 2) dL_law_1375 (by decide) ?_
                                                  refine j_iadd C dL_law_1376 ?_
                                                  obtain ⟨g398, h⟩ := gd_some h
                                                  refine j_sld C SB (inB_in g398) dL_law_1377 ?_
                                                  obtain ⟨x399, t400, e401, h⟩ := bd_some h
                                                  refine j_callV_i C (i := 225) (As := [.int (xs (tc (y4 + 1))), .int (xs (tc (y4 + 2)))]) (rest := []) (c_X7_peace l G B dy (xs (tc (y4 + 1))) (xs (tc (y4 + 2))) _ e401) (shp7 G B _ kA_225) (kd_lt kA_225 (by decide)) rfl tw_1064 tw_1065 tw_1066 ti_7 tw_1067 hd_X7_peace ⟨Nat.le_of_ble_eq_true rfl, Nat.le_of_ble_eq_true rfl⟩ ⟨Nat.le_trans (show _ ≤ 610000 by omega) (Nat.le_of_ble_eq_true rfl), Nat.le_trans (show _ ≤ 7050000 by omega) (Nat.le_of_ble_eq_true rfl)⟩ rfl rfl (Nat.le_of_ble_eq_true rfl) dL_law_1378 ?_
                                                  refine j_istore C [(0, .ref b), (1, .ref (B + 0)), (2, .ref (B + 225)), (3, .ref (B + 235)), (4, .int y4), (5, .int x394), (6, .int x399)] [1, 2, 3, 4, 5, 6, 0] dL_law_1381 (by decide) rfl ?_
                                                  refine j_aload_n C (q := 2) dL_law_1383 rfl rfl ?_
                                                  obtain ⟨x402, t403, e404, h⟩ := bd_some h
                                                  refine j_callV_i C (i := 225) (As := []) (rest := []) (c_X7_thrown l G B dy _ e404) (shp7 G B _ kA_225) (kd_lt kA_225 (by decide)) rfl tw_836 tw_837 tw_838 ti_7 tw_839 hd_X7_thrown ⟨Nat.le_of_ble_eq_true rfl, Nat.le_of_ble_eq_true rfl⟩ ⟨Nat.le_trans (show _ ≤ 610000 by omega) (Nat.le_of_ble_eq_true rfl), Nat.le_trans (show _ ≤ 7050000 by omega) (Nat.le_of_ble_eq_true rfl)⟩ rfl rfl (Nat.le_of_ble_eq_true rfl) dL_law_1384 ?_
                                                  refine j_iload C (q := 5) dL_law_1387 rfl ?_
                                                  refine j_icmp_eq C (tgt := 1394) dL_law_1389 (by decide) (fun c405 => ?_) (fun c405 => ?_)
                                                  · have h := ite_t h c405
                                                    refine j_iload C (q := 5) dL_law_1394 rfl ?_
                                                    refine j_if_ne C (tgt := 1411) dL_law_1396 (by decide) (fun c406 => ?_) (fun c406 => ?_)
                                                    · have h := ite_t h c406
                                                      refine j_aload_n C (q := 3) dL_law_1399 rfl rfl ?_
                                                      refine j_iconst C (v := 0) dL_law_1400 (by decide) ?_
                                                      obtain ⟨g408, h⟩ := gd_some h
                                                      refine j_lald C (i := 235) k235 (inA g408 aA_235) dL_law_1401 ?_
                                                      refine j_iload C (q := 6) dL_law_1402 rfl ?_
                                                      refine j_i2l C dL_law_1404 ?_
                                                      refine j_lcmp C dL_law_1405 ?_
                                                      refine j_if_eq C (tgt := 1411) dL_law_1406 (by decide) (fun c409 => ?_) (fun c409 => ?_)
                                                      · have h := ite_t h c409
                                                        refine j_goto C (tgt := 1537) dL_law_1411 (by decide) ?_
                                                        obtain ⟨x410, ex410⟩ : ∃ y : Int32, y = (y4 + 5) := ⟨_, rfl⟩
                                                        have h := lt_at h ex410
                                                        refine j_iinc C (q := 4) [(0, .ref b), (1, .ref (B + 0)), (2, .ref (B + 225)), (3, .ref (B + 235)), (4, .int x410), (5, .int x394), (6, .int x399)] [1, 2, 3, 4, 0, 5, 6] dL_law_1537 rfl (by rw [ex410]; rfl) (by decide) rfl ?_
                                                        refine j_goto C (tgt := 23) dL_law_1540 (by decide) ?_
                                                        refine j_sub [0, 1, 2, 3, 4] rfl ?_
                                                        exact ih23 x410 _ _ _ (by omega) (by omega) h
                                                      · have h := ite_f h c409
                                                        refine j_iconst C (v := 0) dL_law_1409 (by decide) ?_
                                                        exact absurd (Option.some.inj h) (by decide)
                                                    · have h := ite_f h c406
                                                      refine j_goto C (tgt := 1537) dL_law_1411 (by decide) ?_
                                                      obtain ⟨x407, ex407⟩ : ∃ y : Int32, y = (y4 + 5) := ⟨_, rfl⟩
                                                      have h := lt_at h ex407
                                                      refine j_iinc C (q := 4) [(0, .ref b), (1, .ref (B + 0)), (2, .ref (B + 225)), (3, .ref (B + 235)), (4, .int x407), (5, .int x394), (6, .int x399)] [1, 2, 3, 4, 0, 5, 6] dL_law_1537 rfl (by rw [ex407]; rfl) (by decide) rfl ?_
                                                      refine j_goto C (tgt := 23) dL_law_1540 (by decide) ?_
                                                      refine j_sub [0, 1, 2, 3, 4] rfl ?_
                                                      exact ih23 x407 _ _ _ (by omega) (by omega) h
                                                  · have h := ite_f h c405
                                                    refine j_iconst C (v := 0) dL_law_1392 (by decide) ?_
                                                    exact absurd (Option.some.inj h) (by decide)
                                                · have h := ite_f h c391
                                                  by_cases c411 : ((xs (tc y4)) &&& 31) = 21
                                                  · have h := ite_t h c411
                                                    refine j_tableIn C (tgt := 1414) dL_law_39 (by rw [c411]; decide) (by rw [c411]; decide) (by rw [c411]; rfl) (by decide) ?_
                                                    refine j_aload_n C (q := 1) dL_law_1414 rfl rfl ?_
                                                    refine j_aload_n C (q := 0) dL_law_1415 rfl rfl ?_
                                                    refine j_iload C (q := 4) dL_law_1416 rfl ?_
                                                    refine j_iconst C (v := 1) dL_law_1418 (by decide) ?_
                                                    refine j_iadd C dL_law_1419 ?_
                                                    obtain ⟨g412, h⟩ := gd_some h
                                                    refine j_sld C SB (inB_in g412) dL_law_1420 ?_
                                                    refine j_aload_n C (q := 0) dL_law_1421 rfl rfl ?_
                                                    refine j_iload C (q := 4) dL_law_1422 rfl ?_
                                                    refine j_iconst C (v := 2) dL_law_1424 (by decide) ?_
                                                    refine j_iadd C dL_law_1425 ?_
                                                    obtain ⟨g413, h⟩ := gd_some h
                                                    refine j_sld C SB (inB_in g413) dL_law_1426 ?_
                                                    refine j_aload_n C (q := 3) dL_law_1427 rfl rfl ?_
                                                    obtain ⟨x414, t415, e416, h⟩ := bd_some h
                                                    refine j_callW C E N (As := [.ref (B + 0), .int (xs (tc (y4 + 1))), .int (xs (tc (y4 + 2))), .ref (B + 235)]) (rest := []) (c_L_moved l G B dy sa hls (xs (tc (y4 + 1))) (xs (tc (y4 + 2))) _ e416) tw_776 tw_777 ti_L tw_778 hd_L_moved ⟨Nat.le_of_ble_eq_true rfl, Nat.le_of_ble_eq_true rfl⟩ ⟨Nat.le_trans (show _ ≤ 610000 by omega) (Nat.le_of_ble_eq_true rfl), Nat.le_trans (show _ ≤ 7050000 by omega) (Nat.le_of_ble_eq_true rfl)⟩ rfl rfl (Nat.le_of_ble_eq_true rfl) dL_law_1428 ?_
                                                    refine j_istore C [(0, .ref b), (1, .ref (B + 0)), (2, .ref (B + 225)), (3, .ref (B + 235)), (4, .int y4), (5, .int x414)] [1, 2, 3, 4, 5, 0] dL_law_1431 (by decide) rfl ?_
                                                    refine j_aload_n C (q := 2) dL_law_1433 rfl rfl ?_
                                                    refine j_aload_n C (q := 0) dL_law_1434 rfl rfl ?_
                                                    refine j_iload C (q := 4) dL_law_1435 rfl ?_
                                                    refine j_iconst C (v := 1) dL_law_1437 (by decide) ?_
                                                    refine j_iadd C dL_law_1438 ?_
                                                    obtain ⟨g417, h⟩ := gd_some h
                                                    refine j_sld C SB (inB_in g417) dL_law_1439 ?_
                                                    refine j_aload_n C (q := 0) dL_law_1440 rfl rfl ?_
                                                    refine j_iload C (q := 4) dL_law_1441 rfl ?_
                                                    refine j_iconst C (v := 2) dL_law_1443 (by decide) ?_
                                                    refine j_iadd C dL_law_1444 ?_
                                                    obtain ⟨g418, h⟩ := gd_some h
                                                    refine j_sld C SB (inB_in g418) dL_law_1445 ?_
                                                    obtain ⟨x419, t420, e421, h⟩ := bd_some h
                                                    refine j_callV_i C (i := 225) (As := [.int (xs (tc (y4 + 1))), .int (xs (tc (y4 + 2)))]) (rest := []) (c_X7_moved l G B dy (xs (tc (y4 + 1))) (xs (tc (y4 + 2))) _ e421) (shp7 G B _ kA_225) (kd_lt kA_225 (by decide)) rfl tw_1075 tw_1076 tw_1077 ti_7 tw_1078 hd_X7_moved ⟨Nat.le_of_ble_eq_true rfl, Nat.le_of_ble_eq_true rfl⟩ ⟨Nat.le_trans (show _ ≤ 610000 by omega) (Nat.le_of_ble_eq_true rfl), Nat.le_trans (show _ ≤ 7050000 by omega) (Nat.le_of_ble_eq_true rfl)⟩ rfl rfl (Nat.le_of_ble_eq_true rfl) dL_law_1446 ?_
                                                    refine j_istore C [(0, .ref b), (1, .ref (B + 0)), (2, .ref (B + 225)), (3, .ref (B + 235)), (4, .int y4), (5, .int x414), (6, .int x419)] [1, 2, 3, 4, 5, 6, 0] dL_law_1449 (by decide) rfl ?_
                                                    refine j_aload_n C (q := 2) dL_law_1451 rfl rfl ?_
                                                    obtain ⟨x422, t423, e424, h⟩ := bd_some h
                                                    refine j_callV_i C (i := 225) (As := []) (rest := []) (c_X7_thrown l G B dy _ e424) (shp7 G B _ kA_225) (kd_lt kA_225 (by decide)) rfl tw_836 tw_837 tw_838 ti_7 tw_839 hd_X7_thrown ⟨Nat.le_of_ble_eq_true rfl, Nat.le_of_ble_eq_true rfl⟩ ⟨Nat.le_trans (show _ ≤ 610000 by omega) (Nat.le_of_ble_eq_true rfl), Nat.le_trans (show _ ≤ 7050000 by omega) (Nat.le_of_ble_eq_true rfl)⟩ rfl rfl (Nat.le_of_ble_eq_true rfl) dL_law_1452 ?_
                                                    refine j_iload C (q := 5) dL_law_1455 rfl ?_
                                                    refine j_icmp_eq C (tgt := 1462) dL_law_1457 (by decide) (fun c425 => ?_) (fun c425 => ?_)
                                                    · have h := ite_t h c425
                                                      refine j_iload C (q := 5) dL_law_1462 rfl ?_
                                                      refine j_if_ne C (tgt := 1479) dL_law_1464 (by decide) (fun c426 => ?_) (fun c426 => ?_)
                                                      · have h := ite_t h c426
                                                        refine j_aload_n C (q := 3) dL_law_1467 rfl rfl ?_
                                                        refine j_iconst C (v := 0) dL_law_1468 (by decide) ?_
                                                        obtain ⟨g428, h⟩ := gd_some h
                                                        refine j_lald C (i := 235) k235 (inA g428 aA_235) dL_law_1469 ?_
                                                        refine j_iload C (q := 6) dL_law_1470 rfl ?_
                                                        refine j_i2l C dL_law_1472 ?_
                                                        refine j_lcmp C dL_law_1473 ?_
                                                        refine j_if_eq C (tgt := 1479) dL_law_1474 (by decide) (fun c429 => ?_) (fun c429 => ?_)
                                                        · have h := ite_t h c429
                                                          refine j_goto C (tgt := 1537) dL_law_1479 (by decide) ?_
                                                          obtain ⟨x430, ex430⟩ : ∃ y : Int32, y = (y4 + 5) := ⟨_, rfl⟩
                                                          have h := lt_at h ex430
                                                          refine j_iinc C (q := 4) [(0, .ref b), (1, .ref (B + 0)), (2, .ref (B + 225)), (3, .ref (B + 235)), (4, .int x430), (5, .int x414), (6, .int x419)] [1, 2, 3, 4, 0, 5, 6] dL_law_1537 rfl (by rw [ex430]; rfl) (by decide) rfl ?_
                                                          refine j_goto C (tgt := 23) dL_law_1540 (by decide) ?_
                                                          refine j_sub [0, 1, 2, 3, 4] rfl ?_
                                                          exact ih23 x430 _ _ _ (by omega) (by omega) h
                                                        · have h := ite_f h c429
                                                          refine j_iconst C (v := 0) dL_law_1477 (by decide) ?_
                                                          exact absurd (Option.some.inj h) (by decide)
                                                      · have h := ite_f h c426
                                                        refine j_goto C (tgt := 1537) dL_law_1479 (by decide) ?_
                                                        obtain ⟨x427, ex427⟩ : ∃ y : Int32, y = (y4 + 5) := ⟨_, rfl⟩
                                                        have h := lt_at h ex427
                                                        refine j_iinc C (q := 4) [(0, .ref b), (1, .ref (B + 0)), (2, .ref (B + 225)), (3, .ref (B + 235)), (4, .int x427), (5, .int x414), (6, .int x419)] [1, 2, 3, 4, 0, 5, 6] dL_law_1537 rfl (by rw [ex427]; rfl) (by decide) rfl ?_
                                                        refine j_goto C (tgt := 23) dL_law_1540 (by decide) ?_
                                                        refine j_sub [0, 1, 2, 3, 4] rfl ?_
                                                        exact ih23 x427 _ _ _ (by omega) (by omega) h
                                                    · have h := ite_f h c425
                                                      refine j_iconst C (v := 0) dL_law_1460 (by decide) ?_
                                                      exact absurd (Option.some.inj h) (by decide)
                                                  · have h := ite_f h c411
                                                    by_cases c431 : ((xs (tc y4)) &&& 31) = 22
                                                    · have h := ite_t h c431
                                                      refine j_tableIn C (tgt := 1482) dL_law_39 (by rw [c431]; decide) (by rw [c431]; decide) (by rw [c431]; rfl) (by decide) ?_
                                                      refine j_aload_n C (q := 1) dL_law_1482 rfl rfl ?_
                                                      obtain ⟨x432, t433, e434, h⟩ := bd_some h
                                                      refine j_callV_d C (i := 0) (As := []) (rest := []) (c_X6_freshShare l G B dy _ e434) (shp6 G B _ kA_0) (kd_lt kA_0 (by decide)) rfl tw_292 tw_293 tw_294 ti_6 tw_295 hd_X6_freshShare ⟨Nat.le_of_ble_eq_true rfl, Nat.le_of_ble_eq_true rfl⟩ ⟨Nat.le_trans (show _ ≤ 610000 by omega) (Nat.le_of_ble_eq_true rfl), Nat.le_trans (show _ ≤ 7050000 by omega) (Nat.le_of_ble_eq_true rfl)⟩ rfl rfl (Nat.le_of_ble_eq_true rfl) dL_law_1483 ?_
                                                      refine j_dstore C [(0, .ref b), (1, .ref (B + 0)), (2, .ref (B + 225)), (3, .ref (B + 235)), (4, .int y4), (5, .double x432)] [1, 2, 3, 4, 5, 0] dL_law_1486 (by decide) rfl ?_
                                                      refine j_aload_n C (q := 2) dL_law_1488 rfl rfl ?_
                                                      obtain ⟨x435, t436, e437, h⟩ := bd_some h
                                                      refine j_callV_d C (i := 225) (As := []) (rest := []) (c_X7_freshShare l G B dy _ e437) (shp7 G B _ kA_225) (kd_lt kA_225 (by decide)) rfl tw_1083 tw_1084 tw_1085 ti_7 tw_1086 hd_X7_freshShare ⟨Nat.le_of_ble_eq_true rfl, Nat.le_of_ble_eq_true rfl⟩ ⟨Nat.le_trans (show _ ≤ 610000 by omega) (Nat.le_of_ble_eq_true rfl), Nat.le_trans (show _ ≤ 7050000 by omega) (Nat.le_of_ble_eq_true rfl)⟩ rfl rfl (Nat.le_of_ble_eq_true rfl) dL_law_1489 ?_
                                                      refine j_dstore C [(0, .ref b), (1, .ref (B + 0)), (2, .ref (B + 225)), (3, .ref (B + 235)), (4, .int y4), (5, .double x432), (7, .double x435)] [1, 2, 3, 4, 5, 6, 0] dL_law_1492 (by decide) rfl ?_
                                                      refine j_dload C (q := 5) dL_law_1494 rfl ?_
                                                      refine j_dload C (q := 6) dL_law_1496 rfl ?_
                                                      refine j_dcmp C dL_law_1498 ?_
                                                      refine j_if_eq C (tgt := 1520) dL_law_1499 (by decide) (fun c438 => ?_) (fun c438 => ?_)
                                                      · have h := ite_t h c438
                                                        refine j_goto C (tgt := 1537) dL_law_1520 (by decide) ?_
                                                        obtain ⟨x439, ex439⟩ : ∃ y : Int32, y = (y4 + 5) := ⟨_, rfl⟩
                                                        have h := lt_at h ex439
                                                        refine j_iinc C (q := 4) [(0, .ref b), (1, .ref (B + 0)), (2, .ref (B + 225)), (3, .ref (B + 235)), (4, .int x439), (5, .double x432), (7, .double x435)] [1, 2, 3, 4, 0, 5, 6] dL_law_1537 rfl (by rw [ex439]; rfl) (by decide) rfl ?_
                                                        refine j_goto C (tgt := 23) dL_law_1540 (by decide) ?_
                                                        refine j_sub [0, 1, 2, 3, 4] rfl ?_
                                                        exact ih23 x439 _ _ _ (by omega) (by omega) h
                                                      · have h := ite_f h c438
                                                        refine j_dload C (q := 5) dL_law_1502 rfl ?_
                                                        refine j_dload C (q := 5) dL_law_1504 rfl ?_
                                                        refine j_dcmp C dL_law_1506 ?_
                                                        refine j_if_eq C (tgt := 1518) dL_law_1507 (by decide) (fun c440 => ?_) (fun c440 => ?_)
                                                        · have h := ite_t h c440
                                                          refine j_iconst C (v := 0) dL_law_1518 (by decide) ?_
                                                          exact absurd (Option.some.inj h) (by decide)
                                                        · have h := ite_f h c440
                                                          refine j_dload C (q := 6) dL_law_1510 rfl ?_
                                                          refine j_dload C (q := 6) dL_law_1512 rfl ?_
                                                          refine j_dcmp C dL_law_1514 ?_
                                                          refine j_if_ne C (tgt := 1520) dL_law_1515 (by decide) (fun c441 => ?_) (fun c441 => ?_)
                                                          · have h := ite_t h c441
                                                            refine j_iconst C (v := 0) dL_law_1518 (by decide) ?_
                                                            exact absurd (Option.some.inj h) (by decide)
                                                          · have h := ite_f h c441
                                                            refine j_goto C (tgt := 1537) dL_law_1520 (by decide) ?_
                                                            obtain ⟨x442, ex442⟩ : ∃ y : Int32, y = (y4 + 5) := ⟨_, rfl⟩
                                                            have h := lt_at h ex442
                                                            refine j_iinc C (q := 4) [(0, .ref b), (1, .ref (B + 0)), (2, .ref (B + 225)), (3, .ref (B + 235)), (4, .int x442), (5, .double x432), (7, .double x435)] [1, 2, 3, 4, 0, 5, 6] dL_law_1537 rfl (by rw [ex442]; rfl) (by decide) rfl ?_
                                                            refine j_goto C (tgt := 23) dL_law_1540 (by decide) ?_
                                                            refine j_sub [0, 1, 2, 3, 4] rfl ?_
                                                            exact ih23 x442 _ _ _ (by omega) (by omega) h
                                                    · have h := ite_f h c431
                                                      by_cases c443 : ((xs (tc y4)) &&& 31) = 23
                                                      · have h := ite_t h c443
                                                        refine j_tableIn C (tgt := 1523) dL_law_39 (by rw [c443]; decide) (by rw [c443]; decide) (by rw [c443]; rfl) (by decide) ?_
                                                        refine j_aload_n C (q := 1) dL_law_1523 rfl rfl ?_
                                                        obtain ⟨x444, t445, e446, h⟩ := bd_some h
                                                        refine j_callV_l C (i := 0) (As := []) (rest := []) (c_X6_digest l G B dy _ e446) (shp6 G B _ kA_0) (kd_lt kA_0 (by decide)) rfl tw_361 tw_362 tw_363 ti_6 tw_364 hd_X6_digest ⟨Nat.le_of_ble_eq_true rfl, Nat.le_of_ble_eq_true rfl⟩ ⟨Nat.le_trans (show _ ≤ 610000 by omega) (Nat.le_of_ble_eq_true rfl), Nat.le_trans (show _ ≤ 7050000 by omega) (Nat.le_of_ble_eq_true rfl)⟩ rfl rfl (Nat.le_of_ble_eq_true rfl) dL_law_1524 ?_
                                                        refine j_aload_n C (q := 2) dL_law_1527 rfl rfl ?_
                                                        obtain ⟨x447, t448, e449, h⟩ := bd_some h
                                                        refine j_callV_l C (i := 225) (As := []) (rest := [.long x444]) (c_X7_digest l G B dy _ e449) (shp7 G B _ kA_225) (kd_lt kA_225 (by decide)) rfl tw_1091 tw_1092 tw_1093 ti_7 tw_1094 hd_X7_digest ⟨Nat.le_of_ble_eq_true rfl, Nat.le_of_ble_eq_true rfl⟩ ⟨Nat.le_trans (show _ ≤ 610000 by omega) (Nat.le_of_ble_eq_true rfl), Nat.le_trans (show _ ≤ 7050000 by omega) (Nat.le_of_ble_eq_true rfl)⟩ rfl rfl (Nat.le_of_ble_eq_true rfl) dL_law_1528 ?_
                                                        refine j_lcmp C dL_law_1531 ?_
                                                        refine j_if_eq C (tgt := 1537) dL_law_1532 (by decide) (fun c450 => ?_) (fun c450 => ?_)
                                                        · have h := ite_t h c450
                                                          obtain ⟨x451, ex451⟩ : ∃ y : Int32, y = (y4 + 5) := ⟨_, rfl⟩
                                                          have h := lt_at h ex451
                                                          refine j_iinc C (q := 4) [(0, .ref b), (1, .ref (B + 0)), (2, .ref (B + 225)), (3, .ref (B + 235)), (4, .int x451)] [1, 2, 3, 4, 0] dL_law_1537 rfl (by rw [ex451]; rfl) (by decide) rfl ?_
                                                          refine j_goto C (tgt := 23) dL_law_1540 (by decide) ?_
                                                          exact ih23 x451 _ _ _ (by omega) (by omega) h
                                                        · have h := ite_f h c450
                                                          refine j_iconst C (v := 0) dL_law_1535 (by decide) ?_
                                                          exact absurd (Option.some.inj h) (by decide)
                                                      · have h := ite_f h c443
                                                        have nc63 := lv_neT c63 (show (0 : Int32).toInt = 0 by decide)
                                                        have nc79 := lv_neT c79 (show (1 : Int32).toInt = 1 by decide)
                                                        have nc95 := lv_neT c95 (show (2 : Int32).toInt = 2 by decide)
                                                        have nc115 := lv_neT c115 (show (3 : Int32).toInt = 3 by decide)
                                                        have nc135 := lv_neT c135 (show (4 : Int32).toInt = 4 by decide)
                                                        have nc155 := lv_neT c155 (show (5 : Int32).toInt = 5 by decide)
                                                        have nc173 := lv_neT c173 (show (6 : Int32).toInt = 6 by decide)
                                                        have nc191 := lv_neT c191 (show (7 : Int32).toInt = 7 by decide)
                                                        have nc209 := lv_neT c209 (show (8 : Int32).toInt = 8 by decide)
                                                        have nc218 := lv_neT c218 (show (9 : Int32).toInt = 9 by decide)
                                                        have nc227 := lv_neT c227 (show (10 : Int32).toInt = 10 by decide)
                                                        have nc243 := lv_neT c243 (show (11 : Int32).toInt = 11 by decide)
                                                        have nc265 := lv_neT c265 (show (12 : Int32).toInt = 12 by decide)
                                                        have nc285 := lv_neT c285 (show (13 : Int32).toInt = 13 by decide)
                                                        have nc291 := lv_neT c291 (show (14 : Int32).toInt = 14 by decide)
                                                        have nc311 := lv_neT c311 (show (15 : Int32).toInt = 15 by decide)
                                                        have nc329 := lv_neT c329 (show (16 : Int32).toInt = 16 by decide)
                                                        have nc349 := lv_neT c349 (show (17 : Int32).toInt = 17 by decide)
                                                        have nc367 := lv_neT c367 (show (18 : Int32).toInt = 18 by decide)
                                                        have nc373 := lv_neT c373 (show (19 : Int32).toInt = 19 by decide)
                                                        have nc391 := lv_neT c391 (show (20 : Int32).toInt = 20 by decide)
                                                        have nc411 := lv_neT c411 (show (21 : Int32).toInt = 21 by decide)
                                                        have nc431 := lv_neT c431 (show (22 : Int32).toInt = 22 by decide)
                                                        have nc443 := lv_neT c443 (show (23 : Int32).toInt = 23 by decide)
                                                        refine j_tableOut C (x := ((xs (tc y4)) &&& 31)) (tgt := 1537) dL_law_39 (by omega) (by decide) ?_
                                                        obtain ⟨x452, ex452⟩ : ∃ y : Int32, y = (y4 + 5) := ⟨_, rfl⟩
                                                        have h := lt_at h ex452
                                                        refine j_iinc C (q := 4) [(0, .ref b), (1, .ref (B + 0)), (2, .ref (B + 225)), (3, .ref (B + 235)), (4, .int x452)] [1, 2, 3, 4, 0] dL_law_1537 rfl (by rw [ex452]; rfl) (by decide) rfl ?_
                                                        refine j_goto C (tgt := 23) dL_law_1540 (by decide) ?_
                                                        exact ih23 x452 _ _ _ (by omega) (by omega) h
  exact J23
