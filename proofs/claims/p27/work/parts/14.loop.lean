/-! THE CLAIM OUT OF ONE WALK OF THE LAW'S BODY -/
def R_law : String := "RunicSticksLaw"
def lw_P (b : Addr) (xs : List Int32) (args : Array Value) (s : State) : Prop := args = #[.ref b] ∧ s.IntsAt b xs ∧ xs.length ≤ 260 ∧ (Jvm.Cond.and given_1 narrow_1).before args s = true
/-- what a walk over the start with the record d0 says of its end, said of the start itself -/
theorem lw_closed {s t : State} {o : Outcome} {d0 : Drawn} {L : List Loc} {k n : Nat} (hd0 : s.drawn.sameBut d0 lw_cs) (hv : ∃ v, o = .returned v) (hW : (s.setDrawn d0).WarmedH t.vm) (hs : (s.setDrawn d0).sameButNew ({ t with vm := s.vm } : State) L k n) : State.butDraws s t lw_cs (fun t1 => Framed s o t1 L k n) := by
  have h2 : t.drawn = d0 := congrArg State.drawn hs.1
  refine ⟨⟨hv, hW, State.sameButNew.setDrawn hs s.drawn⟩, ?_, by decide⟩
  rw [h2]
  exact hd0
def lw_Q (_ : Array Value) (s : State) (o : Outcome) (t : State) : Prop := o = .returned (some (.int 1)) ∧ State.butDraws s t lw_cs (fun t1 => Framed s o t1 [] room_1.cells room_1.slots)
def lw_Z (below : List Frame) (a : Array Value) (s : State) : State → Prop := fun t => ∃ o, t.status = .running ∧ Ended t below o ∧ lw_Q a s o t
/-- the law's own end, with 1 on the stack, nothing written that was there before, its room as the claim has it; d0: the record of draws at this point (at the entry s.drawn: begin with 'refine W.base ?_' and 'have hd0 := Drawn.sameBut.refl s.drawn lw_cs') -/
theorem lw_ret {p : Program} {l : Launch} {e : Env} {s : State} {m : MethodId} {below : List Frame} {meth : Method} {c : Code} {b : Nat} {d0 : Drawn} (hd0 : s.drawn.sameBut d0 lw_cs) (hx : p.tables.exec = Jvm.exec) (hb : c.code = code) (hr : meth.sig.returnType = ret) (hlocks : meth.locks = false) {pc : Nat} {H : Heap} {ls : Array Slot} (hdg : decode code pc = .ok (.ireturn, 1)) : W p l e room_1 (s.setDrawn d0) m #[Value.ref b] below meth c H [] room_1.cells room_1.slots (lw_Z below #[Value.ref b] s) (F0 m pc ls [.int 1]) := by
  intro T hT X
  obtain ⟨fs, hret, hrun, hended, hW, hframe⟩ := X.leave (v := some (.int 1)) (hlocks := hlocks) (fun h => by rw [hr] at h; cases h)
  have hmeth' : T.vm.method? m = some meth := X.method'
  refine ⟨T.setFrames fs, ?_, .returned (some (.int 1)), hrun, hended, rfl, lw_closed hd0 ⟨_, rfl⟩ hW hframe⟩
  jvm_step X.here [X.here.top, hx, hb, hdg, hmeth', hr, ret, narrow_b1]
  (try refine ⟨rfl, ?_⟩); (try refine ⟨rfl, ?_⟩)
  first | (intro acts; rw [hret _ acts rfl rfl rfl]) | rw [hret _ _ rfl rfl rfl]
  exact Steps.refl _
/-- what holds at the law's entry: the machine, the code, the tables' words (any of lw_tbl by 'hts w (by decide +kernel)'), the script of L ints xs at the cell b, what the Statement gives of the start (any of its parts by flat_of_before) -/
def lw_At (p : Program) (s : State) (m : MethodId) (meth : Method) (c : Code) (b L : Nat) (xs : Nat → Int32) : Prop :=
  p.tables.exec = Jvm.exec ∧ c.code = code ∧ meth.sig.returnType = ret ∧ c.maxLocals = 9 ∧ s.vm.findClass R_law = some m.cls ∧ (∀ w ∈ lw_tbl, w.before #[Value.ref b] s = true) ∧ va_X b L xs s s.heap ∧ b < s.heap.size ∧ meth.locks = false ∧ (Jvm.Cond.and given_1 narrow_1).before #[Value.ref b] s = true

section JLL
variable {G : GG} {B dy : Nat} {cc : ByteArray} {nL : Nat} {p : Program} {l : Launch} {e : Env} {R : Room} {s : State} {m : MethodId} {args : Array Value} {below : List Frame} {meth : Method} {c : Code} {k n : Nat} {Q : State → Prop}
variable {pc : Nat} {lv : List (Nat × Value)} {st : List Value} {σ : St}
theorem j_law_end {b kc nc : Nat} (C : Cx G B dy RL code 9 p s m #[Value.ref b] c) (hB : B = s.heap.size) (hr : meth.sig.returnType = ret) (hlk : meth.locks = false) (d : decode code pc = .ok (.ireturn, 1)) (hk : kc ≤ room_1.cells) (hn : nc ≤ room_1.slots) : WW G B p l e room_1 s m #[Value.ref b] below meth c kc nc (lw_Z below #[Value.ref b] s) 9 pc lv [.int 1] σ := fun H locs ls hP hS hl =>
  va_forget (fun q hq => by have h := hS.2.2 q hq; rw [hB] at h; exact h) (W.widen hk hn (W.base (lw_ret (Drawn.sameBut.refl s.drawn lw_cs) C.1 C.2.1 hr hlk d)))
end JLL
/-! the law as a function -/
def f_L_law_b200 (xs : Nat → Int32) (L : Nat) (K10 : Int32 → St → Option Int32) (y2 : Int32) (y7 : Int32) (t0 : St) : Option Int32 :=
  (if (rm y2 9) = 4 then bd (f_L_isAlikeSo y7 t0) fun x23 t24 => (if x23 = 0 then some 0 else lt (y2 + 1) fun x27 => K10 x27 t24) else lt (y2 + 1) fun x22 => K10 x22 t0)
def f_L_law_b174 (xs : Nat → Int32) (L : Nat) (K10 : Int32 → St → Option Int32) (y2 : Int32) (y3 : Int32) (y7 : Int32) (t0 : St) : Option Int32 :=
  (if (rm y2 11) = 7 then bd (f_L_low (y3 >>> ((6 : Int32) &&& 31)) 3 t0) fun x29 t30 => bd (f_L_isPeaceSo x29 y7 t30) fun x32 t33 => (if x32 = 0 then some 0 else f_L_law_b200 xs L K10 y2 y7 t33) else f_L_law_b200 xs L K10 y2 y7 t0)
def f_L_law_b151 (xs : Nat → Int32) (L : Nat) (K10 : Int32 → St → Option Int32) (y2 : Int32) (y3 : Int32) (y7 : Int32) (t0 : St) : Option Int32 :=
  bd (f_L_areQuarrelsSo y7 t0) fun x36 t37 => (if x36 = 0 then some 0 else (if (rm y2 4) = 2 then bd (f_L_areSticksSo t37) fun x41 t42 => (if x41 = 0 then some 0 else f_L_law_b174 xs L K10 y2 y3 y7 t42) else f_L_law_b174 xs L K10 y2 y3 y7 t37))
def f_L_law_b120 (xs : Nat → Int32) (L : Nat) (K10 : Int32 → St → Option Int32) (y2 : Int32) (y3 : Int32) (y7 : Int32) (w0 : Int32) (t0 : St) : Option Int32 :=
  (if w0 = 0 then some 0 else (if (rm y2 2) = 1 then bd (f_L_low (y3 >>> ((8 : Int32) &&& 31)) 3 t0) fun x47 t48 => bd (f_L_areNotchesSo y7 x47 t48) fun x50 t51 => (if x50 = 0 then some 0 else f_L_law_b151 xs L K10 y2 y3 y7 t51) else f_L_law_b151 xs L K10 y2 y3 y7 t0))
def f_L_law_b119 (xs : Nat → Int32) (L : Nat) (K10 : Int32 → St → Option Int32) (y2 : Int32) (y3 : Int32) (y7 : Int32) (t0 : St) : Option Int32 :=
  f_L_law_b120 xs L K10 y2 y3 y7 0 t0
def f_L_law_b81 (xs : Nat → Int32) (L : Nat) (K10 : Int32 → St → Option Int32) (y2 : Int32) (y3 : Int32) (y4 : Int32) (y6 : Int32) (y7 : Int32) (t0 : St) : Option Int32 :=
  (if y4 < 10 then f_L_law_b120 xs L K10 y2 y3 y7 1 t0 else (if 12 < y4 then f_L_law_b120 xs L K10 y2 y3 y7 1 t0 else bd (f_X6_stick 0 3 t0) fun x56 t57 => (if x56 = 0 then bd (f_X6_stick 0 2 t57) fun x60 t61 => (if x60 = y6 then f_L_law_b120 xs L K10 y2 y3 y7 1 t61 else f_L_law_b119 xs L K10 y2 y3 y7 t61) else f_L_law_b119 xs L K10 y2 y3 y7 t57)))
def f_L_law_b78 (xs : Nat → Int32) (L : Nat) (K10 : Int32 → St → Option Int32) (y2 : Int32) (y3 : Int32) (y4 : Int32) (y6 : Int32) (y7 : Int32) (w0 : Int32) (w1 : Int32) (t0 : St) : Option Int32 :=
  (if w1 = w0 then f_L_law_b81 xs L K10 y2 y3 y4 y6 y7 t0 else f_L_law_b119 xs L K10 y2 y3 y7 t0)
def f_L_law_b10 (xs : Nat → Int32) (L : Nat) (K10 : Int32 → St → Option Int32) (y2 : Int32) (t0 : St) : Option Int32 :=
  (if 52 ≤ y2 then some 1 else bd (f_L_cell xs L y2 t0) fun x66 t67 => lt (x66 &&& 15) fun x69 => bd (f_X6_count 0 t67) fun x70 t71 => bd (f_L_does x66 t71) fun x73 t74 => bd (f_L_low (x66 >>> ((5 : Int32) &&& 31)) 1000 t74) fun x76 t77 => (if x73 < 0 then f_L_law_b119 xs L K10 y2 x66 x76 t77 else (if 4 < x69 then f_L_law_b81 xs L K10 y2 x66 x69 x73 x76 t77 else (if 10 ≤ x70 then f_L_law_b78 xs L K10 y2 x66 x69 x73 x76 0 x73 t77 else f_L_law_b78 xs L K10 y2 x66 x69 x73 x76 1 x73 t77))))
def f_L_law_l10 (xs : Nat → Int32) (L : Nat) : Nat → Int32 → St → Option Int32
  | 0, _, _ => none
  | g + 1, y2, t0 => f_L_law_b10 xs L (f_L_law_l10 xs L g) y2 t0
set_option maxRecDepth 100000 in
set_option maxHeartbeats 40000000 in
theorem law_loop {G : GG} {B dy : Nat} {p : Program} {l : Launch} {e : Env} {s : State} {m : MethodId} {below : List Frame} {meth : Method} {c : Code} {b L : Nat} {xs : Nat → Int32} (C : Cx G B dy RL code 9 p s m #[Value.ref b] c) (hB : B = s.heap.size) (hr : meth.sig.returnType = ret) (hlk : meth.locks = false) (SB : ScrB B b L xs s) {kc nc : Nat} (hkc : kc ≤ room_1.cells) (hnc : nc ≤ room_1.slots) :
    ∀ (n10 : Nat) (y2 : Int32) (t0 : St), f_L_law_l10 xs L n10 y2 t0 = some 1 → WW G B p l e room_1 s m #[Value.ref b] below meth c kc nc (lw_Z below #[Value.ref b] s) 9 10 [(0, .ref b), (1, .ref (B + 0)), (2, .int y2)] [] t0 := by
  have J10 : ∀ (n10 : Nat) (y2 : Int32) (t0 : St), f_L_law_l10 xs L n10 y2 t0 = some 1 → WW G B p l e room_1 s m #[Value.ref b] below meth c kc nc (lw_Z below #[Value.ref b] s) 9 10 [(0, .ref b), (1, .ref (B + 0)), (2, .int y2)] [] t0 := by
    intro n10
    induction n10 with
    | zero => intro y2 t0 h; exact (no_some h).elim
    | succ n10 ih10 =>
      try clear h
      have J200 : ∀ (y2 : Int32) (y7 : Int32) (t0 : St), f_L_law_b200 xs L (f_L_law_l10 xs L n10) y2 y7 t0 = some 1 → WW G B p l e room_1 s m #[Value.ref b] below meth c kc nc (lw_Z below #[Value.ref b] s) 9 200 [(0, .ref b), (1, .ref (B + 0)), (2, .int y2), (7, .int y7)] [] t0 := by
        intro y2 y7 t0 h
        refine j_iload_n C (q := 2) dL_law_200 rfl rfl ?_
        refine j_bipush C (v := 9) dL_law_201 (by decide) ?_
        refine j_irem C dL_law_203 (by decide) ?_
        refine j_iconst C (v := 4) dL_law_204 (by decide) ?_
        refine j_icmp_ne C (tgt := 219) dL_law_205 (by decide) (fun c21 => ?_) (fun c21 => ?_)
        · have h := ite_t h c21
          refine j_aload_n C (q := 1) dL_law_208 rfl rfl ?_
          refine j_iload C (q := 3) dL_law_209 rfl ?_
          obtain ⟨x23, t24, e25, h⟩ := bd_some h
          refine j_callS_i C (i := 0) (As := [.ref (B + 0), .int y7]) (rest := []) (c_L_isAlikeSo l G B dy y7 _ e25) tw_691 tw_692 ti_L tw_693 ⟨rfl, hd_L_isAlikeSo⟩ ⟨Nat.le_of_ble_eq_true rfl, Nat.le_of_ble_eq_true rfl⟩ ⟨hkc, hnc⟩ rfl rfl (Nat.le_of_ble_eq_true rfl) dL_law_211 ?_
          refine j_if_ne C (tgt := 219) dL_law_214 (by decide) (fun c26 => ?_) (fun c26 => ?_)
          · have h := ite_t h c26
            refine j_iconst C (v := 0) dL_law_217 (by decide) ?_
            exact absurd (Option.some.inj h) (by decide)
          · have h := ite_f h c26
            obtain ⟨x27, ex27⟩ : ∃ y : Int32, y = (y2 + 1) := ⟨_, rfl⟩
            have h := lt_at h ex27
            refine j_iinc C (q := 2) [(0, .ref b), (1, .ref (B + 0)), (2, .int x27), (7, .int y7)] [1, 2, 0, 3] dL_law_219 rfl (by rw [ex27]; rfl) (by decide) rfl ?_
            refine j_goto C (tgt := 10) dL_law_222 (by decide) ?_
            refine j_sub [0, 1, 2] rfl ?_
            exact ih10 x27 _ h
        · have h := ite_f h c21
          obtain ⟨x22, ex22⟩ : ∃ y : Int32, y = (y2 + 1) := ⟨_, rfl⟩
          have h := lt_at h ex22
          refine j_iinc C (q := 2) [(0, .ref b), (1, .ref (B + 0)), (2, .int x22), (7, .int y7)] [1, 2, 0, 3] dL_law_219 rfl (by rw [ex22]; rfl) (by decide) rfl ?_
          refine j_goto C (tgt := 10) dL_law_222 (by decide) ?_
          refine j_sub [0, 1, 2] rfl ?_
          exact ih10 x22 _ h
      have J174 : ∀ (y2 : Int32) (y3 : Int32) (y7 : Int32) (t0 : St), f_L_law_b174 xs L (f_L_law_l10 xs L n10) y2 y3 y7 t0 = some 1 → WW G B p l e room_1 s m #[Value.ref b] below meth c kc nc (lw_Z below #[Value.ref b] s) 9 174 [(0, .ref b), (1, .ref (B + 0)), (2, .int y2), (3, .int y3), (7, .int y7)] [] t0 := by
        intro y2 y3 y7 t0 h
        refine j_iload_n C (q := 2) dL_law_174 rfl rfl ?_
        refine j_bipush C (v := 11) dL_law_175 (by decide) ?_
        refine j_irem C dL_law_177 (by decide) ?_
        refine j_bipush C (v := 7) dL_law_178 (by decide) ?_
        refine j_icmp_ne C (tgt := 200) dL_law_180 (by decide) (fun c28 => ?_) (fun c28 => ?_)
        · have h := ite_t h c28
          refine j_aload_n C (q := 1) dL_law_183 rfl rfl ?_
          refine j_iload_n C (q := 3) dL_law_184 rfl rfl ?_
          refine j_bipush C (v := 6) dL_law_185 (by decide) ?_
          refine j_ishr C dL_law_187 ?_
          refine j_iconst C (v := 3) dL_law_188 (by decide) ?_
          obtain ⟨x29, t30, e31, h⟩ := bd_some h
          refine j_callS_i C (i := 0) (As := [.int (y3 >>> ((6 : Int32) &&& 31)), .int 3]) (rest := [.ref (B + 0)]) (c_L_low l G B dy (y3 >>> ((6 : Int32) &&& 31)) 3 _ e31) tw_407 tw_408 ti_L tw_409 ⟨rfl, hd_L_low⟩ ⟨Nat.le_of_ble_eq_true rfl, Nat.le_of_ble_eq_true rfl⟩ ⟨hkc, hnc⟩ rfl rfl (Nat.le_of_ble_eq_true rfl) dL_law_189 ?_
          refine j_iload C (q := 4) dL_law_192 rfl ?_
          obtain ⟨x32, t33, e34, h⟩ := bd_some h
          refine j_callS_i C (i := 0) (As := [.ref (B + 0), .int x29, .int y7]) (rest := []) (c_L_isPeaceSo l G B dy x29 y7 _ e34) tw_666 tw_667 ti_L tw_668 ⟨rfl, hd_L_isPeaceSo⟩ ⟨Nat.le_of_ble_eq_true rfl, Nat.le_of_ble_eq_true rfl⟩ ⟨hkc, hnc⟩ rfl rfl (Nat.le_of_ble_eq_true rfl) dL_law_194 ?_
          refine j_if_eq C (tgt := 217) dL_law_197 (by decide) (fun c35 => ?_) (fun c35 => ?_)
          · have h := ite_t h c35
            refine j_iconst C (v := 0) dL_law_217 (by decide) ?_
            exact absurd (Option.some.inj h) (by decide)
          · have h := ite_f h c35
            refine j_sub [0, 1, 2, 4] rfl ?_
            exact J200 y2 y7 _ h
        · have h := ite_f h c28
          refine j_sub [0, 1, 2, 4] rfl ?_
          exact J200 y2 y7 _ h
      have J151 : ∀ (y2 : Int32) (y3 : Int32) (y7 : Int32) (t0 : St), f_L_law_b151 xs L (f_L_law_l10 xs L n10) y2 y3 y7 t0 = some 1 → WW G B p l e room_1 s m #[Value.ref b] below meth c kc nc (lw_Z below #[Value.ref b] s) 9 151 [(0, .ref b), (1, .ref (B + 0)), (2, .int y2), (3, .int y3), (7, .int y7)] [] t0 := by
        intro y2 y3 y7 t0 h
        refine j_aload_n C (q := 1) dL_law_151 rfl rfl ?_
        refine j_iload C (q := 4) dL_law_152 rfl ?_
        obtain ⟨x36, t37, e38, h⟩ := bd_some h
        refine j_callS_i C (i := 0) (As := [.ref (B + 0), .int y7]) (rest := []) (c_L_areQuarrelsSo l G B dy y7 _ e38) tw_640 tw_641 ti_L tw_642 ⟨rfl, hd_L_areQuarrelsSo⟩ ⟨Nat.le_of_ble_eq_true rfl, Nat.le_of_ble_eq_true rfl⟩ ⟨hkc, hnc⟩ rfl rfl (Nat.le_of_ble_eq_true rfl) dL_law_154 ?_
        refine j_if_eq C (tgt := 217) dL_law_157 (by decide) (fun c39 => ?_) (fun c39 => ?_)
        · have h := ite_t h c39
          refine j_iconst C (v := 0) dL_law_217 (by decide) ?_
          exact absurd (Option.some.inj h) (by decide)
        · have h := ite_f h c39
          refine j_iload_n C (q := 2) dL_law_160 rfl rfl ?_
          refine j_iconst C (v := 4) dL_law_161 (by decide) ?_
          refine j_irem C dL_law_162 (by decide) ?_
          refine j_iconst C (v := 2) dL_law_163 (by decide) ?_
          refine j_icmp_ne C (tgt := 174) dL_law_164 (by decide) (fun c40 => ?_) (fun c40 => ?_)
          · have h := ite_t h c40
            refine j_aload_n C (q := 1) dL_law_167 rfl rfl ?_
            obtain ⟨x41, t42, e43, h⟩ := bd_some h
            refine j_callS_i C (i := 0) (As := [.ref (B + 0)]) (rest := []) (c_L_areSticksSo l G B dy _ e43) tw_655 tw_656 ti_L tw_657 ⟨rfl, hd_L_areSticksSo⟩ ⟨Nat.le_of_ble_eq_true rfl, Nat.le_of_ble_eq_true rfl⟩ ⟨hkc, hnc⟩ rfl rfl (Nat.le_of_ble_eq_true rfl) dL_law_168 ?_
            refine j_if_eq C (tgt := 217) dL_law_171 (by decide) (fun c44 => ?_) (fun c44 => ?_)
            · have h := ite_t h c44
              refine j_iconst C (v := 0) dL_law_217 (by decide) ?_
              exact absurd (Option.some.inj h) (by decide)
            · have h := ite_f h c44
              exact J174 y2 y3 y7 _ h
          · have h := ite_f h c40
            exact J174 y2 y3 y7 _ h
      have J120 : ∀ (y2 : Int32) (y3 : Int32) (y7 : Int32) (w0 : Int32) (t0 : St), f_L_law_b120 xs L (f_L_law_l10 xs L n10) y2 y3 y7 w0 t0 = some 1 → WW G B p l e room_1 s m #[Value.ref b] below meth c kc nc (lw_Z below #[Value.ref b] s) 9 120 [(0, .ref b), (1, .ref (B + 0)), (2, .int y2), (3, .int y3), (7, .int y7)] [.int w0] t0 := by
        intro y2 y3 y7 w0 t0 h
        refine j_istore C [(0, .ref b), (1, .ref (B + 0)), (2, .int y2), (3, .int y3), (7, .int y7), (8, .int w0)] [1, 2, 3, 4, 5, 0] dL_law_120 (by decide) rfl ?_
        refine j_iload C (q := 5) dL_law_122 rfl ?_
        refine j_if_eq C (tgt := 217) dL_law_124 (by decide) (fun c45 => ?_) (fun c45 => ?_)
        · have h := ite_t h c45
          refine j_iconst C (v := 0) dL_law_217 (by decide) ?_
          exact absurd (Option.some.inj h) (by decide)
        · have h := ite_f h c45
          refine j_iload_n C (q := 2) dL_law_127 rfl rfl ?_
          refine j_iconst C (v := 2) dL_law_128 (by decide) ?_
          refine j_irem C dL_law_129 (by decide) ?_
          refine j_iconst C (v := 1) dL_law_130 (by decide) ?_
          refine j_icmp_ne C (tgt := 151) dL_law_131 (by decide) (fun c46 => ?_) (fun c46 => ?_)
          · have h := ite_t h c46
            refine j_aload_n C (q := 1) dL_law_134 rfl rfl ?_
            refine j_iload C (q := 4) dL_law_135 rfl ?_
            refine j_iload_n C (q := 3) dL_law_137 rfl rfl ?_
            refine j_bipush C (v := 8) dL_law_138 (by decide) ?_
            refine j_ishr C dL_law_140 ?_
            refine j_iconst C (v := 3) dL_law_141 (by decide) ?_
            obtain ⟨x47, t48, e49, h⟩ := bd_some h
            refine j_callS_i C (i := 0) (As := [.int (y3 >>> ((8 : Int32) &&& 31)), .int 3]) (rest := [.int y7, .ref (B + 0)]) (c_L_low l G B dy (y3 >>> ((8 : Int32) &&& 31)) 3 _ e49) tw_407 tw_408 ti_L tw_409 ⟨rfl, hd_L_low⟩ ⟨Nat.le_of_ble_eq_true rfl, Nat.le_of_ble_eq_true rfl⟩ ⟨hkc, hnc⟩ rfl rfl (Nat.le_of_ble_eq_true rfl) dL_law_142 ?_
            obtain ⟨x50, t51, e52, h⟩ := bd_some h
            refine j_callS_i C (i := 0) (As := [.ref (B + 0), .int y7, .int x47]) (rest := []) (c_L_areNotchesSo l G B dy y7 x47 _ e52) tw_588 tw_589 ti_L tw_590 ⟨rfl, hd_L_areNotchesSo⟩ ⟨Nat.le_of_ble_eq_true rfl, Nat.le_of_ble_eq_true rfl⟩ ⟨hkc, hnc⟩ rfl rfl (Nat.le_of_ble_eq_true rfl) dL_law_145 ?_
            refine j_if_eq C (tgt := 217) dL_law_148 (by decide) (fun c53 => ?_) (fun c53 => ?_)
            · have h := ite_t h c53
              refine j_iconst C (v := 0) dL_law_217 (by decide) ?_
              exact absurd (Option.some.inj h) (by decide)
            · have h := ite_f h c53
              refine j_sub [0, 1, 2, 3, 4] rfl ?_
              exact J151 y2 y3 y7 _ h
          · have h := ite_f h c46
            refine j_sub [0, 1, 2, 3, 4] rfl ?_
            exact J151 y2 y3 y7 _ h
      have J119 : ∀ (y2 : Int32) (y3 : Int32) (y7 : Int32) (t0 : St), f_L_law_b119 xs L (f_L_law_l10 xs L n10) y2 y3 y7 t0 = some 1 → WW G B p l e room_1 s m #[Value.ref b] below meth c kc nc (lw_Z below #[Value.ref b] s) 9 119 [(0, .ref b), (1, .ref (B + 0)), (2, .int y2), (3, .int y3), (7, .int y7)] [] t0 := by
        intro y2 y3 y7 t0 h
        refine j_iconst C (v := 0) dL_law_119 (by decide) ?_
        exact J120 y2 y3 y7 0 _ h
      have J81 : ∀ (y2 : Int32) (y3 : Int32) (y4 : Int32) (y6 : Int32) (y7 : Int32) (t0 : St), f_L_law_b81 xs L (f_L_law_l10 xs L n10) y2 y3 y4 y6 y7 t0 = some 1 → WW G B p l e room_1 s m #[Value.ref b] below meth c kc nc (lw_Z below #[Value.ref b] s) 9 81 [(0, .ref b), (1, .ref (B + 0)), (2, .int y2), (3, .int y3), (4, .int y4), (6, .int y6), (7, .int y7)] [] t0 := by
        intro y2 y3 y4 y6 y7 t0 h
        refine j_iload C (q := 4) dL_law_81 rfl ?_
        refine j_bipush C (v := 10) dL_law_83 (by decide) ?_
        refine j_icmp_lt C (tgt := 115) dL_law_85 (by decide) (fun c54 => ?_) (fun c54 => ?_)
        · have h := ite_t h c54
          refine j_iconst C (v := 1) dL_law_115 (by decide) ?_
          refine j_goto C (tgt := 120) dL_law_116 (by decide) ?_
          refine j_sub [0, 1, 2, 3, 6] rfl ?_
          exact J120 y2 y3 y7 1 _ h
        · have h := ite_f h c54
          refine j_iload C (q := 4) dL_law_88 rfl ?_
          refine j_bipush C (v := 12) dL_law_90 (by decide) ?_
          refine j_icmp_gt C (tgt := 115) dL_law_92 (by decide) (fun c55 => ?_) (fun c55 => ?_)
          · have h := ite_t h c55
            refine j_iconst C (v := 1) dL_law_115 (by decide) ?_
            refine j_goto C (tgt := 120) dL_law_116 (by decide) ?_
            refine j_sub [0, 1, 2, 3, 6] rfl ?_
            exact J120 y2 y3 y7 1 _ h
          · have h := ite_f h c55
            refine j_aload_n C (q := 1) dL_law_95 rfl rfl ?_
            refine j_iconst C (v := 0) dL_law_96 (by decide) ?_
            refine j_iconst C (v := 3) dL_law_97 (by decide) ?_
            obtain ⟨x56, t57, e58, h⟩ := bd_some h
            refine j_callV_i C (i := 0) (As := [.int 0, .int 3]) (rest := []) (c_X6_stick l G B dy 0 3 _ e58) (shp6 G B _ kA_0) (kd_lt kA_0 (by decide)) rfl tw_223 tw_224 tw_225 ti_6 tw_226 hd_X6_stick ⟨Nat.le_of_ble_eq_true rfl, Nat.le_of_ble_eq_true rfl⟩ ⟨hkc, hnc⟩ rfl rfl (Nat.le_of_ble_eq_true rfl) dL_law_98 ?_
            refine j_if_ne C (tgt := 119) dL_law_101 (by decide) (fun c59 => ?_) (fun c59 => ?_)
            · have h := ite_t h c59
              refine j_aload_n C (q := 1) dL_law_104 rfl rfl ?_
              refine j_iconst C (v := 0) dL_law_105 (by decide) ?_
              refine j_iconst C (v := 2) dL_law_106 (by decide) ?_
              obtain ⟨x60, t61, e62, h⟩ := bd_some h
              refine j_callV_i C (i := 0) (As := [.int 0, .int 2]) (rest := []) (c_X6_stick l G B dy 0 2 _ e62) (shp6 G B _ kA_0) (kd_lt kA_0 (by decide)) rfl tw_223 tw_224 tw_225 ti_6 tw_226 hd_X6_stick ⟨Nat.le_of_ble_eq_true rfl, Nat.le_of_ble_eq_true rfl⟩ ⟨hkc, hnc⟩ rfl rfl (Nat.le_of_ble_eq_true rfl) dL_law_107 ?_
              refine j_iload C (q := 5) dL_law_110 rfl ?_
              refine j_icmp_ne C (tgt := 119) dL_law_112 (by decide) (fun c63 => ?_) (fun c63 => ?_)
              · have h := ite_t h c63
                refine j_iconst C (v := 1) dL_law_115 (by decide) ?_
                refine j_goto C (tgt := 120) dL_law_116 (by decide) ?_
                refine j_sub [0, 1, 2, 3, 6] rfl ?_
                exact J120 y2 y3 y7 1 _ h
              · have h := ite_f h c63
                refine j_sub [0, 1, 2, 3, 6] rfl ?_
                exact J119 y2 y3 y7 _ h
            · have h := ite_f h c59
              refine j_sub [0, 1, 2, 3, 6] rfl ?_
              exact J119 y2 y3 y7 _ h
      have J78 : ∀ (y2 : Int32) (y3 : Int32) (y4 : Int32) (y6 : Int32) (y7 : Int32) (w0 : Int32) (w1 : Int32) (t0 : St), f_L_law_b78 xs L (f_L_law_l10 xs L n10) y2 y3 y4 y6 y7 w0 w1 t0 = some 1 → WW G B p l e room_1 s m #[Value.ref b] below meth c kc nc (lw_Z below #[Value.ref b] s) 9 78 [(0, .ref b), (1, .ref (B + 0)), (2, .int y2), (3, .int y3), (4, .int y4), (6, .int y6), (7, .int y7)] [.int w0, .int w1] t0 := by
        intro y2 y3 y4 y6 y7 w0 w1 t0 h
        refine j_icmp_ne C (tgt := 119) dL_law_78 (by decide) (fun c64 => ?_) (fun c64 => ?_)
        · have h := ite_t h c64
          exact J81 y2 y3 y4 y6 y7 _ h
        · have h := ite_f h c64
          refine j_sub [0, 1, 2, 3, 6] rfl ?_
          exact J119 y2 y3 y7 _ h
      intro y2 t0 h
      have h : f_L_law_b10 xs L (f_L_law_l10 xs L n10) y2 t0 = some 1 := h
      refine j_iload_n C (q := 2) dL_law_10 rfl rfl ?_
      refine j_bipush C (v := 52) dL_law_11 (by decide) ?_
      refine j_icmp_ge C (tgt := 225) dL_law_13 (by decide) (fun c65 => ?_) (fun c65 => ?_)
      · have h := ite_t h c65
        refine j_iconst C (v := 1) dL_law_225 (by decide) ?_
        exact j_law_end C hB hr hlk dL_law_226 hkc hnc
      · have h := ite_f h c65
        refine j_aload_n C (q := 0) dL_law_16 rfl rfl ?_
        refine j_iload_n C (q := 2) dL_law_17 rfl rfl ?_
        obtain ⟨x66, t67, e68, h⟩ := bd_some h
        refine j_callC C SB (As := [.ref b, .int y2]) (rest := []) (c_L_cell l G B dy b L xs y2 _ e68) tw_404 tw_405 ti_L tw_406 ⟨rfl, hd_L_cell⟩ ⟨Nat.le_of_ble_eq_true rfl, Nat.le_of_ble_eq_true rfl⟩ ⟨hkc, hnc⟩ rfl rfl (Nat.le_of_ble_eq_true rfl) dL_law_18 ?_
        refine j_istore_n C [(0, .ref b), (1, .ref (B + 0)), (2, .int y2), (3, .int x66)] [1, 2, 3, 0] dL_law_21 rfl (by decide) rfl ?_
        refine j_iload_n C (q := 3) dL_law_22 rfl rfl ?_
        refine j_bipush C (v := 15) dL_law_23 (by decide) ?_
        refine j_iand C dL_law_25 ?_
        refine j_topi (fun x69 ex69 => ?_)
        have h := lt_at h ex69
        refine j_istore C [(0, .ref b), (1, .ref (B + 0)), (2, .int y2), (3, .int x66), (4, .int x69)] [1, 2, 3, 4, 0] dL_law_26 (by decide) rfl ?_
        refine j_aload_n C (q := 1) dL_law_28 rfl rfl ?_
        refine j_iconst C (v := 0) dL_law_29 (by decide) ?_
        obtain ⟨x70, t71, e72, h⟩ := bd_some h
        refine j_callV_i C (i := 0) (As := [.int 0]) (rest := []) (c_X6_count l G B dy 0 _ e72) (shp6 G B _ kA_0) (kd_lt kA_0 (by decide)) rfl tw_392 tw_393 tw_394 ti_6 tw_395 hd_X6_count ⟨Nat.le_of_ble_eq_true rfl, Nat.le_of_ble_eq_true rfl⟩ ⟨hkc, hnc⟩ rfl rfl (Nat.le_of_ble_eq_true rfl) dL_law_30 ?_
        refine j_istore C [(0, .ref b), (1, .ref (B + 0)), (2, .int y2), (3, .int x66), (4, .int x69), (5, .int x70)] [1, 2, 3, 4, 5, 0] dL_law_33 (by decide) rfl ?_
        refine j_aload_n C (q := 1) dL_law_35 rfl rfl ?_
        refine j_iload_n C (q := 3) dL_law_36 rfl rfl ?_
        obtain ⟨x73, t74, e75, h⟩ := bd_some h
        refine j_callS_i C (i := 0) (As := [.ref (B + 0), .int x66]) (rest := []) (c_L_does l G B dy x66 _ e75) tw_411 tw_412 ti_L tw_413 ⟨rfl, hd_L_does⟩ ⟨Nat.le_of_ble_eq_true rfl, Nat.le_of_ble_eq_true rfl⟩ ⟨hkc, hnc⟩ rfl rfl (Nat.le_of_ble_eq_true rfl) dL_law_37 ?_
        refine j_istore C [(0, .ref b), (1, .ref (B + 0)), (2, .int y2), (3, .int x66), (4, .int x69), (5, .int x70), (6, .int x73)] [1, 2, 3, 4, 5, 6, 0] dL_law_40 (by decide) rfl ?_
        refine j_iload_n C (q := 3) dL_law_42 rfl rfl ?_
        refine j_iconst C (v := 5) dL_law_43 (by decide) ?_
        refine j_ishr C dL_law_44 ?_
        refine j_sipush C (v := 1000) dL_law_45 (by decide) ?_
        obtain ⟨x76, t77, e78, h⟩ := bd_some h
        refine j_callS_i C (i := 0) (As := [.int (x66 >>> ((5 : Int32) &&& 31)), .int 1000]) (rest := []) (c_L_low l G B dy (x66 >>> ((5 : Int32) &&& 31)) 1000 _ e78) tw_407 tw_408 ti_L tw_409 ⟨rfl, hd_L_low⟩ ⟨Nat.le_of_ble_eq_true rfl, Nat.le_of_ble_eq_true rfl⟩ ⟨hkc, hnc⟩ rfl rfl (Nat.le_of_ble_eq_true rfl) dL_law_48 ?_
        refine j_istore C [(0, .ref b), (1, .ref (B + 0)), (2, .int y2), (3, .int x66), (4, .int x69), (5, .int x70), (6, .int x73), (7, .int x76)] [1, 2, 3, 4, 5, 6, 7, 0] dL_law_51 (by decide) rfl ?_
        refine j_iload C (q := 6) dL_law_53 rfl ?_
        refine j_if_lt C (tgt := 119) dL_law_55 (by decide) (fun c79 => ?_) (fun c79 => ?_)
        · have h := ite_t h c79
          refine j_sub [0, 1, 2, 3, 7] rfl ?_
          exact J119 y2 x66 x76 _ h
        · have h := ite_f h c79
          refine j_iload C (q := 4) dL_law_58 rfl ?_
          refine j_iconst C (v := 4) dL_law_60 (by decide) ?_
          refine j_icmp_gt C (tgt := 81) dL_law_61 (by decide) (fun c80 => ?_) (fun c80 => ?_)
          · have h := ite_t h c80
            refine j_sub [0, 1, 2, 3, 4, 6, 7] rfl ?_
            exact J81 y2 x66 x69 x73 x76 _ h
          · have h := ite_f h c80
            refine j_iload C (q := 6) dL_law_64 rfl ?_
            refine j_iload C (q := 5) dL_law_66 rfl ?_
            refine j_bipush C (v := 10) dL_law_68 (by decide) ?_
            refine j_icmp_ge C (tgt := 77) dL_law_70 (by decide) (fun c81 => ?_) (fun c81 => ?_)
            · have h := ite_t h c81
              refine j_iconst C (v := 0) dL_law_77 (by decide) ?_
              refine j_sub [0, 1, 2, 3, 4, 6, 7] rfl ?_
              exact J78 y2 x66 x69 x73 x76 0 x73 _ h
            · have h := ite_f h c81
              refine j_iconst C (v := 1) dL_law_73 (by decide) ?_
              refine j_goto C (tgt := 78) dL_law_74 (by decide) ?_
              refine j_sub [0, 1, 2, 3, 4, 6, 7] rfl ?_
              exact J78 y2 x66 x69 x73 x76 1 x73 _ h
  exact J10
