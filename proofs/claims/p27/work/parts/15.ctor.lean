/-! THE CONSTRUCTORS: a world that grows; its cells lie one behind another from B on -/
def wg (B n : Nat) (A : Nat → va_E) : va_W := (List.range n).map (fun i => (B + i, A i))
theorem wg_len (B n : Nat) (A : Nat → va_E) : (wg B n A).length = n := by simp [wg]
theorem wg_get (B : Nat) {n i : Nat} (A : Nat → va_E) (h : i < n) : (wg B n A)[i]? = some (B + i, A i) := by simp [wg, h]
theorem wg_at (B : Nat) {n i : Nat} {A : Nat → va_E} {x : va_E} (h : i < n) (e : A i = x) : (wg B n A)[i]? = some (B + i, x) := by rw [wg_get B A h, e]
theorem wg_of {B n k : Nat} {A : Nat → va_E} {q : Nat × va_E} (h : (wg B n A)[k]? = some q) : k < n ∧ q = (B + k, A k) := by
  have hk : k < n := by
    have := (List.getElem?_eq_some_iff.mp h).1
    rwa [wg_len] at this
  rw [wg_get B A hk] at h
  exact ⟨hk, (Option.some.inj h).symm⟩
theorem wg_cong {B n : Nat} {A A2 : Nat → va_E} (h : ∀ j, j < n → A j = A2 j) : wg B n A = wg B n A2 := List.map_congr_left fun j hj => by rw [h j (List.mem_range.mp hj)]
theorem wg_set {B n i : Nat} {A : Nat → va_E} {x : va_E} (h : i < n) : (wg B n A).set i (B + i, x) = wg B n (va_up A i x) := by
  apply List.ext_getElem?
  intro j
  by_cases hj : j = i
  · subst hj
    rw [List.getElem?_set_self (by rw [wg_len]; exact h), wg_get B _ h]
    simp [va_up]
  · rw [List.getElem?_set_ne (Ne.symm hj)]
    by_cases hl : j < n
    · rw [wg_get B _ hl, wg_get B _ hl]
      simp [va_up, hj]
    · rw [List.getElem?_eq_none (by rw [wg_len]; omega), List.getElem?_eq_none (by rw [wg_len]; omega)]
theorem wg_push (B n : Nat) (A : Nat → va_E) (e : va_E) : wg B n A ++ [(B + n, e)] = wg B (n + 1) (va_up A n e) := by
  have h : wg B (n + 1) (va_up A n e) = wg B n (va_up A n e) ++ [(B + n, va_up A n e n)] := by simp [wg, List.range_succ]
  have e1 : wg B n (va_up A n e) = wg B n A := wg_cong (fun j hj => by simp [va_up, Nat.ne_of_lt hj])
  rw [h, e1]
  simp [va_up]
theorem wg_D (B n : Nat) (A : Nat → va_E) : va_D (Ab B) (wg B n A) := by
  refine ⟨fun i j p q hi hj e => ?_, fun k q hk => ?_⟩
  · rw [(wg_of hi).2, (wg_of hj).2] at e
    have e : B + i = B + j := e
    omega
  · rw [(wg_of hk).2]
    exact Nat.le_add_right _ _
theorem wg_wl (G : GG) (B : Nat) (σ : St) : wg B NC (shp G B σ) = wl G B σ := rfl
def Xc (U : State) : Prop := va_AO RX5 U ∧ va_AO RX0 U
def Hc (G : GG) (B dy n : Nat) (A : Nat → va_E) (U : State) : Prop := va_P G.1 vwCl (wg B n A) U.heap ∧ U.heap.size = B + n ∧ va_K G.1 vwCl (tysG G) U ∧ Xt B dy U ∧ Xc U
theorem Hc.blind {G : GG} {B dy n : Nat} {A : Nat → va_E} {As : List Value} : FrameBlind (va_Pc As (Hc G B dy n A)) := fun a U g mk q => ⟨q.1, q.2.1, q.2.2.1, va_K.moved (u := U) (U := U.calling g mk a) (Vm.Alike.refl U.vm) q.2.2.2.1, q.2.2.2.2.1.blind g mk a, va_AO.moved (u := U) (U := U.calling g mk a) (Vm.Alike.refl U.vm) q.2.2.2.2.2.1, va_AO.moved (u := U) (U := U.calling g mk a) (Vm.Alike.refl U.vm) q.2.2.2.2.2.2⟩
def PostC (G : GG) (B n : Nat) (A : Nat → va_E) := va_Qv (fun _ : Unit => True) (fun _ t => va_P G.1 vwCl (wg B n A) t.heap) (Ab B)
abbrev CtC (l : Launch) (G : GG) (B dy : Nat) (y : MethodName) (cc : ByteArray) (maxL f lc mc ms : Nat) (As : List Value) (n : Nat) (A : Nat → va_E) (n2 : Nat) (A2 : Nat → va_E) : Prop :=
  Met l y (wq y cc maxL none) (RM f lc mc ms) (va_Pc As (Hc G B dy n A)) (PostC G B n2 A2) mc ms (Ab B)
def WC (G : GG) (B : Nat) (p : Program) (l : Launch) (e : Env) (R : Room) (s : State) (m : MethodId) (args : Array Value) (below : List Frame) (meth : Method) (c : Code) (k n9 : Nat) (Q : State → Prop) (nL : Nat) (pc : Nat) (lv : List (Nat × Value)) (st : List Value) (n : Nat) (A : Nat → va_E) : Prop :=
  ∀ (H : Heap) (locs : List Loc) (ls : Array Slot), va_P G.1 vwCl (wg B n A) H → va_S (Ab B) s.heap H locs → lv_has ls nL lv → W p l e R s m args below meth c H locs k n9 Q (F0 m pc ls st)
/-! the fresh objects: what they hold when made -/
def s1 : St := (fun i k => if kd i = 5 ∧ k = 6 then 300 else 0, fun _ => 0)
def mid (G : GG) (B : Nat) (σ : St) (A : Nat → va_E) (i : Nat) (e : va_E) : Nat → va_E := fun j => if j < i then A j else if j = i then e else shp G B σ j
def fin (G : GG) (B : Nat) (σ : St) (A : Nat → va_E) (i : Nat) : Nat → va_E := fun j => if j < i then A j else shp G B σ j
theorem mid_at (G : GG) (B : Nat) (σ : St) (A : Nat → va_E) (i : Nat) (e : va_E) : mid G B σ A i e i = e := by simp [mid]
theorem mid_up (G : GG) (B : Nat) (σ : St) (A : Nat → va_E) (i : Nat) (e x : va_E) : va_up (mid G B σ A i e) i x = mid G B σ A i x := by
  funext j
  by_cases h : j = i
  · subst h; simp [va_up, mid]
  · simp [va_up, mid, h]
theorem mid_fin (G : GG) (B : Nat) (σ : St) (A : Nat → va_E) {i n : Nat} (e x : va_E) (h : i < n) : fin G B σ (va_up (mid G B σ A i e) n x) n = mid G B σ A i e := by
  funext j
  by_cases hj : j < n
  · simp [fin, va_up, hj, Nat.ne_of_lt hj]
  · simp [fin, mid, hj, show ¬ j < i by omega, show ¬ j = i by omega]
theorem mid_new (G : GG) (B : Nat) (σ : St) (A : Nat → va_E) {i n : Nat} (e x : va_E) (h : i < n) (hx : x = shp G B σ n) : va_up (mid G B σ A i e) n x = mid G B σ A i e := by
  funext j
  by_cases hj : j = n
  · subst hj; simp [va_up, mid, hx, show ¬ j < i by omega, show ¬ j = i by omega]
  · simp [va_up, hj]
theorem mid_end (G : GG) (B : Nat) (σ : St) (A : Nat → va_E) {i : Nat} {e : va_E} (h : e = shp G B σ i) : mid G B σ A i e = fin G B σ A i := by
  funext j
  by_cases hj : j = i
  · subst hj; simp [mid, fin, h]
  · simp [mid, fin, hj]
theorem mid_0 (G : GG) (B : Nat) (σ : St) (A : Nat → va_E) {i : Nat} {e : va_E} (h : A i = e) : ∀ j, j < i + 1 → A j = mid G B σ A i e j := by
  intro j hj
  by_cases h2 : j = i
  · subst h2; simp [mid, h]
  · simp [mid, h2, show j < i by omega]
section JC2
variable {G : GG} {B dy : Nat} {own : String} {cc : ByteArray} {nL : Nat} {p : Program} {l : Launch} {e : Env} {R : Room} {s : State} {m : MethodId} {args : Array Value} {below : List Frame} {meth : Method} {c : Code} {k n9 : Nat} {Q : State → Prop}
variable {pc : Nat} {lv : List (Nat × Value)} {st : List Value} {n : Nat} {A : Nat → va_E}
theorem k_iconst (C : Cx G B dy own cc nL p s m args c) {z : Int} {v : Int32} (d : decode cc pc = .ok (.iconst z, 1)) (hv : Int32.ofInt z = v) (kk : WC G B p l e R s m args below meth c k n9 Q nL (pc + 1) lv (.int v :: st) n A) : WC G B p l e R s m args below meth c k n9 Q nL pc lv st n A := fun H locs ls hP hS hl => lv_iconst C.1 C.2.1 d hv (kk H locs ls hP hS hl)
theorem k_bipush (C : Cx G B dy own cc nL p s m args c) {z : Int} {v : Int32} (d : decode cc pc = .ok (.bipush z, 2)) (hv : (Int8.ofInt z).toInt32 = v) (kk : WC G B p l e R s m args below meth c k n9 Q nL (pc + 2) lv (.int v :: st) n A) : WC G B p l e R s m args below meth c k n9 Q nL pc lv st n A := fun H locs ls hP hS hl => lv_bipush C.1 C.2.1 d hv (kk H locs ls hP hS hl)
theorem k_sipush (C : Cx G B dy own cc nL p s m args c) {z : Int} {v : Int32} (d : decode cc pc = .ok (.sipush z, 3)) (hv : (Int16.ofInt z).toInt32 = v) (kk : WC G B p l e R s m args below meth c k n9 Q nL (pc + 3) lv (.int v :: st) n A) : WC G B p l e R s m args below meth c k n9 Q nL pc lv st n A := fun H locs ls hP hS hl => lv_sipush C.1 C.2.1 d hv (kk H locs ls hP hS hl)
theorem k_iload_n (C : Cx G B dy own cc nL p s m args c) {z : Fin 4} {i q : Nat} {x : Int32} (d : decode cc pc = .ok (.iload_n z, 1)) (hi : (z : Nat) = i) (hq : lv[q]? = some (i, .int x)) (kk : WC G B p l e R s m args below meth c k n9 Q nL (pc + 1) lv (.int x :: st) n A) : WC G B p l e R s m args below meth c k n9 Q nL pc lv st n A := fun H locs ls hP hS hl => lv_iload_n C.1 C.2.1 d hi (lv_at hl q hq) (kk H locs ls hP hS hl)
theorem k_aload_n (C : Cx G B dy own cc nL p s m args c) {z : Fin 4} {i q : Nat} {x : Nat} (d : decode cc pc = .ok (.aload_n z, 1)) (hi : (z : Nat) = i) (hq : lv[q]? = some (i, .ref x)) (kk : WC G B p l e R s m args below meth c k n9 Q nL (pc + 1) lv (.ref x :: st) n A) : WC G B p l e R s m args below meth c k n9 Q nL pc lv st n A := fun H locs ls hP hS hl => lv_aload_n C.1 C.2.1 d hi (lv_at hl q hq) (kk H locs ls hP hS hl)
theorem k_istore_n (C : Cx G B dy own cc nL p s m args c) {z : Fin 4} {i : Nat} {x : Int32} (lv2 : List (Nat × Value)) (ks : List Nat) (d : decode cc pc = .ok (.istore_n z, 1)) (hi : (z : Nat) = i) (hn : i < nL) (hl2 : lv_pick ((i, Value.int x) :: lv.filter (fun q => !(q.1 == i) && !(q.1 + 1 == i && q.2.category == 2))) ks = lv2) (kk : WC G B p l e R s m args below meth c k n9 Q nL (pc + 1) lv2 st n A) : WC G B p l e R s m args below meth c k n9 Q nL pc lv (.int x :: st) n A := fun H locs ls hP hS hl => lv_istore_n C.1 C.2.1 d hi hl hn rfl (fun ls2 hl3 => kk H locs ls2 hP hS (lv_sub hl3 ks hl2))
theorem k_astore_n (C : Cx G B dy own cc nL p s m args c) {z : Fin 4} {i : Nat} {x : Nat} (lv2 : List (Nat × Value)) (ks : List Nat) (d : decode cc pc = .ok (.astore_n z, 1)) (hi : (z : Nat) = i) (hn : i < nL) (hl2 : lv_pick ((i, Value.ref x) :: lv.filter (fun q => !(q.1 == i) && !(q.1 + 1 == i && q.2.category == 2))) ks = lv2) (kk : WC G B p l e R s m args below meth c k n9 Q nL (pc + 1) lv2 st n A) : WC G B p l e R s m args below meth c k n9 Q nL pc lv (.ref x :: st) n A := fun H locs ls hP hS hl => lv_astore_n C.1 C.2.1 d hi hl hn rfl (fun ls2 hl3 => kk H locs ls2 hP hS (lv_sub hl3 ks hl2))
theorem k_istore (C : Cx G B dy own cc nL p s m args c) {i : Nat} {x : Int32} (lv2 : List (Nat × Value)) (ks : List Nat) (d : decode cc pc = .ok (.istore i, 2)) (hn : i < nL) (hl2 : lv_pick ((i, Value.int x) :: lv.filter (fun q => !(q.1 == i) && !(q.1 + 1 == i && q.2.category == 2))) ks = lv2) (kk : WC G B p l e R s m args below meth c k n9 Q nL (pc + 2) lv2 st n A) : WC G B p l e R s m args below meth c k n9 Q nL pc lv (.int x :: st) n A := fun H locs ls hP hS hl => lv_istore C.1 C.2.1 d hl hn rfl (fun ls2 hl3 => kk H locs ls2 hP hS (lv_sub hl3 ks hl2))
theorem k_iinc (C : Cx G B dy own cc nL p s m args c) {i q : Nat} {z : Int} {x v : Int32} (lv2 : List (Nat × Value)) (ks : List Nat) (d : decode cc pc = .ok (.iinc i z, 3)) (hq : lv[q]? = some (i, .int x)) (hv : x + Int32.ofInt z = v) (hn : i < nL) (hl2 : lv_pick ((i, Value.int v) :: lv.filter (fun q => !(q.1 == i) && !(q.1 + 1 == i && q.2.category == 2))) ks = lv2) (kk : WC G B p l e R s m args below meth c k n9 Q nL (pc + 3) lv2 st n A) : WC G B p l e R s m args below meth c k n9 Q nL pc lv st n A := fun H locs ls hP hS hl => lv_iinc C.1 C.2.1 d hl hq hv hn rfl (fun ls2 hl3 => kk H locs ls2 hP hS (lv_sub hl3 ks hl2))
theorem k_dup (C : Cx G B dy own cc nL p s m args c) {va : Value} (d : decode cc pc = .ok (.dup, 1)) (hva : va.category = 1) (kk : WC G B p l e R s m args below meth c k n9 Q nL (pc + 1) lv (va :: va :: st) n A) : WC G B p l e R s m args below meth c k n9 Q nL pc lv (va :: st) n A := fun H locs ls hP hS hl => lv_dup C.1 C.2.1 d hva (kk H locs ls hP hS hl)
theorem k_goto (C : Cx G B dy own cc nL p s m args c) {off : Int} {tgt : Nat} (d : decode cc pc = .ok (.goto off, 3)) (ht : (pc : Int) + off = (tgt : Int)) (kk : WC G B p l e R s m args below meth c k n9 Q nL tgt lv st n A) : WC G B p l e R s m args below meth c k n9 Q nL pc lv st n A := fun H locs ls hP hS hl => lv_goto C.1 C.2.1 d ht (kk H locs ls hP hS hl)
theorem k_if_le (C : Cx G B dy own cc nL p s m args c) {x : Int32} {off : Int} {tgt : Nat} (d : decode cc pc = .ok (.ifCond .le off, 3)) (ht : (pc : Int) + off = (tgt : Int)) (kt : (x ≤ 0) → WC G B p l e R s m args below meth c k n9 Q nL tgt lv st n A) (kf : ¬ (x ≤ 0) → WC G B p l e R s m args below meth c k n9 Q nL (pc + 3) lv st n A) : WC G B p l e R s m args below meth c k n9 Q nL pc lv (.int x :: st) n A := fun H locs ls hP hS hl => lv_if_le C.1 C.2.1 d ht (fun h => kt h H locs ls hP hS hl) (fun h => kf h H locs ls hP hS hl)
theorem k_icmp_ge (C : Cx G B dy own cc nL p s m args c) {x y : Int32} {off : Int} {tgt : Nat} (d : decode cc pc = .ok (.if_icmp .ge off, 3)) (ht : (pc : Int) + off = (tgt : Int)) (kt : (y ≤ x) → WC G B p l e R s m args below meth c k n9 Q nL tgt lv st n A) (kf : ¬ (y ≤ x) → WC G B p l e R s m args below meth c k n9 Q nL (pc + 3) lv st n A) : WC G B p l e R s m args below meth c k n9 Q nL pc lv (.int y :: .int x :: st) n A := fun H locs ls hP hS hl => lv_icmp_ge C.1 C.2.1 d ht (fun h => kt h H locs ls hP hS hl) (fun h => kf h H locs ls hP hS hl)
theorem k_obj (C : Cx G B dy own cc nL p s m args c) {i index : Nat} (w1 : Cond.methodLink own index Lib.objectInit ∈ TG) (w2 : Cond.instanceMethod Lib.objectInit ∈ TG) (w3 : Cond.code Lib.objectInit ⟨#[0xb1]⟩ 1 none ∈ TG) (hR : 1 ≤ R.frames ∧ 12 ≤ R.locals) (d : decode cc pc = .ok (.invokespecial index, 3)) (kk : WC G B p l e R s m args below meth c k n9 Q nL (pc + 3) lv [] n A) : WC G B p l e R s m args below meth c k n9 Q nL pc lv [.ref (B + i)] n A := fun H locs ls hP hS hl => W.objInit (rest := []) C.1 C.2.1 C.2.2.2.1 (C.2.2.2.2.1 _ w1) (C.2.2.2.2.1 _ w2) (C.2.2.2.2.1 _ w3) rfl (hl.1.trans C.2.2.1.symm) rfl d hR.1 hR.2 (kk H locs ls hP hS hl)
theorem k_get (C : Cx G B dy own cc nL p s m args c) {ref Cn : String} {T : u_T} {N ci index i : Nat} {fs : List Value} (he : A i = .inr (ci, fs)) (hi : i < n) (hc : vwCl[ci]? = some (Cn, T, N)) (hin : ∀ w ∈ u_ws Cn T N, w ∈ TG) (f : Nat) (hk : f < N) (hlink : Cond.fieldLink own index ref (T f).2.1 (T f).2.2.1 ∈ TG) (hsame : ∀ x, s.fieldFound? (T f).1 (T f).2.1 (T f).2.2.1 = some x → s.fieldFound? ref (T f).2.1 (T f).2.2.1 = some x) {v : Value} (hv : fs[f]? = some v) (d : decode cc pc = .ok (.getfield index, 3)) (kk : WC G B p l e R s m args below meth c k n9 Q nL (pc + 3) lv (v :: st) n A) : WC G B p l e R s m args below meth c k n9 Q nL pc lv (.ref (B + i) :: st) n A := fun H locs ls hP hS hl => va_get C.1 C.2.1 C.2.2.2.2.1 hin C.2.2.2.1 C.2.2.2.2.2.1 hP i (wg_at B hi he) hc f hk (C.2.2.2.2.1 _ hlink) hsame hv d (kk H locs ls hP hS hl)
theorem k_put (C : Cx G B dy own cc nL p s m args c) {ref Cn : String} {T : u_T} {N ci index i : Nat} {fs : List Value} (he : A i = .inr (ci, fs)) (hi : i < n) (hc : vwCl[ci]? = some (Cn, T, N)) (hin : ∀ w ∈ u_ws Cn T N, w ∈ TG) (f : Nat) (hk : f < N) (hlink : Cond.fieldLink own index ref (T f).2.1 (T f).2.2.1 ∈ TG) (hsame : ∀ x, s.fieldFound? (T f).1 (T f).2.1 (T f).2.2.1 = some x → s.fieldFound? ref (T f).2.1 (T f).2.2.1 = some x) (ty0 : Nat → FieldType) (hty : ∀ k, k < N → parseFieldDescriptor (T k).2.2.1 = some (ty0 k)) (hnm : ∀ a, a < N → ∀ b, b < N → a ≠ b → (T a).2.1 ≠ (T b).2.1) (hfin : (T f).2.2.2 = false) {ty : FieldType} {v : Value} (hd : parseFieldDescriptor (T f).2.2.1 = some ty) (hn : narrow ty v = v) (hfit : fits ty v = true) (hl : f < fs.length) (d : decode cc pc = .ok (.putfield index, 3)) (kk : WC G B p l e R s m args below meth c k n9 Q nL (pc + 3) lv st n (va_up A i (.inr (ci, fs.set f v)))) : WC G B p l e R s m args below meth c k n9 Q nL pc lv (v :: .ref (B + i) :: st) n A := fun H locs ls hP hS hl9 => va_put C.1 C.2.1 C.2.2.2.2.1 hin ty0 hty hnm C.2.2.2.1 C.2.2.2.2.2.1 hP (wg_D B n A) hS i (wg_at B hi he) hc f hk (C.2.2.2.2.1 _ hlink) hsame hfin hd hn hfit hl d (fun H1 locs1 h1 _ h3 => kk H1 locs1 ls (by rw [← wg_set hi]; exact h1) h3 hl9)
theorem k_putF (C : Cx G B dy own cc nL p s m args c) (hini : meth.name = "<init>") {ref Cn : String} {T : u_T} {N ci index i : Nat} {fs : List Value} (he : A i = .inr (ci, fs)) (hi : i < n) (hc : vwCl[ci]? = some (Cn, T, N)) (hin : ∀ w ∈ u_ws Cn T N, w ∈ TG) (f : Nat) (hk : f < N) (hlink : Cond.fieldLink own index ref (T f).2.1 (T f).2.2.1 ∈ TG) (hsame : ∀ x, s.fieldFound? (T f).1 (T f).2.1 (T f).2.2.1 = some x → s.fieldFound? ref (T f).2.1 (T f).2.2.1 = some x) (ty0 : Nat → FieldType) (hty : ∀ k, k < N → parseFieldDescriptor (T k).2.2.1 = some (ty0 k)) (hnm : ∀ a, a < N → ∀ b, b < N → a ≠ b → (T a).2.1 ≠ (T b).2.1) (hfin : (T f).2.2.2 = true) (hdecl : (T f).1 = own) {ty : FieldType} {v : Value} (hd : parseFieldDescriptor (T f).2.2.1 = some ty) (hn : narrow ty v = v) (hfit : fits ty v = true) (hl : f < fs.length) (d : decode cc pc = .ok (.putfield index, 3)) (kk : WC G B p l e R s m args below meth c k n9 Q nL (pc + 3) lv st n (va_up A i (.inr (ci, fs.set f v)))) : WC G B p l e R s m args below meth c k n9 Q nL pc lv (v :: .ref (B + i) :: st) n A := fun H locs ls hP hS hl9 => va_putF C.1 C.2.1 C.2.2.2.2.1 hin ty0 hty hnm C.2.2.2.1 C.2.2.2.2.2.1 hP (wg_D B n A) hS i (wg_at B hi he) hc f hk (C.2.2.2.2.1 _ hlink) hsame hfin hini hdecl hd hn hfit hl d (fun H1 locs1 h1 _ h3 => kk H1 locs1 ls (by rw [← wg_set hi]; exact h1) h3 hl9)
theorem W_size {H : Heap} {locs : List Loc} {g : JFrame} (kk : H.size ≤ s.heap.size + k → W p l e R s m args below meth c H locs k n9 Q g) : W p l e R s m args below meth c H locs k n9 Q g := fun T hT X => kk (by have h := X.same.2.2.1; rw [← hT]; exact h) T hT X
theorem new_addr {D : va_G} {cl : List vw_C} {H1 : Heap} {q : Nat} {x : va_E} (hP1 : va_P D cl (wg B n A ++ [(q, x)]) H1) (hD1 : va_D (Ab B) (wg B n A ++ [(q, x)])) (hs : H1.size ≤ B + n + 1) : q = B + n := by
  have h1 : (wg B n A ++ [(q, x)])[n]? = some (q, x) := by
    rw [List.getElem?_append_right (by rw [wg_len]; exact Nat.le_refl _), wg_len, Nat.sub_self]; rfl
  have h2 : q < H1.size := (hP1 n _ h1).lt
  have h3 : B ≤ q := hD1.2 n _ h1
  rcases Nat.lt_or_ge q (B + n) with h4 | h4
  · have h5 : (wg B n A ++ [(q, x)])[q - B]? = some (B + (q - B), A (q - B)) := by
      rw [List.getElem?_append_left (by rw [wg_len]; omega)]
      exact wg_get B A (by omega)
    have h6 := hD1.1 (q - B) n _ _ h5 h1 (show B + (q - B) = q by omega)
    omega
  · omega
theorem wg_lt {D : va_G} {cl : List vw_C} {H : Heap} (h : va_P D cl (wg B n A) H) (hn : 0 < n) : B + n ≤ H.size := by
  have h1 := (h (n - 1) _ (wg_get B A (by omega))).lt
  have h1 : B + (n - 1) < H.size := h1
  omega
theorem k_new (C : Cx G B dy own cc nL p s m args c) (hz : s.heap.size + k = B + n) {Cn : String} {T : u_T} {N ci index : Nat} (hc : vwCl[ci]? = some (Cn, T, N)) (hin : ∀ w ∈ u_ws Cn T N, w ∈ TG) (ty : Nat → FieldType) (hty : ∀ k, k < N → parseFieldDescriptor (T k).2.2.1 = some (ty k)) (w1 : Cond.classLink own index Cn ∈ TG) (w2 : Cond.instantiable Cn N ∈ TG) (w3 : Cond.initialized Cn ∈ TG) {fs : List Value} (hfs : ∀ j, j < N → defaultValue (ty j) = vp_V fs j) (hR : k + 1 ≤ R.cells ∧ n9 + N ≤ R.slots) (d : decode cc pc = .ok (.new index, 3)) (kk : WC G B p l e R s m args below meth c (k + 1) (n9 + N) Q nL (pc + 3) lv (.ref (B + n) :: st) (n + 1) (va_up A n (.inr (ci, fs)))) : WC G B p l e R s m args below meth c k n9 Q nL pc lv st n A := fun H locs ls hP hS hl => va_new C.1 C.2.1 C.2.2.2.2.1 hin ty hty C.2.2.2.1 (C.2.2.2.2.1 _ w1) (C.2.2.2.2.1 _ w2) (C.2.2.2.2.1 _ w3) C.2.2.2.2.2.1 hP (wg_D B n A) hS (fun q h => Nat.le_trans C.2.2.2.2.2.2.2 h) hc hfs hR.1 hR.2 d (fun q H1 h1 h2 h3 => W_size fun hs => by
    obtain rfl := new_addr h1 h2 (by omega)
    rw [wg_push] at h1
    exact kk H1 locs ls h1 h3 hl)
theorem k_newi (C : Cx G B dy own cc nL p s m args c) (hz : s.heap.size + k = B + n) (w1 : Cond.arrayClass .int ∈ TG) {x : Int32} {N9 : Nat} (hx : x = nI N9) (hN : N9 ≤ 1000) (hR : k + 1 ≤ R.cells ∧ n9 + N9 ≤ R.slots) (d : decode cc pc = .ok (.newarray .int, 2)) (kk : WC G B p l e R s m args below meth c (k + 1) (n9 + N9) Q nL (pc + 2) lv (.ref (B + n) :: st) (n + 1) (va_up A n (.inl (G.2 0, N9, .inl (fun _ => 0))))) : WC G B p l e R s m args below meth c k n9 Q nL pc lv (.int x :: st) n A := fun H locs ls hP hS hl => va_newa (atype := .int) (ty := .int) C.1 C.2.1 (C.2.2.2.2.1 _ w1) rfl C.2.2.2.2.2.1 hP (wg_D B n A) hS (fun q h => Nat.le_trans C.2.2.2.2.2.2.2 h) (a0 := (N9, .inl (fun _ => 0))) (fun cA => rfl) (by rw [hx]; exact nI_pos (by omega)) (by rw [hx]; exact nI_clamp (by omega)) (by show N9 * _ ≤ _; simp [componentBytes]; omega) hR.1 hR.2 d (fun q cA H1 hK1 h1 h2 h3 => W_size fun hs => by
    obtain rfl := new_addr h1 h2 (by omega)
    have e1 := (hK1.2 0 _ rfl).2
    have e2 := (hK1.2 3 _ rfl).2
    have e3 : G.2 0 = cA := Option.some.inj (Eq.trans (Eq.symm e1) e2)
    subst e3
    rw [wg_push] at h1
    exact kk H1 locs ls h1 h3 hl)
theorem k_newqS (C : Cx G B dy own cc nL p s m args c) (hz : s.heap.size + k = B + n) (X9 : Xc s) {index : Nat} (w1 : Cond.classLink own index RX5 ∈ TG) {x : Int32} {N9 : Nat} (hx : x = nI N9) (hN : N9 ≤ 1000) (hR : k + 1 ≤ R.cells ∧ n9 + N9 ≤ R.slots) (d : decode cc pc = .ok (.anewarray index, 3)) (kk : WC G B p l e R s m args below meth c (k + 1) (n9 + N9) Q nL (pc + 3) lv (.ref (B + n) :: st) (n + 1) (va_up A n (.inl (G.2 1, N9, .inr (.inr (.inr (.inr (fun _ => none)))))))) : WC G B p l e R s m args below meth c k n9 Q nL pc lv (.int x :: st) n A := fun H locs ls hP hS hl => va_newq (C := RX5) C.1 C.2.1 C.2.2.2.1 (C.2.2.2.2.1 _ w1) X9.1 C.2.2.2.2.2.1 hP (wg_D B n A) hS (fun q h => Nat.le_trans C.2.2.2.2.2.2.2 h) (by rw [hx]; exact nI_pos (by omega)) (by rw [hx]; exact nI_clamp (by omega)) (by omega) hR.1 hR.2 d (fun q cA H1 hK1 h1 h2 h3 => W_size fun hs => by
    obtain rfl := new_addr h1 h2 (by omega)
    obtain ⟨_, _, _, _, _, e1⟩ := (hK1.2 1 _ rfl).2
    obtain ⟨_, _, _, _, _, e2⟩ := (hK1.2 3 _ rfl).2
    have e3 : G.2 1 = cA := Option.some.inj (Eq.trans (Eq.symm e1) e2)
    subst e3
    rw [wg_push] at h1
    exact kk H1 locs ls h1 h3 hl)
theorem k_astS (C : Cx G B dy own cc nL p s m args c) {i v : Nat} {x : Int32} {N9 : Nat} {f : Nat → Option Nat} {vs : List Value} (he : A i = .inl (G.2 1, N9, .inr (.inr (.inr (.inr f))))) (hi : i < n) (hv : A v = .inr (5, vs)) (hvn : v < n) (hin : vp_in x N9) (d : decode cc pc = .ok (.aastore, 1)) (kk : WC G B p l e R s m args below meth c k n9 Q nL (pc + 1) lv st n (va_up A i (.inl (G.2 1, N9, .inr (.inr (.inr (.inr (va_up f x.toNatClampNeg (some (B + v)))))))))) : WC G B p l e R s m args below meth c k n9 Q nL pc lv (.ref (B + v) :: .int x :: .ref (B + i) :: st) n A := fun H locs ls hP hS hl => va_astq C.1 C.2.1 C.2.2.2.2.2.1 hP (wg_D B n A) hS i 1 v 5 (wg_at B hi he) (r := (RX5, TX5, 12)) rfl (wg_at B hvn hv) rfl hin d (fun H1 locs1 h1 _ h3 => kk H1 locs1 ls (by rw [← wg_set hi]; exact h1) h3 hl)
theorem k_alenS (C : Cx G B dy own cc nL p s m args c) {i N9 : Nat} {f : Nat → Option Nat} (he : A i = .inl (G.2 1, N9, .inr (.inr (.inr (.inr f))))) (hi : i < n) (d : decode cc pc = .ok (.arraylength, 1)) (kk : WC G B p l e R s m args below meth c k n9 Q nL (pc + 1) lv (.int (Int32.ofNat N9) :: st) n A) : WC G B p l e R s m args below meth c k n9 Q nL pc lv (.ref (B + i) :: st) n A := fun H locs ls hP hS hl => va_alen C.1 C.2.1 C.2.2.2.2.2.1 hP i 1 (wg_at B hi he) rfl rfl d (kk H locs ls hP hS hl)
theorem k_newqC (C : Cx G B dy own cc nL p s m args c) (hz : s.heap.size + k = B + n) (X9 : Xc s) {index : Nat} (w1 : Cond.classLink own index RX0 ∈ TG) {x : Int32} {N9 : Nat} (hx : x = nI N9) (hN : N9 ≤ 1000) (hR : k + 1 ≤ R.cells ∧ n9 + N9 ≤ R.slots) (d : decode cc pc = .ok (.anewarray index, 3)) (kk : WC G B p l e R s m args below meth c (k + 1) (n9 + N9) Q nL (pc + 3) lv (.ref (B + n) :: st) (n + 1) (va_up A n (.inl (G.2 2, N9, .inr (.inr (.inr (.inr (fun _ => none)))))))) : WC G B p l e R s m args below meth c k n9 Q nL pc lv (.int x :: st) n A := fun H locs ls hP hS hl => va_newq (C := RX0) C.1 C.2.1 C.2.2.2.1 (C.2.2.2.2.1 _ w1) X9.2 C.2.2.2.2.2.1 hP (wg_D B n A) hS (fun q h => Nat.le_trans C.2.2.2.2.2.2.2 h) (by rw [hx]; exact nI_pos (by omega)) (by rw [hx]; exact nI_clamp (by omega)) (by omega) hR.1 hR.2 d (fun q cA H1 hK1 h1 h2 h3 => W_size fun hs => by
    obtain rfl := new_addr h1 h2 (by omega)
    obtain ⟨_, _, _, _, _, e1⟩ := (hK1.2 2 _ rfl).2
    obtain ⟨_, _, _, _, _, e2⟩ := (hK1.2 3 _ rfl).2
    have e3 : G.2 2 = cA := Option.some.inj (Eq.trans (Eq.symm e1) e2)
    subst e3
    rw [wg_push] at h1
    exact kk H1 locs ls h1 h3 hl)
theorem k_astC (C : Cx G B dy own cc nL p s m args c) {i v : Nat} {x : Int32} {N9 : Nat} {f : Nat → Option Nat} {vs : List Value} (he : A i = .inl (G.2 2, N9, .inr (.inr (.inr (.inr f))))) (hi : i < n) (hv : A v = .inr (0, vs)) (hvn : v < n) (hin : vp_in x N9) (d : decode cc pc = .ok (.aastore, 1)) (kk : WC G B p l e R s m args below meth c k n9 Q nL (pc + 1) lv st n (va_up A i (.inl (G.2 2, N9, .inr (.inr (.inr (.inr (va_up f x.toNatClampNeg (some (B + v)))))))))) : WC G B p l e R s m args below meth c k n9 Q nL pc lv (.ref (B + v) :: .int x :: .ref (B + i) :: st) n A := fun H locs ls hP hS hl => va_astq C.1 C.2.1 C.2.2.2.2.2.1 hP (wg_D B n A) hS i 2 v 0 (wg_at B hi he) (r := (RX0, TX0, 3)) rfl (wg_at B hvn hv) rfl hin d (fun H1 locs1 h1 _ h3 => kk H1 locs1 ls (by rw [← wg_set hi]; exact h1) h3 hl)
theorem k_alenC (C : Cx G B dy own cc nL p s m args c) {i N9 : Nat} {f : Nat → Option Nat} (he : A i = .inl (G.2 2, N9, .inr (.inr (.inr (.inr f))))) (hi : i < n) (d : decode cc pc = .ok (.arraylength, 1)) (kk : WC G B p l e R s m args below meth c k n9 Q nL (pc + 1) lv (.int (Int32.ofNat N9) :: st) n A) : WC G B p l e R s m args below meth c k n9 Q nL pc lv (.ref (B + i) :: st) n A := fun H locs ls hP hS hl => va_alen C.1 C.2.1 C.2.2.2.2.2.1 hP i 2 (wg_at B hi he) rfl rfl d (kk H locs ls hP hS hl)
theorem k_iast (C : Cx G B dy own cc nL p s m args c) {i N9 : Nat} {x v : Int32} {f : Nat → Int32} (he : A i = .inl (G.2 0, N9, .inl f)) (hi : i < n) (hin : vp_in x N9) (d : decode cc pc = .ok (.iastore, 1)) (kk : WC G B p l e R s m args below meth c k n9 Q nL (pc + 1) lv st n (va_up A i (.inl (G.2 0, N9, .inl (upd f x.toNatClampNeg v))))) : WC G B p l e R s m args below meth c k n9 Q nL pc lv (.int v :: .int x :: .ref (B + i) :: st) n A := fun H locs ls hP hS hl => va_iast C.1 C.2.1 C.2.2.2.2.2.1 hP (wg_D B n A) hS i 0 (wg_at B hi he) rfl hin d (fun H1 locs1 h1 _ h3 => kk H1 locs1 ls (by rw [← wg_set hi]; exact h1) h3 hl)
theorem k_dy (C : Cx G B dy own cc nL p s m args c) {index : Nat} (hlink : Cond.fieldLink own index RX6 "DIGEST_YEARS" "[I" ∈ TG) (d : decode cc pc = .ok (.getstatic index, 3)) (kk : WC G B p l e R s m args below meth c k n9 Q nL (pc + 3) lv (.ref dy :: st) n A) : WC G B p l e R s m args below meth c k n9 Q nL pc lv st n A := fun H locs ls hP hS hl => va_gets C.1 C.2.1 C.2.2.2.2.2.2.1.2.1 hS C.2.2.2.1 (C.2.2.2.2.1 _ hlink) (fun _ h => h) d (kk H locs ls hP hS hl)
theorem k_dylen (C : Cx G B dy own cc nL p s m args c) (d : decode cc pc = .ok (.arraylength, 1)) (kk : WC G B p l e R s m args below meth c k n9 Q nL (pc + 1) lv (.int 3 :: st) n A) : WC G B p l e R s m args below meth c k n9 Q nL pc lv (.ref dy :: st) n A := fun H locs ls hP hS hl => va_slen C.1 C.2.1 C.2.2.2.2.2.2.1.2.2.1 (Nat.lt_of_lt_of_le C.2.2.2.2.2.2.1.2.2.2 C.2.2.2.2.2.2.2) (Nat.not_le.mpr C.2.2.2.2.2.2.1.2.2.2) hS d (kk H locs ls hP hS hl)
theorem k_cong (C : Cx G B dy own cc nL p s m args c) {A2 : Nat → va_E} (h : ∀ j, j < n → A j = A2 j) (kk : WC G B p l e R s m args below meth c k n9 Q nL pc lv st n A2) : WC G B p l e R s m args below meth c k n9 Q nL pc lv st n A := fun H locs ls hP hS hl => kk H locs ls (by rw [← wg_cong h]; exact hP) hS hl
theorem k_vret {B n n9 k : Nat} (C : Cx G B dy own cc nL p s m args c) (hr : meth.sig.returnType = none) (hlk : meth.locks = false) {mc ms : Nat} (hk : k ≤ mc ∧ n9 ≤ ms) (d : decode cc pc = .ok (.return_, 1)) : WC G B p l e R s m args below meth c k n9 (MQ below (PostC G B n A) args s mc ms (Ab B)) nL pc lv [] n A := fun H locs ls hP hS hl => W.widen hk.1 hk.2 (W.vret C.1 C.2.1 hr (fun t ht _ => ⟨⟨(), rfl, trivial, by show va_P _ _ _ t.heap; rw [ht]; exact hP⟩, hS.F ht⟩) hS.2.2 d hlk)
theorem k_callI (C : Cx G B dy own cc nL p s m args c) (X9 : Xc s) (hz : s.heap.size + k = B + n) (hn0 : 0 < n) {y : MethodName} {cb : ByteArray} {maxL f lc mc ms a index i n2 : Nat} {As rest : List Value} {A2 : Nat → va_E} (hM : CtC l G B dy y cb maxL f lc mc ms (.ref (B + i) :: As) n A n2 A2) (w1 : Cond.methodLink own index y ∈ TG) (w2 : Cond.instanceMethod y ∈ TG) (w3 : Cond.initialized y.cls ∈ TG) (w4 : Cond.code y cb maxL none ∈ TG) (hy1 : y.name = "<init>") (hd : y.cls ≠ "java/lang/invoke/MethodHandle" ∧ y.cls ≠ "java/lang/invoke/VarHandle" ∧ (parseMethodDescriptor y.desc).map (fun d => d.parameters.length) = some a) (hR : f + 1 ≤ R.frames ∧ 8 + (maxL + 11) + lc ≤ R.locals) (hf : k + mc ≤ R.cells ∧ n9 + ms ≤ R.slots) (hn : As.length = a) (hstk : st = As.reverse ++ .ref (B + i) :: rest) (hcat : (rest.map fun v => v.category).sum ≤ 8) (d : decode cc pc = .ok (.invokespecial index, 3)) (kk : WC G B p l e R s m args below meth c (k + mc) (n9 + ms) Q nL (pc + 3) lv rest n2 A2) : WC G B p l e R s m args below meth c k n9 Q nL pc lv st n A := fun H locs ls hP hS hl => W_size fun hs => va_callv (va_runI (nL := nL) (As := As) (rest := rest) ⟨C.1, C.2.1, C.2.2.1, C.2.2.2.1, C.2.2.2.2.1⟩ hM (cwI a C.2.2.2.2.1 (TG_goodIn (call_ws0 w4)) rfl rfl rfl (C.2.2.2.2.1 _ w3) (C.2.2.2.2.1 _ w1) (C.2.2.2.2.1 _ w2) hy1 hd hR) ⟨Hc.blind, fun U hU hW => ⟨rfl, by rw [hU]; exact hP, by rw [hU]; have h := wg_lt hP hn0; omega, va_K.moved hW.alike C.2.2.2.2.2.1, C.2.2.2.2.2.2.1.carry C.2.2.2.2.2.2.2 hS hU hW, va_AO.moved hW.alike X9.1, va_AO.moved hW.alike X9.2⟩⟩ rfl hn hl.1 hstk (lv_room hcat) d hf) hS (fun _ _ h => h) (fun _ h => h) (fun u t H1 locs1 ht hvm hw hB hz1 hk1 hS1 => by
    rw [ht] at hB
    exact kk H1 locs1 ls hB hS1 hl)
theorem k_callIN (C : Cx G B dy own cc nL p s m args c) (X9 : Xc s) (hz : s.heap.size + k = B + n) (hn0 : 0 < n) {y : MethodName} {cb : ByteArray} {maxL f lc mc ms a index i n2 : Nat} {As rest : List Value} {A2 : Nat → va_E} (hM : CtC l G B dy y cb maxL f lc mc ms (.ref (B + i) :: As) n A n2 A2) {host : String} (w1 : (own, index, y, host) ∈ nestL) (w2 : Cond.instanceMethod y ∈ TG) (w3 : Cond.initialized y.cls ∈ TG) (w4 : Cond.code y cb maxL none ∈ TG) (hy1 : y.name = "<init>") (hd : y.cls ≠ "java/lang/invoke/MethodHandle" ∧ y.cls ≠ "java/lang/invoke/VarHandle" ∧ (parseMethodDescriptor y.desc).map (fun d => d.parameters.length) = some a) (hR : f + 1 ≤ R.frames ∧ 8 + (maxL + 11) + lc ≤ R.locals) (hf : k + mc ≤ R.cells ∧ n9 + ms ≤ R.slots) (hn : As.length = a) (hstk : st = As.reverse ++ .ref (B + i) :: rest) (hcat : (rest.map fun v => v.category).sum ≤ 8) (d : decode cc pc = .ok (.invokespecial index, 3)) (kk : WC G B p l e R s m args below meth c (k + mc) (n9 + ms) Q nL (pc + 3) lv rest n2 A2) : WC G B p l e R s m args below meth c k n9 Q nL pc lv st n A := fun H locs ls hP hS hl => W_size fun hs => va_callv (va_runIN (nL := nL) (As := As) (rest := rest) ⟨C.1, C.2.1, C.2.2.1, C.2.2.2.1, C.2.2.2.2.1⟩ hM ⟨va_cnB a C.2.2.2.2.1 (TG_goodIn (call_ws0 w4)) rfl rfl rfl (C.2.2.2.2.2.2.1.1 (own, index, y, host) w1) (C.2.2.2.2.1 _ w3) hd hR, hy1, C.2.2.2.2.1 _ w2⟩ ⟨Hc.blind, fun U hU hW => ⟨rfl, by rw [hU]; exact hP, by rw [hU]; have h := wg_lt hP hn0; omega, va_K.moved hW.alike C.2.2.2.2.2.1, C.2.2.2.2.2.2.1.carry C.2.2.2.2.2.2.2 hS hU hW, va_AO.moved hW.alike X9.1, va_AO.moved hW.alike X9.2⟩⟩ rfl hn hl.1 hstk (lv_room hcat) d hf) hS (fun _ _ h => h) (fun _ h => h) (fun u t H1 locs1 ht hvm hw hB hz1 hk1 hS1 => by
    rw [ht] at hB
    exact kk H1 locs1 ls hB hS1 hl)
theorem CtC_of {y : MethodName} {maxL f lc mc ms n2 : Nat} {As : List Value} {A2 : Nat → va_E} (hy : plainName y.cls = true) (lv0 : List (Nat × Value)) (hlen : (lg_sl As).length ≤ maxL) (hlv : lv_args 0 As = lv0)
    (body : ∀ {p : Program} {e : Env} {s : State} {m : MethodId} {args : Array Value} {below : List Frame} {meth : Method} {c : Code}, Cx G B dy y.cls cc maxL p s m args c → meth.sig.returnType = none → meth.locks = false → meth.name = y.name → Xc s → s.heap.size = B + n → WC G B p l e (RM f lc mc ms) s m args below meth c 0 0 (MQ below (PostC G B n2 A2) args s mc ms (Ab B)) maxL 0 lv0 [] n A) :
    CtC l G B dy y cc maxL f lc mc ms As n A n2 A2 := by
  refine Met.ofW (cc := cc) (maxL := maxL) (ret := none) hy rfl ?_
  intro p e s m args below meth c s₁ B9 hml hv
  obtain ⟨rfl, hP, hz, hK, hX, hX9⟩ := hv
  have hts := atoms_spec (ws := wq y cc maxL none) B9.pre
  have C : Cx G B dy y.cls cc maxL p s m As.toArray c := ⟨B9.exec, B9.bytes, hml, findClass_of_methodNamed B9.named, fun w hw => hts w (List.mem_cons_of_mem _ hw), hK, hX, by omega⟩
  rw [lg_entry_eq]
  refine body C B9.returns B9.notSynchronized (name_of_methodNamed B9.named B9.method).1 hX9 hz s.heap [] _ hP va_S.rf ?_
  rw [← hlv]
  exact lv_entry As hlen
end JC2
