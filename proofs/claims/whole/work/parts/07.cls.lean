set_option maxRecDepth 100000 in
set_option maxHeartbeats 4000000 in
theorem c_X4_at (l : Launch) (G : GG) (B dy : Nat) (a0 : Nat) (k0 : kd a0 = 4) (x1 : Int32) (t0 : St) {r : Int32} {t9 : St} (h : f_X4_at a0 x1 t0 = some (r, t9)) : Ct l G B dy yX4_at cX4_at 2 (some .int) 0 0 0 0 [.ref (B + a0), .int x1] t0 (PostI G B r t9) := by
  refine Ct_of (by decide +kernel) [(0, .ref (B + a0)), (1, .int x1)] (Nat.le_of_ble_eq_true rfl) rfl ?_
  intro p e s m args below meth c C hr hlk
  refine j_iload_n C (q := 1) dX4_at_0 rfl rfl ?_
  refine j_if_lt C (tgt := 22) dX4_at_1 (by decide) (fun c21 => ?_) (fun c21 => ?_)
  · have h := ite_t h c21
    refine j_iconst C (v := (-1)) dX4_at_22 (by decide) ?_
    exact j_iret C hr hlk h ⟨Nat.le_of_ble_eq_true rfl, Nat.le_of_ble_eq_true rfl⟩ dX4_at_23
  · have h := ite_f h c21
    refine j_iload_n C (q := 1) dX4_at_4 rfl rfl ?_
    refine j_aload_n C (q := 0) dX4_at_5 rfl rfl ?_
    refine fg_X4_9 C (i := a0) k0 dX4_at_6 ?_
    refine j_alen8 C (i := (a0 + 1)) (kR4_1 k0) dX4_at_9 ?_
    refine j_icmp_ge C (tgt := 22) dX4_at_10 (by decide) (fun c22 => ?_) (fun c22 => ?_)
    · have h := ite_t h c22
      refine j_iconst C (v := (-1)) dX4_at_22 (by decide) ?_
      exact j_iret C hr hlk h ⟨Nat.le_of_ble_eq_true rfl, Nat.le_of_ble_eq_true rfl⟩ dX4_at_23
    · have h := ite_f h c22
      refine j_aload_n C (q := 0) dX4_at_13 rfl rfl ?_
      refine fg_X4_9 C (i := a0) k0 dX4_at_14 ?_
      refine j_iload_n C (q := 1) dX4_at_17 rfl rfl ?_
      obtain ⟨g23, h⟩ := gd_some h
      refine j_iald C (i := (a0 + 1)) (kR4_1 k0) (inA g23 rfl) dX4_at_18 ?_
      refine j_goto C (tgt := 23) dX4_at_19 (by decide) ?_
      exact j_iret C hr hlk h ⟨Nat.le_of_ble_eq_true rfl, Nat.le_of_ble_eq_true rfl⟩ dX4_at_23
set_option maxRecDepth 100000 in
set_option maxHeartbeats 4000000 in
theorem c_X4_put (l : Launch) (G : GG) (B dy : Nat) (a0 : Nat) (k0 : kd a0 = 4) (x1 : Int32) (x2 : Int32) (t0 : St) {t9 : St} (h : f_X4_put a0 x1 x2 t0 = some t9) : Ct l G B dy yX4_put cX4_put 3 none 0 0 0 0 [.ref (B + a0), .int x1, .int x2] t0 (PostV G B t9) := by
  refine Ct_of (by decide +kernel) [(0, .ref (B + a0)), (1, .int x1), (2, .int x2)] (Nat.le_of_ble_eq_true rfl) rfl ?_
  intro p e s m args below meth c C hr hlk
  refine j_iload_n C (q := 1) dX4_put_0 rfl rfl ?_
  refine j_if_lt C (tgt := 20) dX4_put_1 (by decide) (fun c21 => ?_) (fun c21 => ?_)
  · have h := ite_t h c21
    exact j_vret C hr hlk h ⟨Nat.le_of_ble_eq_true rfl, Nat.le_of_ble_eq_true rfl⟩ dX4_put_20
  · have h := ite_f h c21
    refine j_iload_n C (q := 1) dX4_put_4 rfl rfl ?_
    refine j_aload_n C (q := 0) dX4_put_5 rfl rfl ?_
    refine fg_X4_9 C (i := a0) k0 dX4_put_6 ?_
    refine j_alen8 C (i := (a0 + 1)) (kR4_1 k0) dX4_put_9 ?_
    refine j_icmp_ge C (tgt := 20) dX4_put_10 (by decide) (fun c22 => ?_) (fun c22 => ?_)
    · have h := ite_t h c22
      exact j_vret C hr hlk h ⟨Nat.le_of_ble_eq_true rfl, Nat.le_of_ble_eq_true rfl⟩ dX4_put_20
    · have h := ite_f h c22
      refine j_aload_n C (q := 0) dX4_put_13 rfl rfl ?_
      refine fg_X4_9 C (i := a0) k0 dX4_put_14 ?_
      refine j_iload_n C (q := 1) dX4_put_17 rfl rfl ?_
      refine j_iload_n C (q := 2) dX4_put_18 rfl rfl ?_
      obtain ⟨g23, h⟩ := gd_some h
      refine j_iast C (i := (a0 + 1)) (kR4_1 k0) (inA g23 rfl) dX4_put_19 ?_
      refine j_tops (fun t24 et24 => ?_)
      have h := lt_at h et24
      exact j_vret C hr hlk h ⟨Nat.le_of_ble_eq_true rfl, Nat.le_of_ble_eq_true rfl⟩ dX4_put_20
