set_option maxRecDepth 100000 in
set_option maxHeartbeats 4000000 in
theorem c_X0_by (l : Launch) (G : GG) (B dy : Nat) (a0 : Nat) (k0 : kd a0 = 0) (x1 : Int32) (t0 : St) {r : Option Nat} {t9 : St} (h : f_X0_by a0 x1 t0 = some (r, t9)) : Ct l G B dy yX0_by cX0_by 2 (some (.object "RunicSticks$Reckoning")) 0 0 0 0 [.ref (B + a0), .int x1] t0 (PostQ G B r t9) := by
  refine Ct_of (by decide +kernel) [(0, .ref (B + a0)), (1, .int x1)] (Nat.le_of_ble_eq_true rfl) rfl ?_
  intro p e s m args below meth c C hr hlk
  refine j_iload_n C (q := 1) dX0_by_0 rfl rfl ?_
  by_cases c21 : x1 = 1
  · have h := ite_t h c21
    refine j_lookup C (off := 27) (tgt := 28) dX0_by_1 (by decide) (sw_off c21 rfl) (by decide) ?_
    refine j_aload_n C (q := 0) dX0_by_28 rfl rfl ?_
    refine fg_X0_18 C (i := a0) k0 dX0_by_29 ?_
    exact j_aret C (i := (a0 + 6)) hr hlk h ⟨Nat.le_of_ble_eq_true rfl, Nat.le_of_ble_eq_true rfl⟩ dX0_by_32
  · have h := ite_f h c21
    by_cases c22 : x1 = 2
    · have h := ite_t h c22
      refine j_lookup C (off := 32) (tgt := 33) dX0_by_1 (by decide) (sw_off c22 rfl) (by decide) ?_
      refine j_aload_n C (q := 0) dX0_by_33 rfl rfl ?_
      refine fg_X0_21 C (i := a0) k0 dX0_by_34 ?_
      exact j_aret C (i := (a0 + 11)) hr hlk h ⟨Nat.le_of_ble_eq_true rfl, Nat.le_of_ble_eq_true rfl⟩ dX0_by_37
    · have h := ite_f h c22
      refine j_lookup C (off := 37) (tgt := 38) dX0_by_1 (by decide) ((lv_osw c21 (by decide)).trans ((lv_osw c22 (by decide)).trans rfl)) (by decide) ?_
      refine j_aload_n C (q := 0) dX0_by_38 rfl rfl ?_
      refine fg_X0_12 C (i := a0) k0 dX0_by_39 ?_
      exact j_aret C (i := (a0 + 1)) hr hlk h ⟨Nat.le_of_ble_eq_true rfl, Nat.le_of_ble_eq_true rfl⟩ dX0_by_42
set_option maxRecDepth 100000 in
set_option maxHeartbeats 4000000 in
theorem c_X4_at (l : Launch) (G : GG) (B dy : Nat) (a0 : Nat) (k0 : kd a0 = 4) (x1 : Int32) (t0 : St) {r : Int32} {t9 : St} (h : f_X4_at a0 x1 t0 = some (r, t9)) : Ct l G B dy yX4_at cX4_at 2 (some .int) 0 0 0 0 [.ref (B + a0), .int x1] t0 (PostI G B r t9) := by
  refine Ct_of (by decide +kernel) [(0, .ref (B + a0)), (1, .int x1)] (Nat.le_of_ble_eq_true rfl) rfl ?_
  intro p e s m args below meth c C hr hlk
  refine j_iload_n C (q := 1) dX4_at_0 rfl rfl ?_
  refine j_if_lt C (tgt := 22) dX4_at_1 (by decide) (fun c21 => ?_) (fun c21 => ?_)
  · have h := ite_t h c21
    refine j_iconst C (v := (-1)) dX4_at_22 (by decide) ?_
    exact j_iret C hr hlk h ⟨Nat.le_of_ble_eq_true rfl, Nat.le_of_ble_eq_true rfl⟩ dX4_at_23
  · have h := ite_f h c21
    refine j_iload_n C (q := 1) dX4_at_4 rfl rfl ?_
    refine j_aload_n C (q := 0) dX4_at_5 rfl rfl ?_
    refine fg_X4_9 C (i := a0) k0 dX4_at_6 ?_
    refine j_alen8 C (i := (a0 + 1)) (kR4_1 k0) dX4_at_9 ?_
    refine j_icmp_ge C (tgt := 22) dX4_at_10 (by decide) (fun c22 => ?_) (fun c22 => ?_)
    · have h := ite_t h c22
      refine j_iconst C (v := (-1)) dX4_at_22 (by decide) ?_
      exact j_iret C hr hlk h ⟨Nat.le_of_ble_eq_true rfl, Nat.le_of_ble_eq_true rfl⟩ dX4_at_23
    · have h := ite_f h c22
      refine j_aload_n C (q := 0) dX4_at_13 rfl rfl ?_
      refine fg_X4_9 C (i := a0) k0 dX4_at_14 ?_
      refine j_iload_n C (q := 1) dX4_at_17 rfl rfl ?_
      obtain ⟨g23, h⟩ := gd_some h
      refine j_iald C (i := (a0 + 1)) (kR4_1 k0) (inA g23 rfl) dX4_at_18 ?_
      refine j_goto C (tgt := 23) dX4_at_19 (by decide) ?_
      exact j_iret C hr hlk h ⟨Nat.le_of_ble_eq_true rfl, Nat.le_of_ble_eq_true rfl⟩ dX4_at_23
set_option maxRecDepth 100000 in
set_option maxHeartbeats 4000000 in
theorem c_X6_isLeap (l : Launch) (G : GG) (B dy : Nat) (x0 : Int32) (t0 : St) {r : Int32} {t9 : St} (h : f_X6_isLeap x0 t0 = some (r, t9)) : Ct l G B dy yX6_isLeap cX6_isLeap 1 (some .boolean) 0 0 0 0 [.int x0] t0 (PostI G B r t9) := by
  refine Ct_of (by decide +kernel) [(0, .int x0)] (Nat.le_of_ble_eq_true rfl) rfl ?_
  intro p e s m args below meth c C hr hlk
  refine j_iload_n C (q := 0) dX6_isLeap_0 rfl rfl ?_
  refine j_iconst C (v := 4) dX6_isLeap_1 (by decide) ?_
  refine j_irem C dX6_isLeap_2 (by decide) ?_
  refine j_if_ne C (tgt := 10) dX6_isLeap_3 (by decide) (fun c21 => ?_) (fun c21 => ?_)
  · have h := ite_t h c21
    refine j_iconst C (v := 1) dX6_isLeap_6 (by decide) ?_
    refine j_goto C (tgt := 11) dX6_isLeap_7 (by decide) ?_
    exact j_zret C hr hlk (Or.inr rfl) h ⟨Nat.le_of_ble_eq_true rfl, Nat.le_of_ble_eq_true rfl⟩ dX6_isLeap_11
  · have h := ite_f h c21
    refine j_iconst C (v := 0) dX6_isLeap_10 (by decide) ?_
    exact j_zret C hr hlk (Or.inl rfl) h ⟨Nat.le_of_ble_eq_true rfl, Nat.le_of_ble_eq_true rfl⟩ dX6_isLeap_11
set_option maxRecDepth 100000 in
set_option maxHeartbeats 4000000 in
theorem c_X6_daysIn (l : Launch) (G : GG) (B dy : Nat) (x0 : Int32) (t0 : St) {r : Int32} {t9 : St} (h : f_X6_daysIn x0 t0 = some (r, t9)) : Ct l G B dy yX6_daysIn cX6_daysIn 1 (some .int) 1 20 0 0 [.int x0] t0 (PostI G B r t9) := by
  refine Ct_of (by decide +kernel) [(0, .int x0)] (Nat.le_of_ble_eq_true rfl) rfl ?_
  intro p e s m args below meth c C hr hlk
  refine j_iload_n C (q := 0) dX6_daysIn_0 rfl rfl ?_
  obtain ⟨x21, t22, e23, h⟩ := bd_some h
  refine j_callS_i C (i := 0) (As := [.int x0]) (rest := []) (c_X6_isLeap l G B dy x0 _ e23) tw_346 tw_347 ti_6 tw_348 ⟨rfl, hd_X6_isLeap⟩ ⟨Nat.le_of_ble_eq_true rfl, Nat.le_of_ble_eq_true rfl⟩ ⟨Nat.le_of_ble_eq_true rfl, Nat.le_of_ble_eq_true rfl⟩ rfl rfl (Nat.le_of_ble_eq_true rfl) dX6_daysIn_1 ?_
  refine j_if_eq C (tgt := 13) dX6_daysIn_4 (by decide) (fun c24 => ?_) (fun c24 => ?_)
  · have h := ite_t h c24
    refine j_sipush C (v := 365) dX6_daysIn_13 (by decide) ?_
    exact j_iret C hr hlk h ⟨Nat.le_of_ble_eq_true rfl, Nat.le_of_ble_eq_true rfl⟩ dX6_daysIn_16
  · have h := ite_f h c24
    refine j_sipush C (v := 366) dX6_daysIn_7 (by decide) ?_
    refine j_goto C (tgt := 16) dX6_daysIn_10 (by decide) ?_
    exact j_iret C hr hlk h ⟨Nat.le_of_ble_eq_true rfl, Nat.le_of_ble_eq_true rfl⟩ dX6_daysIn_16
set_option maxRecDepth 100000 in
set_option maxHeartbeats 4000000 in
theorem c_X6_newYearWeekday (l : Launch) (G : GG) (B dy : Nat) (x0 : Int32) (t0 : St) {r : Int32} {t9 : St} (h : f_X6_newYearWeekday x0 t0 = some (r, t9)) : Ct l G B dy yX6_newYearWeekday cX6_newYearWeekday 2 (some .int) 0 0 0 0 [.int x0] t0 (PostI G B r t9) := by
  refine Ct_of (by decide +kernel) [(0, .int x0)] (Nat.le_of_ble_eq_true rfl) rfl ?_
  intro p e s m args below meth c C hr hlk
  refine j_iload_n C (q := 0) dX6_newYearWeekday_0 rfl rfl ?_
  refine j_iconst C (v := 3) dX6_newYearWeekday_1 (by decide) ?_
  refine j_iadd C dX6_newYearWeekday_2 ?_
  refine j_iconst C (v := 4) dX6_newYearWeekday_3 (by decide) ?_
  refine j_idiv C dX6_newYearWeekday_4 (by decide) ?_
  refine j_topi (fun x21 ex21 => ?_)
  have h := lt_at h ex21
  refine j_istore_n C [(0, .int x0), (1, .int x21)] [1, 0] dX6_newYearWeekday_5 rfl (by decide) rfl ?_
  refine j_sipush C (v := 365) dX6_newYearWeekday_6 (by decide) ?_
  refine j_iload_n C (q := 0) dX6_newYearWeekday_9 rfl rfl ?_
  refine j_imul C dX6_newYearWeekday_10 ?_
  refine j_iload_n C (q := 1) dX6_newYearWeekday_11 rfl rfl ?_
  refine j_iadd C dX6_newYearWeekday_12 ?_
  refine j_bipush C (v := 7) dX6_newYearWeekday_13 (by decide) ?_
  refine j_irem C dX6_newYearWeekday_15 (by decide) ?_
  exact j_iret C hr hlk h ⟨Nat.le_of_ble_eq_true rfl, Nat.le_of_ble_eq_true rfl⟩ dX6_newYearWeekday_16
set_option maxRecDepth 100000 in
set_option maxHeartbeats 4000000 in
theorem c_X6_moonShift (l : Launch) (G : GG) (B dy : Nat) (x0 : Int32) (x1 : Int32) (x2 : Int32) (t0 : St) {r : Int32} {t9 : St} (h : f_X6_moonShift x0 x1 x2 t0 = some (r, t9)) : Ct l G B dy yX6_moonShift cX6_moonShift 4 (some .int) 0 0 0 0 [.int x0, .int x1, .int x2] t0 (PostI G B r t9) := by
  refine Ct_of (by decide +kernel) [(0, .int x0), (1, .int x1), (2, .int x2)] (Nat.le_of_ble_eq_true rfl) rfl ?_
  intro p e s m args below meth c C hr hlk
  have J11 : ∀ (w0 : Int32) (t0 : St), f_X6_moonShift_b11 x0 x1 w0 t0 = some (r, t9) → WW G B p l e (RM 0 0 0 0) s m args below meth c 0 0 (MQ below (PostI G B r t9) args s 0 0 (Ab B)) 4 11 [(0, .int x0), (1, .int x1)] [.int w0] t0 := by
    intro w0 t0 h
    refine j_istore_n C [(0, .int x0), (1, .int x1), (3, .int w0)] [1, 2, 0] dX6_moonShift_11 rfl (by decide) rfl ?_
    refine j_bipush C (v := 11) dX6_moonShift_12 (by decide) ?_
    refine j_iload_n C (q := 0) dX6_moonShift_14 rfl rfl ?_
    refine j_bipush C (v := 19) dX6_moonShift_15 (by decide) ?_
    refine j_irem C dX6_moonShift_17 (by decide) ?_
    refine j_imul C dX6_moonShift_18 ?_
    refine j_iload_n C (q := 2) dX6_moonShift_19 rfl rfl ?_
    refine j_iadd C dX6_moonShift_20 ?_
    refine j_iload_n C (q := 1) dX6_moonShift_21 rfl rfl ?_
    refine j_iadd C dX6_moonShift_22 ?_
    refine j_iconst C (v := 5) dX6_moonShift_23 (by decide) ?_
    refine j_iadd C dX6_moonShift_24 ?_
    exact j_iret C hr hlk h ⟨Nat.le_of_ble_eq_true rfl, Nat.le_of_ble_eq_true rfl⟩ dX6_moonShift_25
  refine j_iload_n C (q := 2) dX6_moonShift_0 rfl rfl ?_
  refine j_if_le C (tgt := 10) dX6_moonShift_1 (by decide) (fun c21 => ?_) (fun c21 => ?_)
  · have h := ite_t h c21
    refine j_iconst C (v := 0) dX6_moonShift_10 (by decide) ?_
    refine j_sub [0, 1] rfl ?_
    exact J11 0 _ h
  · have h := ite_f h c21
    refine j_iload_n C (q := 0) dX6_moonShift_4 rfl rfl ?_
    refine j_iload_n C (q := 2) dX6_moonShift_5 rfl rfl ?_
    obtain ⟨g22, h⟩ := gd_some h
    refine j_idiv C dX6_moonShift_6 (nz_ne g22) ?_
    refine j_goto C (tgt := 11) dX6_moonShift_7 (by decide) ?_
    refine j_sub [0, 1] rfl ?_
    exact J11 (x0 / x2) _ h
set_option maxRecDepth 100000 in
set_option maxHeartbeats 4000000 in
theorem c_X3_weekdayFrom (l : Launch) (G : GG) (B dy : Nat) (a0 : Nat) (k0 : kd a0 = 3) (x1 : Int32) (x2 : Int32) (t0 : St) {r : Int32} {t9 : St} (h : f_X3_weekdayFrom a0 x1 x2 t0 = some (r, t9)) : Ct l G B dy yX3_weekdayFrom cX3_weekdayFrom 4 (some .int) 0 0 0 0 [.ref (B + a0), .int x1, .int x2] t0 (PostI G B r t9) := by
  refine Ct_of (by decide +kernel) [(0, .ref (B + a0)), (1, .int x1), (2, .int x2)] (Nat.le_of_ble_eq_true rfl) rfl ?_
  intro p e s m args below meth c C hr hlk
  refine j_aload_n C (q := 0) dX3_weekdayFrom_0 rfl rfl ?_
  refine fg_X3_34 C (i := a0) k0 dX3_weekdayFrom_1 ?_
  refine j_iload_n C (q := 1) dX3_weekdayFrom_4 rfl rfl ?_
  refine j_iadd C dX3_weekdayFrom_5 ?_
  refine j_bipush C (v := 7) dX3_weekdayFrom_6 (by decide) ?_
  refine j_irem C dX3_weekdayFrom_8 (by decide) ?_
  refine j_topi (fun x21 ex21 => ?_)
  have h := lt_at h ex21
  refine j_istore_n C [(0, .ref (B + a0)), (1, .int x1), (2, .int x2), (3, .int x21)] [1, 2, 3, 0] dX3_weekdayFrom_9 rfl (by decide) rfl ?_
  refine j_iload_n C (q := 1) dX3_weekdayFrom_10 rfl rfl ?_
  refine j_iload_n C (q := 2) dX3_weekdayFrom_11 rfl rfl ?_
  refine j_bipush C (v := 7) dX3_weekdayFrom_12 (by decide) ?_
  refine j_iadd C dX3_weekdayFrom_14 ?_
  refine j_iload_n C (q := 3) dX3_weekdayFrom_15 rfl rfl ?_
  refine j_isub C dX3_weekdayFrom_16 ?_
  refine j_bipush C (v := 7) dX3_weekdayFrom_17 (by decide) ?_
  refine j_irem C dX3_weekdayFrom_19 (by decide) ?_
  refine j_iadd C dX3_weekdayFrom_20 ?_
  exact j_iret C hr hlk h ⟨Nat.le_of_ble_eq_true rfl, Nat.le_of_ble_eq_true rfl⟩ dX3_weekdayFrom_21
set_option maxRecDepth 100000 in
set_option maxHeartbeats 4000000 in
theorem c_X6_moonAge (l : Launch) (G : GG) (B dy : Nat) (x0 : Int32) (x1 : Int32) (t0 : St) {r : Int32} {t9 : St} (h : f_X6_moonAge x0 x1 t0 = some (r, t9)) : Ct l G B dy yX6_moonAge cX6_moonAge 2 (some .int) 0 0 0 0 [.int x0, .int x1] t0 (PostI G B r t9) := by
  refine Ct_of (by decide +kernel) [(0, .int x0), (1, .int x1)] (Nat.le_of_ble_eq_true rfl) rfl ?_
  intro p e s m args below meth c C hr hlk
  refine j_iload_n C (q := 0) dX6_moonAge_0 rfl rfl ?_
  refine j_iload_n C (q := 1) dX6_moonAge_1 rfl rfl ?_
  refine j_iadd C dX6_moonAge_2 ?_
  refine j_iload_n C (q := 1) dX6_moonAge_3 rfl rfl ?_
  refine j_bipush C (v := 59) dX6_moonAge_4 (by decide) ?_
  refine j_idiv C dX6_moonAge_6 (by decide) ?_
  refine j_iadd C dX6_moonAge_7 ?_
  refine j_bipush C (v := 30) dX6_moonAge_8 (by decide) ?_
  refine j_irem C dX6_moonAge_10 (by decide) ?_
  exact j_iret C hr hlk h ⟨Nat.le_of_ble_eq_true rfl, Nat.le_of_ble_eq_true rfl⟩ dX6_moonAge_11
set_option maxRecDepth 100000 in
set_option maxHeartbeats 4000000 in
theorem c_X3_weekdayPastMoon (l : Launch) (G : GG) (B dy : Nat) (a0 : Nat) (k0 : kd a0 = 3) (x1 : Int32) (x2 : Int32) (t0 : St) {r : Int32} {t9 : St} (h : f_X3_weekdayPastMoon a0 x1 x2 t0 = some (r, t9)) : Ct l G B dy yX3_weekdayPastMoon cX3_weekdayPastMoon 4 (some .int) 1 23 0 0 [.ref (B + a0), .int x1, .int x2] t0 (PostI G B r t9) := by
  refine Ct_of (by decide +kernel) [(0, .ref (B + a0)), (1, .int x1), (2, .int x2)] (Nat.le_of_ble_eq_true rfl) rfl ?_
  intro p e s m args below meth c C hr hlk
  have J2 : ∀ (n2 : Nat) (y3 : Int32) (t0 : St), f_X3_weekdayPastMoon_l2 n2 a0 x2 y3 t0 = some (r, t9) → WW G B p l e (RM 1 23 0 0) s m args below meth c 0 0 (MQ below (PostI G B r t9) args s 0 0 (Ab B)) 4 2 [(0, .ref (B + a0)), (2, .int x2), (3, .int y3)] [] t0 := by
    intro n2
    induction n2 with
    | zero => intro y3 t0 h; exact (no_some h).elim
    | succ n2 ih2 =>
      try clear h
      intro y3 t0 h
      have h : f_X3_weekdayPastMoon_b2 (f_X3_weekdayPastMoon_l2 n2) a0 x2 y3 t0 = some (r, t9) := h
      refine j_iload_n C (q := 2) dX3_weekdayPastMoon_2 rfl rfl ?_
      refine j_aload_n C (q := 0) dX3_weekdayPastMoon_3 rfl rfl ?_
      refine fg_X3_27 C (i := a0) k0 dX3_weekdayPastMoon_4 ?_
      refine j_icmp_ge C (tgt := 38) dX3_weekdayPastMoon_7 (by decide) (fun c21 => ?_) (fun c21 => ?_)
      · have h := ite_t h c21
        refine j_iconst C (v := (-1)) dX3_weekdayPastMoon_38 (by decide) ?_
        exact j_iret C hr hlk h ⟨Nat.le_of_ble_eq_true rfl, Nat.le_of_ble_eq_true rfl⟩ dX3_weekdayPastMoon_39
      · have h := ite_f h c21
        refine j_aload_n C (q := 0) dX3_weekdayPastMoon_10 rfl rfl ?_
        refine fg_X3_46 C (i := a0) k0 dX3_weekdayPastMoon_11 ?_
        refine j_iload_n C (q := 2) dX3_weekdayPastMoon_14 rfl rfl ?_
        obtain ⟨x22, t23, e24, h⟩ := bd_some h
        refine j_callSN_i C (i := 0) (As := [.int (t0.1 a0 4), .int y3]) (rest := []) (c_X6_moonAge l G B dy (t0.1 a0 4) y3 _ e24) (by decide +kernel : (RX3, 88, yX6_moonAge, RX6) ∈ nestL) tw_369 ti_6 tw_370 hd_X6_moonAge ⟨Nat.le_of_ble_eq_true rfl, Nat.le_of_ble_eq_true rfl⟩ ⟨Nat.le_of_ble_eq_true rfl, Nat.le_of_ble_eq_true rfl⟩ rfl rfl (Nat.le_of_ble_eq_true rfl) dX3_weekdayPastMoon_15 ?_
        refine j_bipush C (v := 14) dX3_weekdayPastMoon_18 (by decide) ?_
        refine j_icmp_ne C (tgt := 32) dX3_weekdayPastMoon_20 (by decide) (fun c25 => ?_) (fun c25 => ?_)
        · have h := ite_t h c25
          refine j_aload_n C (q := 0) dX3_weekdayPastMoon_23 rfl rfl ?_
          refine j_iload_n C (q := 2) dX3_weekdayPastMoon_24 rfl rfl ?_
          refine j_iconst C (v := 1) dX3_weekdayPastMoon_25 (by decide) ?_
          refine j_iadd C dX3_weekdayPastMoon_26 ?_
          refine j_iload_n C (q := 1) dX3_weekdayPastMoon_27 rfl rfl ?_
          obtain ⟨x27, t28, e29, h⟩ := bd_some h
          refine j_callV_i C (i := a0) (As := [.int (y3 + 1), .int x2]) (rest := []) (c_X3_weekdayFrom l G B dy a0 k0 (y3 + 1) x2 _ e29) (shp3 G B _ k0) (kd_lt k0 (by decide)) rfl tw_360 tw_362 tp_5 ti_3 tw_363 hd_X3_weekdayFrom ⟨Nat.le_of_ble_eq_true rfl, Nat.le_of_ble_eq_true rfl⟩ ⟨Nat.le_of_ble_eq_true rfl, Nat.le_of_ble_eq_true rfl⟩ rfl rfl (Nat.le_of_ble_eq_true rfl) dX3_weekdayPastMoon_28 ?_
          exact j_iret C hr hlk h ⟨Nat.le_of_ble_eq_true rfl, Nat.le_of_ble_eq_true rfl⟩ dX3_weekdayPastMoon_31
        · have h := ite_f h c25
          obtain ⟨x26, ex26⟩ : ∃ y : Int32, y = (y3 + 1) := ⟨_, rfl⟩
          have h := lt_at h ex26
          refine j_iinc C (q := 2) [(0, .ref (B + a0)), (2, .int x2), (3, .int x26)] [1, 2, 0] dX3_weekdayPastMoon_32 rfl (by rw [ex26]; rfl) (by decide) rfl ?_
          refine j_goto C (tgt := 2) dX3_weekdayPastMoon_35 (by decide) ?_
          exact ih2 x26 _ h
  refine j_iload_n C (q := 1) dX3_weekdayPastMoon_0 rfl rfl ?_
  refine j_istore_n C [(0, .ref (B + a0)), (1, .int x1), (2, .int x2), (3, .int x1)] [1, 2, 3, 0] dX3_weekdayPastMoon_1 rfl (by decide) rfl ?_
  refine j_sub [0, 2, 3] rfl ?_
  exact J2 FU x1 _ h
set_option maxRecDepth 100000 in
set_option maxHeartbeats 4000000 in
theorem c_X3_dayByRule (l : Launch) (G : GG) (B dy : Nat) (a0 : Nat) (k0 : kd a0 = 3) (a1 : Nat) (k1 : kd a1 = 5) (x2 : Int32) (t0 : St) {r : Int32} {t9 : St} (h : f_X3_dayByRule a0 a1 x2 t0 = some (r, t9)) : Ct l G B dy yX3_dayByRule cX3_dayByRule 5 (some .int) 2 46 0 0 [.ref (B + a0), .ref (B + a1), .int x2] t0 (PostI G B r t9) := by
  refine Ct_of (by decide +kernel) [(0, .ref (B + a0)), (1, .ref (B + a1)), (2, .int x2)] (Nat.le_of_ble_eq_true rfl) rfl ?_
  intro p e s m args below meth c C hr hlk
  refine j_aload_n C (q := 1) dX3_dayByRule_0 rfl rfl ?_
  refine fg_X3_73 C (i := a1) k1 dX3_dayByRule_1 ?_
  refine j_iload_n C (q := 2) dX3_dayByRule_4 rfl rfl ?_
  obtain ⟨x21, t22, e23, h⟩ := bd_some h
  refine j_callV_i C (i := (a1 + 5)) (As := [.int x2]) (rest := []) (c_X4_at l G B dy (a1 + 5) (kR5_5 k1) x2 _ e23) (shp4 G B _ (kR5_5 k1)) (kd_lt (kR5_5 k1) (by decide)) rfl tw_359 tw_323 tw_324 ti_4 tw_325 hd_X4_at ⟨Nat.le_of_ble_eq_true rfl, Nat.le_of_ble_eq_true rfl⟩ ⟨Nat.le_of_ble_eq_true rfl, Nat.le_of_ble_eq_true rfl⟩ rfl rfl (Nat.le_of_ble_eq_true rfl) dX3_dayByRule_5 ?_
  refine j_istore_n C [(0, .ref (B + a0)), (1, .ref (B + a1)), (2, .int x2), (3, .int x21)] [1, 2, 3, 0] dX3_dayByRule_8 rfl (by decide) rfl ?_
  refine j_aload_n C (q := 1) dX3_dayByRule_9 rfl rfl ?_
  refine fg_X3_75 C (i := a1) k1 dX3_dayByRule_10 ?_
  refine j_iload_n C (q := 2) dX3_dayByRule_13 rfl rfl ?_
  obtain ⟨x24, t25, e26, h⟩ := bd_some h
  refine j_callV_i C (i := (a1 + 7)) (As := [.int x2]) (rest := []) (c_X4_at l G B dy (a1 + 7) (kR5_7 k1) x2 _ e26) (shp4 G B _ (kR5_7 k1)) (kd_lt (kR5_7 k1) (by decide)) rfl tw_359 tw_323 tw_324 ti_4 tw_325 hd_X4_at ⟨Nat.le_of_ble_eq_true rfl, Nat.le_of_ble_eq_true rfl⟩ ⟨Nat.le_of_ble_eq_true rfl, Nat.le_of_ble_eq_true rfl⟩ rfl rfl (Nat.le_of_ble_eq_true rfl) dX3_dayByRule_14 ?_
  refine j_istore C [(0, .ref (B + a0)), (1, .ref (B + a1)), (2, .int x2), (3, .int x21), (4, .int x24)] [1, 2, 3, 4, 0] dX3_dayByRule_17 (by decide) rfl ?_
  refine j_aload_n C (q := 1) dX3_dayByRule_19 rfl rfl ?_
  refine fg_X3_78 C (i := a1) k1 dX3_dayByRule_20 ?_
  refine j_iload_n C (q := 2) dX3_dayByRule_23 rfl rfl ?_
  obtain ⟨x27, t28, e29, h⟩ := bd_some h
  refine j_callV_i C (i := (a1 + 1)) (As := [.int x2]) (rest := []) (c_X4_at l G B dy (a1 + 1) (kR5_1 k1) x2 _ e29) (shp4 G B _ (kR5_1 k1)) (kd_lt (kR5_1 k1) (by decide)) rfl tw_359 tw_323 tw_324 ti_4 tw_325 hd_X4_at ⟨Nat.le_of_ble_eq_true rfl, Nat.le_of_ble_eq_true rfl⟩ ⟨Nat.le_of_ble_eq_true rfl, Nat.le_of_ble_eq_true rfl⟩ rfl rfl (Nat.le_of_ble_eq_true rfl) dX3_dayByRule_24 ?_
  by_cases c30 : x27 = 0
  · have h := ite_t h c30
    refine j_tableIn C (tgt := 52) dX3_dayByRule_27 (by rw [c30]; decide) (by rw [c30]; decide) (by rw [c30]; rfl) (by decide) ?_
    refine j_iload_n C (q := 3) dX3_dayByRule_52 rfl rfl ?_
    exact j_iret C hr hlk h ⟨Nat.le_of_ble_eq_true rfl, Nat.le_of_ble_eq_true rfl⟩ dX3_dayByRule_53
  · have h := ite_f h c30
    by_cases c31 : x27 = 1
    · have h := ite_t h c31
      refine j_tableIn C (tgt := 54) dX3_dayByRule_27 (by rw [c31]; decide) (by rw [c31]; decide) (by rw [c31]; rfl) (by decide) ?_
      refine j_aload_n C (q := 0) dX3_dayByRule_54 rfl rfl ?_
      refine j_iload_n C (q := 3) dX3_dayByRule_55 rfl rfl ?_
      refine j_iload C (q := 4) dX3_dayByRule_56 rfl ?_
      obtain ⟨x32, t33, e34, h⟩ := bd_some h
      refine j_callV_i C (i := a0) (As := [.int x21, .int x24]) (rest := []) (c_X3_weekdayFrom l G B dy a0 k0 x21 x24 _ e34) (shp3 G B _ k0) (kd_lt k0 (by decide)) rfl tw_360 tw_362 tp_5 ti_3 tw_363 hd_X3_weekdayFrom ⟨Nat.le_of_ble_eq_true rfl, Nat.le_of_ble_eq_true rfl⟩ ⟨Nat.le_of_ble_eq_true rfl, Nat.le_of_ble_eq_true rfl⟩ rfl rfl (Nat.le_of_ble_eq_true rfl) dX3_dayByRule_58 ?_
      exact j_iret C hr hlk h ⟨Nat.le_of_ble_eq_true rfl, Nat.le_of_ble_eq_true rfl⟩ dX3_dayByRule_61
    · have h := ite_f h c31
      by_cases c35 : x27 = 2
      · have h := ite_t h c35
        refine j_tableIn C (tgt := 62) dX3_dayByRule_27 (by rw [c35]; decide) (by rw [c35]; decide) (by rw [c35]; rfl) (by decide) ?_
        refine j_aload_n C (q := 0) dX3_dayByRule_62 rfl rfl ?_
        refine j_iload_n C (q := 3) dX3_dayByRule_63 rfl rfl ?_
        refine j_iload C (q := 4) dX3_dayByRule_64 rfl ?_
        obtain ⟨x36, t37, e38, h⟩ := bd_some h
        refine j_callV_i C (i := a0) (As := [.int x21, .int x24]) (rest := []) (c_X3_weekdayPastMoon l G B dy a0 k0 x21 x24 _ e38) (shp3 G B _ k0) (kd_lt k0 (by decide)) rfl tw_364 tw_366 tp_6 ti_3 tw_367 hd_X3_weekdayPastMoon ⟨Nat.le_of_ble_eq_true rfl, Nat.le_of_ble_eq_true rfl⟩ ⟨Nat.le_of_ble_eq_true rfl, Nat.le_of_ble_eq_true rfl⟩ rfl rfl (Nat.le_of_ble_eq_true rfl) dX3_dayByRule_66 ?_
        exact j_iret C hr hlk h ⟨Nat.le_of_ble_eq_true rfl, Nat.le_of_ble_eq_true rfl⟩ dX3_dayByRule_69
      · have h := ite_f h c35
        have nc30 := lv_neT c30 (show (0 : Int32).toInt = 0 by decide)
        have nc31 := lv_neT c31 (show (1 : Int32).toInt = 1 by decide)
        have nc35 := lv_neT c35 (show (2 : Int32).toInt = 2 by decide)
        refine j_tableOut C (x := x27) (tgt := 70) dX3_dayByRule_27 (by omega) (by decide) ?_
        refine j_aload_n C (q := 0) dX3_dayByRule_70 rfl rfl ?_
        refine fg_X3_14 C (i := a0) k0 dX3_dayByRule_71 ?_
        refine j_iload C (q := 4) dX3_dayByRule_74 rfl ?_
        obtain ⟨x39, t40, e41, h⟩ := bd_some h
        refine j_callV_i C (i := (a0 + 1)) (As := [.int x24]) (rest := []) (c_X4_at l G B dy (a0 + 1) (kR3_1 k0) x24 _ e41) (shp4 G B _ (kR3_1 k0)) (kd_lt (kR3_1 k0) (by decide)) rfl tw_359 tw_323 tw_324 ti_4 tw_325 hd_X4_at ⟨Nat.le_of_ble_eq_true rfl, Nat.le_of_ble_eq_true rfl⟩ ⟨Nat.le_of_ble_eq_true rfl, Nat.le_of_ble_eq_true rfl⟩ rfl rfl (Nat.le_of_ble_eq_true rfl) dX3_dayByRule_76 ?_
        refine j_iconst C (v := (-1)) dX3_dayByRule_79 (by decide) ?_
        refine j_icmp_ne C (tgt := 87) dX3_dayByRule_80 (by decide) (fun c42 => ?_) (fun c42 => ?_)
        · have h := ite_t h c42
          refine j_iconst C (v := (-1)) dX3_dayByRule_83 (by decide) ?_
          refine j_goto C (tgt := 98) dX3_dayByRule_84 (by decide) ?_
          exact j_iret C hr hlk h ⟨Nat.le_of_ble_eq_true rfl, Nat.le_of_ble_eq_true rfl⟩ dX3_dayByRule_98
        · have h := ite_f h c42
          refine j_aload_n C (q := 0) dX3_dayByRule_87 rfl rfl ?_
          refine fg_X3_14 C (i := a0) k0 dX3_dayByRule_88 ?_
          refine j_iload C (q := 4) dX3_dayByRule_91 rfl ?_
          obtain ⟨x43, t44, e45, h⟩ := bd_some h
          refine j_callV_i C (i := (a0 + 1)) (As := [.int x24]) (rest := []) (c_X4_at l G B dy (a0 + 1) (kR3_1 k0) x24 _ e45) (shp4 G B _ (kR3_1 k0)) (kd_lt (kR3_1 k0) (by decide)) rfl tw_359 tw_323 tw_324 ti_4 tw_325 hd_X4_at ⟨Nat.le_of_ble_eq_true rfl, Nat.le_of_ble_eq_true rfl⟩ ⟨Nat.le_of_ble_eq_true rfl, Nat.le_of_ble_eq_true rfl⟩ rfl rfl (Nat.le_of_ble_eq_true rfl) dX3_dayByRule_93 ?_
          refine j_iload_n C (q := 3) dX3_dayByRule_96 rfl rfl ?_
          refine j_iadd C dX3_dayByRule_97 ?_
          exact j_iret C hr hlk h ⟨Nat.le_of_ble_eq_true rfl, Nat.le_of_ble_eq_true rfl⟩ dX3_dayByRule_98
set_option maxRecDepth 100000 in
set_option maxHeartbeats 4000000 in
theorem c_X3_orNone (l : Launch) (G : GG) (B dy : Nat) (a0 : Nat) (k0 : kd a0 = 3) (x1 : Int32) (t0 : St) {r : Int32} {t9 : St} (h : f_X3_orNone a0 x1 t0 = some (r, t9)) : Ct l G B dy yX3_orNone cX3_orNone 2 (some .int) 0 0 0 0 [.ref (B + a0), .int x1] t0 (PostI G B r t9) := by
  refine Ct_of (by decide +kernel) [(0, .ref (B + a0)), (1, .int x1)] (Nat.le_of_ble_eq_true rfl) rfl ?_
  intro p e s m args below meth c C hr hlk
  refine j_iload_n C (q := 1) dX3_orNone_0 rfl rfl ?_
  refine j_if_lt C (tgt := 16) dX3_orNone_1 (by decide) (fun c21 => ?_) (fun c21 => ?_)
  · have h := ite_t h c21
    refine j_iconst C (v := (-1)) dX3_orNone_16 (by decide) ?_
    exact j_iret C hr hlk h ⟨Nat.le_of_ble_eq_true rfl, Nat.le_of_ble_eq_true rfl⟩ dX3_orNone_17
  · have h := ite_f h c21
    refine j_iload_n C (q := 1) dX3_orNone_4 rfl rfl ?_
    refine j_aload_n C (q := 0) dX3_orNone_5 rfl rfl ?_
    refine fg_X3_27 C (i := a0) k0 dX3_orNone_6 ?_
    refine j_icmp_ge C (tgt := 16) dX3_orNone_9 (by decide) (fun c22 => ?_) (fun c22 => ?_)
    · have h := ite_t h c22
      refine j_iconst C (v := (-1)) dX3_orNone_16 (by decide) ?_
      exact j_iret C hr hlk h ⟨Nat.le_of_ble_eq_true rfl, Nat.le_of_ble_eq_true rfl⟩ dX3_orNone_17
    · have h := ite_f h c22
      refine j_iload_n C (q := 1) dX3_orNone_12 rfl rfl ?_
      refine j_goto C (tgt := 17) dX3_orNone_13 (by decide) ?_
      exact j_iret C hr hlk h ⟨Nat.le_of_ble_eq_true rfl, Nat.le_of_ble_eq_true rfl⟩ dX3_orNone_17
set_option maxRecDepth 100000 in
set_option maxHeartbeats 4000000 in
theorem c_X4_put (l : Launch) (G : GG) (B dy : Nat) (a0 : Nat) (k0 : kd a0 = 4) (x1 : Int32) (x2 : Int32) (t0 : St) {t9 : St} (h : f_X4_put a0 x1 x2 t0 = some t9) : Ct l G B dy yX4_put cX4_put 3 none 0 0 0 0 [.ref (B + a0), .int x1, .int x2] t0 (PostV G B t9) := by
  refine Ct_of (by decide +kernel) [(0, .ref (B + a0)), (1, .int x1), (2, .int x2)] (Nat.le_of_ble_eq_true rfl) rfl ?_
  intro p e s m args below meth c C hr hlk
  refine j_iload_n C (q := 1) dX4_put_0 rfl rfl ?_
  refine j_if_lt C (tgt := 20) dX4_put_1 (by decide) (fun c21 => ?_) (fun c21 => ?_)
  · have h := ite_t h c21
    exact j_vret C hr hlk h ⟨Nat.le_of_ble_eq_true rfl, Nat.le_of_ble_eq_true rfl⟩ dX4_put_20
  · have h := ite_f h c21
    refine j_iload_n C (q := 1) dX4_put_4 rfl rfl ?_
    refine j_aload_n C (q := 0) dX4_put_5 rfl rfl ?_
    refine fg_X4_9 C (i := a0) k0 dX4_put_6 ?_
    refine j_alen8 C (i := (a0 + 1)) (kR4_1 k0) dX4_put_9 ?_
    refine j_icmp_ge C (tgt := 20) dX4_put_10 (by decide) (fun c22 => ?_) (fun c22 => ?_)
    · have h := ite_t h c22
      exact j_vret C hr hlk h ⟨Nat.le_of_ble_eq_true rfl, Nat.le_of_ble_eq_true rfl⟩ dX4_put_20
    · have h := ite_f h c22
      refine j_aload_n C (q := 0) dX4_put_13 rfl rfl ?_
      refine fg_X4_9 C (i := a0) k0 dX4_put_14 ?_
      refine j_iload_n C (q := 1) dX4_put_17 rfl rfl ?_
      refine j_iload_n C (q := 2) dX4_put_18 rfl rfl ?_
      obtain ⟨g23, h⟩ := gd_some h
      refine j_iast C (i := (a0 + 1)) (kR4_1 k0) (inA g23 rfl) dX4_put_19 ?_
      refine j_tops (fun t24 et24 => ?_)
      have h := lt_at h et24
      exact j_vret C hr hlk h ⟨Nat.le_of_ble_eq_true rfl, Nat.le_of_ble_eq_true rfl⟩ dX4_put_20
set_option maxRecDepth 100000 in
set_option maxHeartbeats 4000000 in
theorem c_X4_putNowhere (l : Launch) (G : GG) (B dy : Nat) (a0 : Nat) (k0 : kd a0 = 4) (t0 : St) {t9 : St} (h : f_X4_putNowhere a0 t0 = some t9) : Ct l G B dy yX4_putNowhere cX4_putNowhere 2 none 0 0 0 0 [.ref (B + a0)] t0 (PostV G B t9) := by
  refine Ct_of (by decide +kernel) [(0, .ref (B + a0))] (Nat.le_of_ble_eq_true rfl) rfl ?_
  intro p e s m args below meth c C hr hlk
  have J2 : ∀ (n2 : Nat) (y1 : Int32) (t0 : St), f_X4_putNowhere_l2 n2 a0 y1 t0 = some t9 → WW G B p l e (RM 0 0 0 0) s m args below meth c 0 0 (MQ below (PostV G B t9) args s 0 0 (Ab B)) 2 2 [(0, .ref (B + a0)), (1, .int y1)] [] t0 := by
    intro n2
    induction n2 with
    | zero => intro y1 t0 h; exact (no_some h).elim
    | succ n2 ih2 =>
      try clear h
      intro y1 t0 h
      have h : f_X4_putNowhere_b2 (f_X4_putNowhere_l2 n2) a0 y1 t0 = some t9 := h
      refine j_iload_n C (q := 1) dX4_putNowhere_2 rfl rfl ?_
      refine j_aload_n C (q := 0) dX4_putNowhere_3 rfl rfl ?_
      refine fg_X4_9 C (i := a0) k0 dX4_putNowhere_4 ?_
      refine j_alen8 C (i := (a0 + 1)) (kR4_1 k0) dX4_putNowhere_7 ?_
      refine j_icmp_ge C (tgt := 24) dX4_putNowhere_8 (by decide) (fun c21 => ?_) (fun c21 => ?_)
      · have h := ite_t h c21
        exact j_vret C hr hlk h ⟨Nat.le_of_ble_eq_true rfl, Nat.le_of_ble_eq_true rfl⟩ dX4_putNowhere_24
      · have h := ite_f h c21
        refine j_aload_n C (q := 0) dX4_putNowhere_11 rfl rfl ?_
        refine fg_X4_9 C (i := a0) k0 dX4_putNowhere_12 ?_
        refine j_iload_n C (q := 1) dX4_putNowhere_15 rfl rfl ?_
        refine j_iconst C (v := (-1)) dX4_putNowhere_16 (by decide) ?_
        obtain ⟨g22, h⟩ := gd_some h
        refine j_iast C (i := (a0 + 1)) (kR4_1 k0) (inA g22 rfl) dX4_putNowhere_17 ?_
        refine j_tops (fun t23 et23 => ?_)
        have h := lt_at h et23
        obtain ⟨x24, ex24⟩ : ∃ y : Int32, y = (y1 + 1) := ⟨_, rfl⟩
        have h := lt_at h ex24
        refine j_iinc C (q := 1) [(0, .ref (B + a0)), (1, .int x24)] [1, 0] dX4_putNowhere_18 rfl (by rw [ex24]; rfl) (by decide) rfl ?_
        refine j_goto C (tgt := 2) dX4_putNowhere_21 (by decide) ?_
        exact ih2 x24 _ h
  refine j_iconst C (v := 0) dX4_putNowhere_0 (by decide) ?_
  refine j_istore_n C [(0, .ref (B + a0)), (1, .int 0)] [1, 0] dX4_putNowhere_1 rfl (by decide) rfl ?_
  exact J2 FU 0 _ h
set_option maxRecDepth 100000 in
set_option maxHeartbeats 4000000 in
theorem c_X3_hasNotch (l : Launch) (G : GG) (B dy : Nat) (a0 : Nat) (k0 : kd a0 = 3) (x1 : Int32) (x2 : Int32) (t0 : St) {r : Int32} {t9 : St} (h : f_X3_hasNotch a0 x1 x2 t0 = some (r, t9)) : Ct l G B dy yX3_hasNotch cX3_hasNotch 4 (some .boolean) 1 21 0 0 [.ref (B + a0), .int x1, .int x2] t0 (PostI G B r t9) := by
  refine Ct_of (by decide +kernel) [(0, .ref (B + a0)), (1, .int x1), (2, .int x2)] (Nat.le_of_ble_eq_true rfl) rfl ?_
  intro p e s m args below meth c C hr hlk
  have J2 : ∀ (n2 : Nat) (y3 : Int32) (t0 : St), f_X3_hasNotch_l2 n2 a0 x1 x2 y3 t0 = some (r, t9) → WW G B p l e (RM 1 21 0 0) s m args below meth c 0 0 (MQ below (PostI G B r t9) args s 0 0 (Ab B)) 4 2 [(0, .ref (B + a0)), (1, .int x1), (2, .int x2), (3, .int y3)] [] t0 := by
    intro n2
    induction n2 with
    | zero => intro y3 t0 h; exact (no_some h).elim
    | succ n2 ih2 =>
      try clear h
      intro y3 t0 h
      have h : f_X3_hasNotch_b2 (f_X3_hasNotch_l2 n2) a0 x1 x2 y3 t0 = some (r, t9) := h
      refine j_iload_n C (q := 3) dX3_hasNotch_2 rfl rfl ?_
      refine j_iload_n C (q := 2) dX3_hasNotch_3 rfl rfl ?_
      refine j_icmp_ge C (tgt := 27) dX3_hasNotch_4 (by decide) (fun c21 => ?_) (fun c21 => ?_)
      · have h := ite_t h c21
        refine j_iconst C (v := 0) dX3_hasNotch_27 (by decide) ?_
        exact j_zret C hr hlk (Or.inl rfl) h ⟨Nat.le_of_ble_eq_true rfl, Nat.le_of_ble_eq_true rfl⟩ dX3_hasNotch_28
      · have h := ite_f h c21
        refine j_aload_n C (q := 0) dX3_hasNotch_7 rfl rfl ?_
        refine fg_X3_20 C (i := a0) k0 dX3_hasNotch_8 ?_
        refine j_iload_n C (q := 3) dX3_hasNotch_11 rfl rfl ?_
        obtain ⟨x22, t23, e24, h⟩ := bd_some h
        refine j_callV_i C (i := (a0 + 3)) (As := [.int y3]) (rest := []) (c_X4_at l G B dy (a0 + 3) (kR3_3 k0) y3 _ e24) (shp4 G B _ (kR3_3 k0)) (kd_lt (kR3_3 k0) (by decide)) rfl tw_359 tw_323 tw_324 ti_4 tw_325 hd_X4_at ⟨Nat.le_of_ble_eq_true rfl, Nat.le_of_ble_eq_true rfl⟩ ⟨Nat.le_of_ble_eq_true rfl, Nat.le_of_ble_eq_true rfl⟩ rfl rfl (Nat.le_of_ble_eq_true rfl) dX3_hasNotch_12 ?_
        refine j_iload_n C (q := 1) dX3_hasNotch_15 rfl rfl ?_
        refine j_icmp_ne C (tgt := 21) dX3_hasNotch_16 (by decide) (fun c25 => ?_) (fun c25 => ?_)
        · have h := ite_t h c25
          refine j_iconst C (v := 1) dX3_hasNotch_19 (by decide) ?_
          exact j_zret C hr hlk (Or.inr rfl) h ⟨Nat.le_of_ble_eq_true rfl, Nat.le_of_ble_eq_true rfl⟩ dX3_hasNotch_20
        · have h := ite_f h c25
          obtain ⟨x26, ex26⟩ : ∃ y : Int32, y = (y3 + 1) := ⟨_, rfl⟩
          have h := lt_at h ex26
          refine j_iinc C (q := 3) [(0, .ref (B + a0)), (1, .int x1), (2, .int x2), (3, .int x26)] [1, 2, 3, 0] dX3_hasNotch_21 rfl (by rw [ex26]; rfl) (by decide) rfl ?_
          refine j_goto C (tgt := 2) dX3_hasNotch_24 (by decide) ?_
          exact ih2 x26 _ h
  refine j_iconst C (v := 0) dX3_hasNotch_0 (by decide) ?_
  refine j_istore_n C [(0, .ref (B + a0)), (1, .int x1), (2, .int x2), (3, .int 0)] [1, 2, 3, 0] dX3_hasNotch_1 rfl (by decide) rfl ?_
  exact J2 FU 0 _ h
set_option maxRecDepth 100000 in
set_option maxHeartbeats 4000000 in
theorem c_X3_cutNotches (l : Launch) (G : GG) (B dy : Nat) (a0 : Nat) (k0 : kd a0 = 3) (a1 : Nat) (k1 : kd a1 = 5) (x2 : Int32) (t0 : St) {t9 : St} (h : f_X3_cutNotches a0 a1 x2 t0 = some t9) : Ct l G B dy yX3_cutNotches cX3_cutNotches 6 none 2 44 0 0 [.ref (B + a0), .ref (B + a1), .int x2] t0 (PostV G B t9) := by
  refine Ct_of (by decide +kernel) [(0, .ref (B + a0)), (1, .ref (B + a1)), (2, .int x2)] (Nat.le_of_ble_eq_true rfl) rfl ?_
  intro p e s m args below meth c C hr hlk
  have J2 : ∀ (n2 : Nat) (y3 : Int32) (t0 : St), f_X3_cutNotches_l2 n2 a0 a1 x2 y3 t0 = some t9 → WW G B p l e (RM 2 44 0 0) s m args below meth c 0 0 (MQ below (PostV G B t9) args s 0 0 (Ab B)) 6 2 [(0, .ref (B + a0)), (1, .ref (B + a1)), (2, .int x2), (3, .int y3)] [] t0 := by
    intro n2
    induction n2 with
    | zero => intro y3 t0 h; exact (no_some h).elim
    | succ n2 ih2 =>
      try clear h
      have J72 : ∀ (y3 : Int32) (y4 : Int32) (t0 : St), f_X3_cutNotches_b72 (f_X3_cutNotches_l2 n2) a0 a1 x2 y3 y4 t0 = some t9 → WW G B p l e (RM 2 44 0 0) s m args below meth c 0 0 (MQ below (PostV G B t9) args s 0 0 (Ab B)) 6 72 [(0, .ref (B + a0)), (1, .ref (B + a1)), (2, .int x2), (3, .int y3), (4, .int y4)] [] t0 := by
        intro y3 y4 t0 h
        refine j_aload_n C (q := 0) dX3_cutNotches_72 rfl rfl ?_
        refine fg_X3_20 C (i := a0) k0 dX3_cutNotches_73 ?_
        refine j_iload_n C (q := 3) dX3_cutNotches_76 rfl rfl ?_
        refine j_aload_n C (q := 0) dX3_cutNotches_77 rfl rfl ?_
        refine j_iload C (q := 4) dX3_cutNotches_78 rfl ?_
        obtain ⟨x21, t22, e23, h⟩ := bd_some h
        refine j_callV_i C (i := a0) (As := [.int y4]) (rest := [.int y3, .ref (B + (a0 + 3))]) (c_X3_orNone l G B dy a0 k0 y4 _ e23) (shp3 G B _ k0) (kd_lt k0 (by decide)) rfl tw_371 tw_373 tp_7 ti_3 tw_374 hd_X3_orNone ⟨Nat.le_of_ble_eq_true rfl, Nat.le_of_ble_eq_true rfl⟩ ⟨Nat.le_of_ble_eq_true rfl, Nat.le_of_ble_eq_true rfl⟩ rfl rfl (Nat.le_of_ble_eq_true rfl) dX3_cutNotches_80 ?_
        obtain ⟨t25, e26, h⟩ := bv_some h
        refine j_callV_v C (i := (a0 + 3)) (As := [.int y3, .int x21]) (rest := []) (c_X4_put l G B dy (a0 + 3) (kR3_3 k0) y3 x21 _ e26) (shp4 G B _ (kR3_3 k0)) (kd_lt (kR3_3 k0) (by decide)) rfl tw_375 tw_376 tw_377 ti_4 tw_378 hd_X4_put ⟨Nat.le_of_ble_eq_true rfl, Nat.le_of_ble_eq_true rfl⟩ ⟨Nat.le_of_ble_eq_true rfl, Nat.le_of_ble_eq_true rfl⟩ rfl rfl (Nat.le_of_ble_eq_true rfl) dX3_cutNotches_83 ?_
        obtain ⟨x27, ex27⟩ : ∃ y : Int32, y = (y3 + 1) := ⟨_, rfl⟩
        have h := lt_at h ex27
        refine j_iinc C (q := 3) [(0, .ref (B + a0)), (1, .ref (B + a1)), (2, .int x2), (3, .int x27), (4, .int y4)] [1, 2, 3, 0, 4] dX3_cutNotches_86 rfl (by rw [ex27]; rfl) (by decide) rfl ?_
        refine j_goto C (tgt := 2) dX3_cutNotches_89 (by decide) ?_
        refine j_sub [0, 1, 2, 3] rfl ?_
        exact ih2 x27 _ h
      have J41 : ∀ (n41 : Nat) (y3 : Int32) (y4 : Int32) (y5 : Int32) (t0 : St), f_X3_cutNotches_l41 (f_X3_cutNotches_l2 n2) n41 a0 a1 x2 y3 y4 y5 t0 = some t9 → WW G B p l e (RM 2 44 0 0) s m args below meth c 0 0 (MQ below (PostV G B t9) args s 0 0 (Ab B)) 6 41 [(0, .ref (B + a0)), (1, .ref (B + a1)), (2, .int x2), (3, .int y3), (4, .int y4), (5, .int y5)] [] t0 := by
        intro n41
        induction n41 with
        | zero => intro y3 y4 y5 t0 h; exact (no_some h).elim
        | succ n41 ih41 =>
          try clear h
          intro y3 y4 y5 t0 h
          have h : f_X3_cutNotches_b41 (f_X3_cutNotches_l2 n2) (f_X3_cutNotches_l41 (f_X3_cutNotches_l2 n2) n41) a0 a1 x2 y3 y4 y5 t0 = some t9 := h
          refine j_iload C (q := 5) dX3_cutNotches_41 rfl ?_
          refine j_aload_n C (q := 1) dX3_cutNotches_43 rfl rfl ?_
          refine fg_X3_49 C (i := a1) k1 dX3_cutNotches_44 ?_
          refine j_icmp_ge C (tgt := 72) dX3_cutNotches_47 (by decide) (fun c28 => ?_) (fun c28 => ?_)
          · have h := ite_t h c28
            refine j_sub [0, 1, 2, 3, 4] rfl ?_
            exact J72 y3 y4 _ h
          · have h := ite_f h c28
            refine j_aload_n C (q := 0) dX3_cutNotches_50 rfl rfl ?_
            refine j_iload C (q := 4) dX3_cutNotches_51 rfl ?_
            refine j_aload_n C (q := 1) dX3_cutNotches_53 rfl rfl ?_
            refine fg_X3_49 C (i := a1) k1 dX3_cutNotches_54 ?_
            obtain ⟨x29, t30, e31, h⟩ := bd_some h
            refine j_callV_i C (i := a0) (As := [.int y4, .int (t0.1 a1 0)]) (rest := []) (c_X3_hasNotch l G B dy a0 k0 y4 (t0.1 a1 0) _ e31) (shp3 G B _ k0) (kd_lt k0 (by decide)) rfl tw_387 tw_389 tp_9 ti_3 tw_390 hd_X3_hasNotch ⟨Nat.le_of_ble_eq_true rfl, Nat.le_of_ble_eq_true rfl⟩ ⟨Nat.le_of_ble_eq_true rfl, Nat.le_of_ble_eq_true rfl⟩ rfl rfl (Nat.le_of_ble_eq_true rfl) dX3_cutNotches_57 ?_
            refine j_if_eq C (tgt := 72) dX3_cutNotches_60 (by decide) (fun c32 => ?_) (fun c32 => ?_)
            · have h := ite_t h c32
              refine j_sub [0, 1, 2, 3, 4] rfl ?_
              exact J72 y3 y4 _ h
            · have h := ite_f h c32
              obtain ⟨x33, ex33⟩ : ∃ y : Int32, y = (y4 + 1) := ⟨_, rfl⟩
              have h := lt_at h ex33
              refine j_iinc C (q := 4) [(0, .ref (B + a0)), (1, .ref (B + a1)), (2, .int x2), (3, .int y3), (4, .int x33), (5, .int y5)] [1, 2, 3, 4, 0, 5] dX3_cutNotches_63 rfl (by rw [ex33]; rfl) (by decide) rfl ?_
              obtain ⟨x34, ex34⟩ : ∃ y : Int32, y = (y5 + 1) := ⟨_, rfl⟩
              have h := lt_at h ex34
              refine j_iinc C (q := 5) [(0, .ref (B + a0)), (1, .ref (B + a1)), (2, .int x2), (3, .int y3), (4, .int x33), (5, .int x34)] [1, 2, 3, 4, 5, 0] dX3_cutNotches_66 rfl (by rw [ex34]; rfl) (by decide) rfl ?_
              refine j_goto C (tgt := 41) dX3_cutNotches_69 (by decide) ?_
              exact ih41 y3 x33 x34 _ h
      intro y3 t0 h
      have h : f_X3_cutNotches_b2 (f_X3_cutNotches_l2 n2) a0 a1 x2 y3 t0 = some t9 := h
      refine j_iload_n C (q := 3) dX3_cutNotches_2 rfl rfl ?_
      refine j_aload_n C (q := 1) dX3_cutNotches_3 rfl rfl ?_
      refine fg_X3_49 C (i := a1) k1 dX3_cutNotches_4 ?_
      refine j_icmp_ge C (tgt := 92) dX3_cutNotches_7 (by decide) (fun c35 => ?_) (fun c35 => ?_)
      · have h := ite_t h c35
        exact j_vret C hr hlk h ⟨Nat.le_of_ble_eq_true rfl, Nat.le_of_ble_eq_true rfl⟩ dX3_cutNotches_92
      · have h := ite_f h c35
        refine j_aload_n C (q := 0) dX3_cutNotches_10 rfl rfl ?_
        refine fg_X3_14 C (i := a0) k0 dX3_cutNotches_11 ?_
        refine j_iload_n C (q := 3) dX3_cutNotches_14 rfl rfl ?_
        obtain ⟨x36, t37, e38, h⟩ := bd_some h
        refine j_callV_i C (i := (a0 + 1)) (As := [.int y3]) (rest := []) (c_X4_at l G B dy (a0 + 1) (kR3_1 k0) y3 _ e38) (shp4 G B _ (kR3_1 k0)) (kd_lt (kR3_1 k0) (by decide)) rfl tw_359 tw_323 tw_324 ti_4 tw_325 hd_X4_at ⟨Nat.le_of_ble_eq_true rfl, Nat.le_of_ble_eq_true rfl⟩ ⟨Nat.le_of_ble_eq_true rfl, Nat.le_of_ble_eq_true rfl⟩ rfl rfl (Nat.le_of_ble_eq_true rfl) dX3_cutNotches_15 ?_
        refine j_istore C [(0, .ref (B + a0)), (1, .ref (B + a1)), (2, .int x2), (3, .int y3), (4, .int x36)] [1, 2, 3, 4, 0] dX3_cutNotches_18 (by decide) rfl ?_
        refine j_iload C (q := 4) dX3_cutNotches_20 rfl ?_
        refine j_iconst C (v := (-1)) dX3_cutNotches_22 (by decide) ?_
        refine j_icmp_eq C (tgt := 86) dX3_cutNotches_23 (by decide) (fun c39 => ?_) (fun c39 => ?_)
        · have h := ite_t h c39
          obtain ⟨x40, ex40⟩ : ∃ y : Int32, y = (y3 + 1) := ⟨_, rfl⟩
          have h := lt_at h ex40
          refine j_iinc C (q := 3) [(0, .ref (B + a0)), (1, .ref (B + a1)), (2, .int x2), (3, .int x40), (4, .int x36)] [1, 2, 3, 0, 4] dX3_cutNotches_86 rfl (by rw [ex40]; rfl) (by decide) rfl ?_
          refine j_goto C (tgt := 2) dX3_cutNotches_89 (by decide) ?_
          refine j_sub [0, 1, 2, 3] rfl ?_
          exact ih2 x40 _ h
        · have h := ite_f h c39
          refine j_aload_n C (q := 1) dX3_cutNotches_26 rfl rfl ?_
          refine fg_X3_91 C (i := a1) k1 dX3_cutNotches_27 ?_
          refine j_iload_n C (q := 3) dX3_cutNotches_30 rfl rfl ?_
          obtain ⟨x41, t42, e43, h⟩ := bd_some h
          refine j_callV_i C (i := (a1 + 3)) (As := [.int y3]) (rest := []) (c_X4_at l G B dy (a1 + 3) (kR5_3 k1) y3 _ e43) (shp4 G B _ (kR5_3 k1)) (kd_lt (kR5_3 k1) (by decide)) rfl tw_359 tw_323 tw_324 ti_4 tw_325 hd_X4_at ⟨Nat.le_of_ble_eq_true rfl, Nat.le_of_ble_eq_true rfl⟩ ⟨Nat.le_of_ble_eq_true rfl, Nat.le_of_ble_eq_true rfl⟩ rfl rfl (Nat.le_of_ble_eq_true rfl) dX3_cutNotches_31 ?_
          refine j_iload_n C (q := 2) dX3_cutNotches_34 rfl rfl ?_
          refine j_icmp_ne C (tgt := 86) dX3_cutNotches_35 (by decide) (fun c44 => ?_) (fun c44 => ?_)
          · have h := ite_t h c44
            refine j_iconst C (v := 0) dX3_cutNotches_38 (by decide) ?_
            refine j_istore C [(0, .ref (B + a0)), (1, .ref (B + a1)), (2, .int x2), (3, .int y3), (4, .int x36), (5, .int 0)] [1, 2, 3, 4, 5, 0] dX3_cutNotches_39 (by decide) rfl ?_
            exact J41 FU y3 x36 0 _ h
          · have h := ite_f h c44
            obtain ⟨x45, ex45⟩ : ∃ y : Int32, y = (y3 + 1) := ⟨_, rfl⟩
            have h := lt_at h ex45
            refine j_iinc C (q := 3) [(0, .ref (B + a0)), (1, .ref (B + a1)), (2, .int x2), (3, .int x45), (4, .int x36)] [1, 2, 3, 0, 4] dX3_cutNotches_86 rfl (by rw [ex45]; rfl) (by decide) rfl ?_
            refine j_goto C (tgt := 2) dX3_cutNotches_89 (by decide) ?_
            refine j_sub [0, 1, 2, 3] rfl ?_
            exact ih2 x45 _ h
  refine j_iconst C (v := 0) dX3_cutNotches_0 (by decide) ?_
  refine j_istore_n C [(0, .ref (B + a0)), (1, .ref (B + a1)), (2, .int x2), (3, .int 0)] [1, 2, 3, 0] dX3_cutNotches_1 rfl (by decide) rfl ?_
  exact J2 FU 0 _ h
set_option maxRecDepth 100000 in
set_option maxHeartbeats 4000000 in
theorem c_X3_reckon (l : Launch) (G : GG) (B dy : Nat) (a0 : Nat) (k0 : kd a0 = 3) (a1 : Nat) (k1 : kd a1 = 5) (x2 : Int32) (x3 : Int32) (t0 : St) {t9 : St} (h : f_X3_reckon a0 a1 x2 x3 t0 = some t9) : Ct l G B dy yX3_reckon cX3_reckon 5 none 3 70 0 0 [.ref (B + a0), .ref (B + a1), .int x2, .int x3] t0 (PostV G B t9) := by
  refine Ct_of (by decide +kernel) [(0, .ref (B + a0)), (1, .ref (B + a1)), (2, .int x2), (3, .int x3)] (Nat.le_of_ble_eq_true rfl) rfl ?_
  intro p e s m args below meth c C hr hlk
  have J78 : ∀ (n78 : Nat) (y4 : Int32) (t0 : St), f_X3_reckon_l78 n78 a0 a1 y4 t0 = some t9 → WW G B p l e (RM 3 70 0 0) s m args below meth c 0 0 (MQ below (PostV G B t9) args s 0 0 (Ab B)) 5 78 [(0, .ref (B + a0)), (1, .ref (B + a1)), (4, .int y4)] [] t0 := by
    intro n78
    induction n78 with
    | zero => intro y4 t0 h; exact (no_some h).elim
    | succ n78 ih78 =>
      try clear h
      intro y4 t0 h
      have h : f_X3_reckon_b78 (f_X3_reckon_l78 n78) a0 a1 y4 t0 = some t9 := h
      refine j_iload C (q := 2) dX3_reckon_78 rfl ?_
      refine j_if_lt C (tgt := 96) dX3_reckon_80 (by decide) (fun c21 => ?_) (fun c21 => ?_)
      · have h := ite_t h c21
        exact j_vret C hr hlk h ⟨Nat.le_of_ble_eq_true rfl, Nat.le_of_ble_eq_true rfl⟩ dX3_reckon_96
      · have h := ite_f h c21
        refine j_aload_n C (q := 0) dX3_reckon_83 rfl rfl ?_
        refine j_aload_n C (q := 1) dX3_reckon_84 rfl rfl ?_
        refine j_iload C (q := 2) dX3_reckon_85 rfl ?_
        obtain ⟨t23, e24, h⟩ := bv_some h
        refine j_callV_v C (i := a0) (As := [.ref (B + a1), .int y4]) (rest := []) (c_X3_cutNotches l G B dy a0 k0 a1 k1 y4 _ e24) (shp3 G B _ k0) (kd_lt k0 (by decide)) rfl tw_383 tw_385 tp_8 ti_3 tw_386 hd_X3_cutNotches ⟨Nat.le_of_ble_eq_true rfl, Nat.le_of_ble_eq_true rfl⟩ ⟨Nat.le_of_ble_eq_true rfl, Nat.le_of_ble_eq_true rfl⟩ rfl rfl (Nat.le_of_ble_eq_true rfl) dX3_reckon_87 ?_
        obtain ⟨x25, ex25⟩ : ∃ y : Int32, y = (y4 + (-1)) := ⟨_, rfl⟩
        have h := lt_at h ex25
        refine j_iinc C (q := 2) [(0, .ref (B + a0)), (1, .ref (B + a1)), (4, .int x25)] [1, 2, 0] dX3_reckon_90 rfl (by rw [ex25]; rfl) (by decide) rfl ?_
        refine j_goto C (tgt := 78) dX3_reckon_93 (by decide) ?_
        exact ih78 x25 _ h
  have J32 : ∀ (n32 : Nat) (y4 : Int32) (t0 : St), f_X3_reckon_l32 n32 a0 a1 y4 t0 = some t9 → WW G B p l e (RM 3 70 0 0) s m args below meth c 0 0 (MQ below (PostV G B t9) args s 0 0 (Ab B)) 5 32 [(0, .ref (B + a0)), (1, .ref (B + a1)), (4, .int y4)] [] t0 := by
    intro n32
    induction n32 with
    | zero => intro y4 t0 h; exact (no_some h).elim
    | succ n32 ih32 =>
      try clear h
      intro y4 t0 h
      have h : f_X3_reckon_b32 (f_X3_reckon_l32 n32) a0 a1 y4 t0 = some t9 := h
      refine j_iload C (q := 2) dX3_reckon_32 rfl ?_
      refine j_aload_n C (q := 1) dX3_reckon_34 rfl rfl ?_
      refine fg_X3_49 C (i := a1) k1 dX3_reckon_35 ?_
      refine j_icmp_ge C (tgt := 67) dX3_reckon_38 (by decide) (fun c26 => ?_) (fun c26 => ?_)
      · have h := ite_t h c26
        refine j_aload_n C (q := 0) dX3_reckon_67 rfl rfl ?_
        refine fg_X3_20 C (i := a0) k0 dX3_reckon_68 ?_
        obtain ⟨t28, e29, h⟩ := bv_some h
        refine j_callV_v C (i := (a0 + 3)) (As := []) (rest := []) (c_X4_putNowhere l G B dy (a0 + 3) (kR3_3 k0) _ e29) (shp4 G B _ (kR3_3 k0)) (kd_lt (kR3_3 k0) (by decide)) rfl tw_379 tw_380 tw_381 ti_4 tw_382 hd_X4_putNowhere ⟨Nat.le_of_ble_eq_true rfl, Nat.le_of_ble_eq_true rfl⟩ ⟨Nat.le_of_ble_eq_true rfl, Nat.le_of_ble_eq_true rfl⟩ rfl rfl (Nat.le_of_ble_eq_true rfl) dX3_reckon_71 ?_
        refine j_bipush C (v := 9) dX3_reckon_74 (by decide) ?_
        refine j_istore C [(0, .ref (B + a0)), (1, .ref (B + a1)), (4, .int 9)] [1, 2, 0] dX3_reckon_76 (by decide) rfl ?_
        exact J78 FU 9 _ h
      · have h := ite_f h c26
        refine j_aload_n C (q := 0) dX3_reckon_41 rfl rfl ?_
        refine fg_X3_14 C (i := a0) k0 dX3_reckon_42 ?_
        refine j_iload C (q := 2) dX3_reckon_45 rfl ?_
        refine j_aload_n C (q := 0) dX3_reckon_47 rfl rfl ?_
        refine j_aload_n C (q := 0) dX3_reckon_48 rfl rfl ?_
        refine j_aload_n C (q := 1) dX3_reckon_49 rfl rfl ?_
        refine j_iload C (q := 2) dX3_reckon_50 rfl ?_
        obtain ⟨x30, t31, e32, h⟩ := bd_some h
        refine j_callV_i C (i := a0) (As := [.ref (B + a1), .int y4]) (rest := [.ref (B + a0), .int y4, .ref (B + (a0 + 1))]) (c_X3_dayByRule l G B dy a0 k0 a1 k1 y4 _ e32) (shp3 G B _ k0) (kd_lt k0 (by decide)) rfl tw_355 tw_357 tp_4 ti_3 tw_358 hd_X3_dayByRule ⟨Nat.le_of_ble_eq_true rfl, Nat.le_of_ble_eq_true rfl⟩ ⟨Nat.le_of_ble_eq_true rfl, Nat.le_of_ble_eq_true rfl⟩ rfl rfl (Nat.le_of_ble_eq_true rfl) dX3_reckon_52 ?_
        obtain ⟨x33, t34, e35, h⟩ := bd_some h
        refine j_callV_i C (i := a0) (As := [.int x30]) (rest := [.int y4, .ref (B + (a0 + 1))]) (c_X3_orNone l G B dy a0 k0 x30 _ e35) (shp3 G B _ k0) (kd_lt k0 (by decide)) rfl tw_371 tw_373 tp_7 ti_3 tw_374 hd_X3_orNone ⟨Nat.le_of_ble_eq_true rfl, Nat.le_of_ble_eq_true rfl⟩ ⟨Nat.le_of_ble_eq_true rfl, Nat.le_of_ble_eq_true rfl⟩ rfl rfl (Nat.le_of_ble_eq_true rfl) dX3_reckon_55 ?_
        obtain ⟨t37, e38, h⟩ := bv_some h
        refine j_callV_v C (i := (a0 + 1)) (As := [.int y4, .int x33]) (rest := []) (c_X4_put l G B dy (a0 + 1) (kR3_1 k0) y4 x33 _ e38) (shp4 G B _ (kR3_1 k0)) (kd_lt (kR3_1 k0) (by decide)) rfl tw_375 tw_376 tw_377 ti_4 tw_378 hd_X4_put ⟨Nat.le_of_ble_eq_true rfl, Nat.le_of_ble_eq_true rfl⟩ ⟨Nat.le_of_ble_eq_true rfl, Nat.le_of_ble_eq_true rfl⟩ rfl rfl (Nat.le_of_ble_eq_true rfl) dX3_reckon_58 ?_
        obtain ⟨x39, ex39⟩ : ∃ y : Int32, y = (y4 + 1) := ⟨_, rfl⟩
        have h := lt_at h ex39
        refine j_iinc C (q := 2) [(0, .ref (B + a0)), (1, .ref (B + a1)), (4, .int x39)] [1, 2, 0] dX3_reckon_61 rfl (by rw [ex39]; rfl) (by decide) rfl ?_
        refine j_goto C (tgt := 32) dX3_reckon_64 (by decide) ?_
        exact ih32 x39 _ h
  refine j_aload_n C (q := 0) dX3_reckon_0 rfl rfl ?_
  refine j_iload_n C (q := 2) dX3_reckon_1 rfl rfl ?_
  obtain ⟨x40, t41, e42, h⟩ := bd_some h
  refine j_callSN_i C (i := 0) (As := [.int x2]) (rest := [.ref (B + a0)]) (c_X6_daysIn l G B dy x2 _ e42) (by decide +kernel : (RX3, 23, yX6_daysIn, RX6) ∈ nestL) tw_344 ti_6 tw_345 hd_X6_daysIn ⟨Nat.le_of_ble_eq_true rfl, Nat.le_of_ble_eq_true rfl⟩ ⟨Nat.le_of_ble_eq_true rfl, Nat.le_of_ble_eq_true rfl⟩ rfl rfl (Nat.le_of_ble_eq_true rfl) dX3_reckon_2 ?_
  refine fp_X3_27 C (i := a0) k0 dX3_reckon_5 ?_
  refine j_tops (fun t43 et43 => ?_)
  have h := lt_at h et43
  refine j_aload_n C (q := 0) dX3_reckon_8 rfl rfl ?_
  refine j_iload_n C (q := 2) dX3_reckon_9 rfl rfl ?_
  obtain ⟨x44, t45, e46, h⟩ := bd_some h
  refine j_callSN_i C (i := 0) (As := [.int x2]) (rest := [.ref (B + a0)]) (c_X6_newYearWeekday l G B dy x2 _ e46) (by decide +kernel : (RX3, 31, yX6_newYearWeekday, RX6) ∈ nestL) tw_350 ti_6 tw_351 hd_X6_newYearWeekday ⟨Nat.le_of_ble_eq_true rfl, Nat.le_of_ble_eq_true rfl⟩ ⟨Nat.le_of_ble_eq_true rfl, Nat.le_of_ble_eq_true rfl⟩ rfl rfl (Nat.le_of_ble_eq_true rfl) dX3_reckon_10 ?_
  refine fp_X3_34 C (i := a0) k0 dX3_reckon_13 ?_
  refine j_tops (fun t47 et47 => ?_)
  have h := lt_at h et47
  refine j_aload_n C (q := 0) dX3_reckon_16 rfl rfl ?_
  refine j_iload_n C (q := 2) dX3_reckon_17 rfl rfl ?_
  refine j_iload_n C (q := 3) dX3_reckon_18 rfl rfl ?_
  refine j_aload_n C (q := 1) dX3_reckon_19 rfl rfl ?_
  refine fg_X3_37 C (i := a1) k1 dX3_reckon_20 ?_
  obtain ⟨x48, t49, e50, h⟩ := bd_some h
  refine j_callSN_i C (i := 0) (As := [.int x2, .int x3, .int (t47.1 a1 6)]) (rest := [.ref (B + a0)]) (c_X6_moonShift l G B dy x2 x3 (t47.1 a1 6) _ e50) (by decide +kernel : (RX3, 42, yX6_moonShift, RX6) ∈ nestL) tw_353 ti_6 tw_354 hd_X6_moonShift ⟨Nat.le_of_ble_eq_true rfl, Nat.le_of_ble_eq_true rfl⟩ ⟨Nat.le_of_ble_eq_true rfl, Nat.le_of_ble_eq_true rfl⟩ rfl rfl (Nat.le_of_ble_eq_true rfl) dX3_reckon_23 ?_
  refine fp_X3_46 C (i := a0) k0 dX3_reckon_26 ?_
  refine j_tops (fun t51 et51 => ?_)
  have h := lt_at h et51
  refine j_iconst C (v := 0) dX3_reckon_29 (by decide) ?_
  refine j_istore C [(0, .ref (B + a0)), (1, .ref (B + a1)), (2, .int x2), (3, .int x3), (4, .int 0)] [1, 2, 3, 4, 0] dX3_reckon_30 (by decide) rfl ?_
  refine j_sub [0, 1, 4] rfl ?_
  exact J32 FU 0 _ h
set_option maxRecDepth 100000 in
set_option maxHeartbeats 4000000 in
theorem c_X0_gather (l : Launch) (G : GG) (B dy : Nat) (a0 : Nat) (k0 : kd a0 = 0) (a1 : Nat) (k1 : kd a1 = 5) (x2 : Int32) (t0 : St) {t9 : St} (h : f_X0_gather a0 a1 x2 t0 = some t9) : Ct l G B dy yX0_gather cX0_gather 4 none 4 94 0 0 [.ref (B + a0), .ref (B + a1), .int x2] t0 (PostV G B t9) := by
  refine Ct_of (by decide +kernel) [(0, .ref (B + a0)), (1, .ref (B + a1)), (2, .int x2)] (Nat.le_of_ble_eq_true rfl) rfl ?_
  intro p e s m args below meth c C hr hlk
  have J2 : ∀ (n2 : Nat) (y3 : Int32) (t0 : St), f_X0_gather_l2 n2 a0 a1 x2 y3 t0 = some t9 → WW G B p l e (RM 4 94 0 0) s m args below meth c 0 0 (MQ below (PostV G B t9) args s 0 0 (Ab B)) 4 2 [(0, .ref (B + a0)), (1, .ref (B + a1)), (2, .int x2), (3, .int y3)] [] t0 := by
    intro n2
    induction n2 with
    | zero => intro y3 t0 h; exact (no_some h).elim
    | succ n2 ih2 =>
      try clear h
      intro y3 t0 h
      have h : f_X0_gather_b2 (f_X0_gather_l2 n2) a0 a1 x2 y3 t0 = some t9 := h
      refine j_iload_n C (q := 3) dX0_gather_2 rfl rfl ?_
      refine j_iconst C (v := 3) dX0_gather_3 (by decide) ?_
      refine j_icmp_ge C (tgt := 31) dX0_gather_4 (by decide) (fun c21 => ?_) (fun c21 => ?_)
      · have h := ite_t h c21
        exact j_vret C hr hlk h ⟨Nat.le_of_ble_eq_true rfl, Nat.le_of_ble_eq_true rfl⟩ dX0_gather_31
      · have h := ite_f h c21
        refine j_aload_n C (q := 0) dX0_gather_7 rfl rfl ?_
        refine j_iload_n C (q := 3) dX0_gather_8 rfl rfl ?_
        obtain ⟨x22, t23, e24, h⟩ := bd_some h
        refine j_callV_q C (i := a0) (As := [.int y3]) (rest := []) (c_X0_by l G B dy a0 k0 y3 _ e24) (shp0 G B _ k0) (kd_lt k0 (by decide)) rfl tw_622 tw_623 tw_624 ti_0 tw_625 hd_X0_by ⟨Nat.le_of_ble_eq_true rfl, Nat.le_of_ble_eq_true rfl⟩ ⟨Nat.le_of_ble_eq_true rfl, Nat.le_of_ble_eq_true rfl⟩ rfl rfl (Nat.le_of_ble_eq_true rfl) dX0_gather_9 ?_
        cases x22 with
        | none =>
          have h := oc_none h
          exact (no_some h).elim
        | some a25 =>
          have h := oc_some h
          obtain ⟨g26, h⟩ := gd_some h
          refine j_aload_n C (q := 1) dX0_gather_12 rfl rfl ?_
          refine j_iload_n C (q := 2) dX0_gather_13 rfl rfl ?_
          refine j_aload_n C (q := 1) dX0_gather_14 rfl rfl ?_
          refine fg_X0_28 C (i := a1) k1 dX0_gather_15 ?_
          refine j_iload_n C (q := 3) dX0_gather_18 rfl rfl ?_
          obtain ⟨x27, t28, e29, h⟩ := bd_some h
          refine j_callV_i C (i := (a1 + 9)) (As := [.int y3]) (rest := [.int x2, .ref (B + a1), .ref (B + a25)]) (c_X4_at l G B dy (a1 + 9) (kR5_9 k1) y3 _ e29) (shp4 G B _ (kR5_9 k1)) (kd_lt (kR5_9 k1) (by decide)) rfl tw_626 tw_323 tw_324 ti_4 tw_325 hd_X4_at ⟨Nat.le_of_ble_eq_true rfl, Nat.le_of_ble_eq_true rfl⟩ ⟨Nat.le_of_ble_eq_true rfl, Nat.le_of_ble_eq_true rfl⟩ rfl rfl (Nat.le_of_ble_eq_true rfl) dX0_gather_19 ?_
          obtain ⟨t31, e32, h⟩ := bv_some h
          refine j_callV_v C (i := a25) (As := [.ref (B + a1), .int x2, .int x27]) (rest := []) (c_X3_reckon l G B dy a25 (isN_eq g26) a1 k1 x2 x27 _ e32) (shp3 G B _ (isN_eq g26)) (kd_lt (isN_eq g26) (by decide)) rfl tw_627 tw_340 tw_341 ti_3 tw_342 hd_X3_reckon ⟨Nat.le_of_ble_eq_true rfl, Nat.le_of_ble_eq_true rfl⟩ ⟨Nat.le_of_ble_eq_true rfl, Nat.le_of_ble_eq_true rfl⟩ rfl rfl (Nat.le_of_ble_eq_true rfl) dX0_gather_22 ?_
          obtain ⟨x33, ex33⟩ : ∃ y : Int32, y = (y3 + 1) := ⟨_, rfl⟩
          have h := lt_at h ex33
          refine j_iinc C (q := 3) [(0, .ref (B + a0)), (1, .ref (B + a1)), (2, .int x2), (3, .int x33)] [1, 2, 3, 0] dX0_gather_25 rfl (by rw [ex33]; rfl) (by decide) rfl ?_
          refine j_goto C (tgt := 2) dX0_gather_28 (by decide) ?_
          exact ih2 x33 _ h
  refine j_iconst C (v := 0) dX0_gather_0 (by decide) ?_
  refine j_istore_n C [(0, .ref (B + a0)), (1, .ref (B + a1)), (2, .int x2), (3, .int 0)] [1, 2, 3, 0] dX0_gather_1 rfl (by decide) rfl ?_
  exact J2 FU 0 _ h
set_option maxRecDepth 100000 in
set_option maxHeartbeats 4000000 in
theorem c_X0_settledNotch (l : Launch) (G : GG) (B dy : Nat) (a0 : Nat) (k0 : kd a0 = 0) (x1 : Int32) (t0 : St) {r : Int32} {t9 : St} (h : f_X0_settledNotch a0 x1 t0 = some (r, t9)) : Ct l G B dy yX0_settledNotch cX0_settledNotch 3 (some .int) 1 21 0 0 [.ref (B + a0), .int x1] t0 (PostI G B r t9) := by
  refine Ct_of (by decide +kernel) [(0, .ref (B + a0)), (1, .int x1)] (Nat.le_of_ble_eq_true rfl) rfl ?_
  intro p e s m args below meth c C hr hlk
  refine j_aload_n C (q := 0) dX0_settledNotch_0 rfl rfl ?_
  refine fg_X0_18 C (i := a0) k0 dX0_settledNotch_1 ?_
  refine fg_X0_44 C (i := (a0 + 6)) (kR0_6 k0) dX0_settledNotch_4 ?_
  refine j_iload_n C (q := 1) dX0_settledNotch_7 rfl rfl ?_
  obtain ⟨x21, t22, e23, h⟩ := bd_some h
  refine j_callV_i C (i := ((a0 + 6) + 3)) (As := [.int x1]) (rest := []) (c_X4_at l G B dy ((a0 + 6) + 3) (kR3_3 (kR0_6 k0)) x1 _ e23) (shp4 G B _ (kR3_3 (kR0_6 k0))) (kd_lt (kR3_3 (kR0_6 k0)) (by decide)) rfl tw_626 tw_323 tw_324 ti_4 tw_325 hd_X4_at ⟨Nat.le_of_ble_eq_true rfl, Nat.le_of_ble_eq_true rfl⟩ ⟨Nat.le_of_ble_eq_true rfl, Nat.le_of_ble_eq_true rfl⟩ rfl rfl (Nat.le_of_ble_eq_true rfl) dX0_settledNotch_8 ?_
  refine j_istore_n C [(0, .ref (B + a0)), (1, .int x1), (2, .int x21)] [1, 2, 0] dX0_settledNotch_11 rfl (by decide) rfl ?_
  refine j_iload_n C (q := 2) dX0_settledNotch_12 rfl rfl ?_
  refine j_aload_n C (q := 0) dX0_settledNotch_13 rfl rfl ?_
  refine fg_X0_21 C (i := a0) k0 dX0_settledNotch_14 ?_
  refine fg_X0_44 C (i := (a0 + 11)) (kR0_11 k0) dX0_settledNotch_17 ?_
  refine j_iload_n C (q := 1) dX0_settledNotch_20 rfl rfl ?_
  obtain ⟨x24, t25, e26, h⟩ := bd_some h
  refine j_callV_i C (i := ((a0 + 11) + 3)) (As := [.int x1]) (rest := [.int x21]) (c_X4_at l G B dy ((a0 + 11) + 3) (kR3_3 (kR0_11 k0)) x1 _ e26) (shp4 G B _ (kR3_3 (kR0_11 k0))) (kd_lt (kR3_3 (kR0_11 k0)) (by decide)) rfl tw_626 tw_323 tw_324 ti_4 tw_325 hd_X4_at ⟨Nat.le_of_ble_eq_true rfl, Nat.le_of_ble_eq_true rfl⟩ ⟨Nat.le_of_ble_eq_true rfl, Nat.le_of_ble_eq_true rfl⟩ rfl rfl (Nat.le_of_ble_eq_true rfl) dX0_settledNotch_21 ?_
  refine j_icmp_ne C (tgt := 31) dX0_settledNotch_24 (by decide) (fun c27 => ?_) (fun c27 => ?_)
  · have h := ite_t h c27
    refine j_iload_n C (q := 2) dX0_settledNotch_27 rfl rfl ?_
    refine j_goto C (tgt := 42) dX0_settledNotch_28 (by decide) ?_
    exact j_iret C hr hlk h ⟨Nat.le_of_ble_eq_true rfl, Nat.le_of_ble_eq_true rfl⟩ dX0_settledNotch_42
  · have h := ite_f h c27
    refine j_aload_n C (q := 0) dX0_settledNotch_31 rfl rfl ?_
    refine fg_X0_12 C (i := a0) k0 dX0_settledNotch_32 ?_
    refine fg_X0_44 C (i := (a0 + 1)) (kR0_1 k0) dX0_settledNotch_35 ?_
    refine j_iload_n C (q := 1) dX0_settledNotch_38 rfl rfl ?_
    obtain ⟨x28, t29, e30, h⟩ := bd_some h
    refine j_callV_i C (i := ((a0 + 1) + 3)) (As := [.int x1]) (rest := []) (c_X4_at l G B dy ((a0 + 1) + 3) (kR3_3 (kR0_1 k0)) x1 _ e30) (shp4 G B _ (kR3_3 (kR0_1 k0))) (kd_lt (kR3_3 (kR0_1 k0)) (by decide)) rfl tw_626 tw_323 tw_324 ti_4 tw_325 hd_X4_at ⟨Nat.le_of_ble_eq_true rfl, Nat.le_of_ble_eq_true rfl⟩ ⟨Nat.le_of_ble_eq_true rfl, Nat.le_of_ble_eq_true rfl⟩ rfl rfl (Nat.le_of_ble_eq_true rfl) dX0_settledNotch_39 ?_
    exact j_iret C hr hlk h ⟨Nat.le_of_ble_eq_true rfl, Nat.le_of_ble_eq_true rfl⟩ dX0_settledNotch_42
set_option maxRecDepth 100000 in
set_option maxHeartbeats 4000000 in
theorem c_X0_quarrelCount (l : Launch) (G : GG) (B dy : Nat) (a0 : Nat) (k0 : kd a0 = 0) (x1 : Int32) (t0 : St) {r : Int32} {t9 : St} (h : f_X0_quarrelCount a0 x1 t0 = some (r, t9)) : Ct l G B dy yX0_quarrelCount cX0_quarrelCount 5 (some .int) 1 21 0 0 [.ref (B + a0), .int x1] t0 (PostI G B r t9) := by
  refine Ct_of (by decide +kernel) [(0, .ref (B + a0)), (1, .int x1)] (Nat.le_of_ble_eq_true rfl) rfl ?_
  intro p e s m args below meth c C hr hlk
  have J4 : ∀ (n4 : Nat) (y2 : Int32) (y3 : Int32) (t0 : St), f_X0_quarrelCount_l4 n4 a0 x1 y2 y3 t0 = some (r, t9) → WW G B p l e (RM 1 21 0 0) s m args below meth c 0 0 (MQ below (PostI G B r t9) args s 0 0 (Ab B)) 5 4 [(0, .ref (B + a0)), (1, .int x1), (2, .int y2), (3, .int y3)] [] t0 := by
    intro n4
    induction n4 with
    | zero => intro y2 y3 t0 h; exact (no_some h).elim
    | succ n4 ih4 =>
      try clear h
      intro y2 y3 t0 h
      have h : f_X0_quarrelCount_b4 (f_X0_quarrelCount_l4 n4) a0 x1 y2 y3 t0 = some (r, t9) := h
      refine j_iload_n C (q := 3) dX0_quarrelCount_4 rfl rfl ?_
      refine j_iload_n C (q := 1) dX0_quarrelCount_5 rfl rfl ?_
      refine j_icmp_ge C (tgt := 63) dX0_quarrelCount_6 (by decide) (fun c21 => ?_) (fun c21 => ?_)
      · have h := ite_t h c21
        refine j_iload_n C (q := 2) dX0_quarrelCount_63 rfl rfl ?_
        exact j_iret C hr hlk h ⟨Nat.le_of_ble_eq_true rfl, Nat.le_of_ble_eq_true rfl⟩ dX0_quarrelCount_64
      · have h := ite_f h c21
        refine j_aload_n C (q := 0) dX0_quarrelCount_9 rfl rfl ?_
        refine fg_X0_12 C (i := a0) k0 dX0_quarrelCount_10 ?_
        refine fg_X0_44 C (i := (a0 + 1)) (kR0_1 k0) dX0_quarrelCount_13 ?_
        refine j_iload_n C (q := 3) dX0_quarrelCount_16 rfl rfl ?_
        obtain ⟨x22, t23, e24, h⟩ := bd_some h
        refine j_callV_i C (i := ((a0 + 1) + 3)) (As := [.int y3]) (rest := []) (c_X4_at l G B dy ((a0 + 1) + 3) (kR3_3 (kR0_1 k0)) y3 _ e24) (shp4 G B _ (kR3_3 (kR0_1 k0))) (kd_lt (kR3_3 (kR0_1 k0)) (by decide)) rfl tw_626 tw_323 tw_324 ti_4 tw_325 hd_X4_at ⟨Nat.le_of_ble_eq_true rfl, Nat.le_of_ble_eq_true rfl⟩ ⟨Nat.le_of_ble_eq_true rfl, Nat.le_of_ble_eq_true rfl⟩ rfl rfl (Nat.le_of_ble_eq_true rfl) dX0_quarrelCount_17 ?_
        refine j_istore C [(0, .ref (B + a0)), (1, .int x1), (2, .int y2), (3, .int y3), (4, .int x22)] [1, 2, 3, 4, 0] dX0_quarrelCount_20 (by decide) rfl ?_
        refine j_iload C (q := 4) dX0_quarrelCount_22 rfl ?_
        refine j_aload_n C (q := 0) dX0_quarrelCount_24 rfl rfl ?_
        refine fg_X0_18 C (i := a0) k0 dX0_quarrelCount_25 ?_
        refine fg_X0_44 C (i := (a0 + 6)) (kR0_6 k0) dX0_quarrelCount_28 ?_
        refine j_iload_n C (q := 3) dX0_quarrelCount_31 rfl rfl ?_
        obtain ⟨x25, t26, e27, h⟩ := bd_some h
        refine j_callV_i C (i := ((a0 + 6) + 3)) (As := [.int y3]) (rest := [.int x22]) (c_X4_at l G B dy ((a0 + 6) + 3) (kR3_3 (kR0_6 k0)) y3 _ e27) (shp4 G B _ (kR3_3 (kR0_6 k0))) (kd_lt (kR3_3 (kR0_6 k0)) (by decide)) rfl tw_626 tw_323 tw_324 ti_4 tw_325 hd_X4_at ⟨Nat.le_of_ble_eq_true rfl, Nat.le_of_ble_eq_true rfl⟩ ⟨Nat.le_of_ble_eq_true rfl, Nat.le_of_ble_eq_true rfl⟩ rfl rfl (Nat.le_of_ble_eq_true rfl) dX0_quarrelCount_32 ?_
        refine j_icmp_ne C (tgt := 54) dX0_quarrelCount_35 (by decide) (fun c28 => ?_) (fun c28 => ?_)
        · have h := ite_t h c28
          refine j_iload C (q := 4) dX0_quarrelCount_38 rfl ?_
          refine j_aload_n C (q := 0) dX0_quarrelCount_40 rfl rfl ?_
          refine fg_X0_21 C (i := a0) k0 dX0_quarrelCount_41 ?_
          refine fg_X0_44 C (i := (a0 + 11)) (kR0_11 k0) dX0_quarrelCount_44 ?_
          refine j_iload_n C (q := 3) dX0_quarrelCount_47 rfl rfl ?_
          obtain ⟨x31, t32, e33, h⟩ := bd_some h
          refine j_callV_i C (i := ((a0 + 11) + 3)) (As := [.int y3]) (rest := [.int x22]) (c_X4_at l G B dy ((a0 + 11) + 3) (kR3_3 (kR0_11 k0)) y3 _ e33) (shp4 G B _ (kR3_3 (kR0_11 k0))) (kd_lt (kR3_3 (kR0_11 k0)) (by decide)) rfl tw_626 tw_323 tw_324 ti_4 tw_325 hd_X4_at ⟨Nat.le_of_ble_eq_true rfl, Nat.le_of_ble_eq_true rfl⟩ ⟨Nat.le_of_ble_eq_true rfl, Nat.le_of_ble_eq_true rfl⟩ rfl rfl (Nat.le_of_ble_eq_true rfl) dX0_quarrelCount_48 ?_
          refine j_icmp_eq C (tgt := 57) dX0_quarrelCount_51 (by decide) (fun c34 => ?_) (fun c34 => ?_)
          · have h := ite_t h c34
            obtain ⟨x35, ex35⟩ : ∃ y : Int32, y = (y3 + 1) := ⟨_, rfl⟩
            have h := lt_at h ex35
            refine j_iinc C (q := 3) [(0, .ref (B + a0)), (1, .int x1), (2, .int y2), (3, .int x35), (4, .int x22)] [1, 2, 3, 0, 4] dX0_quarrelCount_57 rfl (by rw [ex35]; rfl) (by decide) rfl ?_
            refine j_goto C (tgt := 4) dX0_quarrelCount_60 (by decide) ?_
            refine j_sub [0, 1, 2, 3] rfl ?_
            exact ih4 y2 x35 _ h
          · have h := ite_f h c34
            obtain ⟨x36, ex36⟩ : ∃ y : Int32, y = (y2 + 1) := ⟨_, rfl⟩
            have h := lt_at h ex36
            refine j_iinc C (q := 2) [(0, .ref (B + a0)), (1, .int x1), (2, .int x36), (3, .int y3), (4, .int x22)] [1, 2, 0, 3, 4] dX0_quarrelCount_54 rfl (by rw [ex36]; rfl) (by decide) rfl ?_
            obtain ⟨x37, ex37⟩ : ∃ y : Int32, y = (y3 + 1) := ⟨_, rfl⟩
            have h := lt_at h ex37
            refine j_iinc C (q := 3) [(0, .ref (B + a0)), (1, .int x1), (2, .int x36), (3, .int x37), (4, .int x22)] [1, 2, 3, 0, 4] dX0_quarrelCount_57 rfl (by rw [ex37]; rfl) (by decide) rfl ?_
            refine j_goto C (tgt := 4) dX0_quarrelCount_60 (by decide) ?_
            refine j_sub [0, 1, 2, 3] rfl ?_
            exact ih4 x36 x37 _ h
        · have h := ite_f h c28
          obtain ⟨x29, ex29⟩ : ∃ y : Int32, y = (y2 + 1) := ⟨_, rfl⟩
          have h := lt_at h ex29
          refine j_iinc C (q := 2) [(0, .ref (B + a0)), (1, .int x1), (2, .int x29), (3, .int y3), (4, .int x22)] [1, 2, 0, 3, 4] dX0_quarrelCount_54 rfl (by rw [ex29]; rfl) (by decide) rfl ?_
          obtain ⟨x30, ex30⟩ : ∃ y : Int32, y = (y3 + 1) := ⟨_, rfl⟩
          have h := lt_at h ex30
          refine j_iinc C (q := 3) [(0, .ref (B + a0)), (1, .int x1), (2, .int x29), (3, .int x30), (4, .int x22)] [1, 2, 3, 0, 4] dX0_quarrelCount_57 rfl (by rw [ex30]; rfl) (by decide) rfl ?_
          refine j_goto C (tgt := 4) dX0_quarrelCount_60 (by decide) ?_
          refine j_sub [0, 1, 2, 3] rfl ?_
          exact ih4 x29 x30 _ h
  refine j_iconst C (v := 0) dX0_quarrelCount_0 (by decide) ?_
  refine j_istore_n C [(0, .ref (B + a0)), (1, .int x1), (2, .int 0)] [1, 2, 0] dX0_quarrelCount_1 rfl (by decide) rfl ?_
  refine j_iconst C (v := 0) dX0_quarrelCount_2 (by decide) ?_
  refine j_istore_n C [(0, .ref (B + a0)), (1, .int x1), (2, .int 0), (3, .int 0)] [1, 2, 3, 0] dX0_quarrelCount_3 rfl (by decide) rfl ?_
  exact J4 FU 0 0 _ h
set_option maxRecDepth 100000 in
set_option maxHeartbeats 4000000 in
theorem c_X0_settlesLike (l : Launch) (G : GG) (B dy : Nat) (a0 : Nat) (k0 : kd a0 = 0) (a1 : Nat) (k1 : kd a1 = 0) (x2 : Int32) (t0 : St) {r : Int32} {t9 : St} (h : f_X0_settlesLike a0 a1 x2 t0 = some (r, t9)) : Ct l G B dy yX0_settlesLike cX0_settlesLike 4 (some .boolean) 2 43 0 0 [.ref (B + a0), .ref (B + a1), .int x2] t0 (PostI G B r t9) := by
  refine Ct_of (by decide +kernel) [(0, .ref (B + a0)), (1, .ref (B + a1)), (2, .int x2)] (Nat.le_of_ble_eq_true rfl) rfl ?_
  intro p e s m args below meth c C hr hlk
  have J2 : ∀ (n2 : Nat) (y3 : Int32) (t0 : St), f_X0_settlesLike_l2 n2 a0 a1 x2 y3 t0 = some (r, t9) → WW G B p l e (RM 2 43 0 0) s m args below meth c 0 0 (MQ below (PostI G B r t9) args s 0 0 (Ab B)) 4 2 [(0, .ref (B + a0)), (1, .ref (B + a1)), (2, .int x2), (3, .int y3)] [] t0 := by
    intro n2
    induction n2 with
    | zero => intro y3 t0 h; exact (no_some h).elim
    | succ n2 ih2 =>
      try clear h
      intro y3 t0 h
      have h : f_X0_settlesLike_b2 (f_X0_settlesLike_l2 n2) a0 a1 x2 y3 t0 = some (r, t9) := h
      refine j_iload_n C (q := 3) dX0_settlesLike_2 rfl rfl ?_
      refine j_iload_n C (q := 2) dX0_settlesLike_3 rfl rfl ?_
      refine j_icmp_ge C (tgt := 28) dX0_settlesLike_4 (by decide) (fun c21 => ?_) (fun c21 => ?_)
      · have h := ite_t h c21
        refine j_iconst C (v := 1) dX0_settlesLike_28 (by decide) ?_
        exact j_zret C hr hlk (Or.inr rfl) h ⟨Nat.le_of_ble_eq_true rfl, Nat.le_of_ble_eq_true rfl⟩ dX0_settlesLike_29
      · have h := ite_f h c21
        refine j_aload_n C (q := 0) dX0_settlesLike_7 rfl rfl ?_
        refine j_iload_n C (q := 3) dX0_settlesLike_8 rfl rfl ?_
        obtain ⟨x22, t23, e24, h⟩ := bd_some h
        refine j_callV_i C (i := a0) (As := [.int y3]) (rest := []) (c_X0_settledNotch l G B dy a0 k0 y3 _ e24) (shp0 G B _ k0) (kd_lt k0 (by decide)) rfl tw_706 tw_629 tw_630 ti_0 tw_631 hd_X0_settledNotch ⟨Nat.le_of_ble_eq_true rfl, Nat.le_of_ble_eq_true rfl⟩ ⟨Nat.le_of_ble_eq_true rfl, Nat.le_of_ble_eq_true rfl⟩ rfl rfl (Nat.le_of_ble_eq_true rfl) dX0_settlesLike_9 ?_
        refine j_aload_n C (q := 1) dX0_settlesLike_12 rfl rfl ?_
        refine j_iload_n C (q := 3) dX0_settlesLike_13 rfl rfl ?_
        obtain ⟨x25, t26, e27, h⟩ := bd_some h
        refine j_callV_i C (i := a1) (As := [.int y3]) (rest := [.int x22]) (c_X0_settledNotch l G B dy a1 k1 y3 _ e27) (shp0 G B _ k1) (kd_lt k1 (by decide)) rfl tw_706 tw_629 tw_630 ti_0 tw_631 hd_X0_settledNotch ⟨Nat.le_of_ble_eq_true rfl, Nat.le_of_ble_eq_true rfl⟩ ⟨Nat.le_of_ble_eq_true rfl, Nat.le_of_ble_eq_true rfl⟩ rfl rfl (Nat.le_of_ble_eq_true rfl) dX0_settlesLike_14 ?_
        refine j_icmp_eq C (tgt := 22) dX0_settlesLike_17 (by decide) (fun c28 => ?_) (fun c28 => ?_)
        · have h := ite_t h c28
          obtain ⟨x29, ex29⟩ : ∃ y : Int32, y = (y3 + 1) := ⟨_, rfl⟩
          have h := lt_at h ex29
          refine j_iinc C (q := 3) [(0, .ref (B + a0)), (1, .ref (B + a1)), (2, .int x2), (3, .int x29)] [1, 2, 3, 0] dX0_settlesLike_22 rfl (by rw [ex29]; rfl) (by decide) rfl ?_
          refine j_goto C (tgt := 2) dX0_settlesLike_25 (by decide) ?_
          exact ih2 x29 _ h
        · have h := ite_f h c28
          refine j_iconst C (v := 0) dX0_settlesLike_20 (by decide) ?_
          exact j_zret C hr hlk (Or.inl rfl) h ⟨Nat.le_of_ble_eq_true rfl, Nat.le_of_ble_eq_true rfl⟩ dX0_settlesLike_21
  refine j_iconst C (v := 0) dX0_settlesLike_0 (by decide) ?_
  refine j_istore_n C [(0, .ref (B + a0)), (1, .ref (B + a1)), (2, .int x2), (3, .int 0)] [1, 2, 3, 0] dX0_settlesLike_1 rfl (by decide) rfl ?_
  exact J2 FU 0 _ h
set_option maxRecDepth 100000 in
set_option maxHeartbeats 4000000 in
theorem c_X1_size (l : Launch) (G : GG) (B dy : Nat) (t0 : St) {r : Int32} {t9 : St} (h : f_X1_size t0 = some (r, t9)) : Ct l G B dy yX1_size cX1_size 1 (some .int) 0 0 0 0 [.ref (B + 20)] t0 (PostI G B r t9) := by
  refine Ct_of (by decide +kernel) [(0, .ref (B + 20))] (Nat.le_of_ble_eq_true rfl) rfl ?_
  intro p e s m args below meth c C hr hlk
  refine j_aload_n C (q := 0) dX1_size_0 rfl rfl ?_
  refine fg_X1_21 C (i := 20) kA_20 dX1_size_1 ?_
  exact j_iret C hr hlk h ⟨Nat.le_of_ble_eq_true rfl, Nat.le_of_ble_eq_true rfl⟩ dX1_size_4
set_option maxRecDepth 100000 in
set_option maxHeartbeats 4000000 in
theorem c_X1_isEmpty (l : Launch) (G : GG) (B dy : Nat) (t0 : St) {r : Int32} {t9 : St} (h : f_X1_isEmpty t0 = some (r, t9)) : Ct l G B dy yX1_isEmpty cX1_isEmpty 1 (some .boolean) 0 0 0 0 [.ref (B + 20)] t0 (PostI G B r t9) := by
  refine Ct_of (by decide +kernel) [(0, .ref (B + 20))] (Nat.le_of_ble_eq_true rfl) rfl ?_
  intro p e s m args below meth c C hr hlk
  refine j_aload_n C (q := 0) dX1_isEmpty_0 rfl rfl ?_
  refine fg_X1_21 C (i := 20) kA_20 dX1_isEmpty_1 ?_
  refine j_if_gt C (tgt := 11) dX1_isEmpty_4 (by decide) (fun c21 => ?_) (fun c21 => ?_)
  · have h := ite_t h c21
    refine j_iconst C (v := 0) dX1_isEmpty_11 (by decide) ?_
    exact j_zret C hr hlk (Or.inl rfl) h ⟨Nat.le_of_ble_eq_true rfl, Nat.le_of_ble_eq_true rfl⟩ dX1_isEmpty_12
  · have h := ite_f h c21
    refine j_iconst C (v := 1) dX1_isEmpty_7 (by decide) ?_
    refine j_goto C (tgt := 12) dX1_isEmpty_8 (by decide) ?_
    exact j_zret C hr hlk (Or.inr rfl) h ⟨Nat.le_of_ble_eq_true rfl, Nat.le_of_ble_eq_true rfl⟩ dX1_isEmpty_12
set_option maxRecDepth 100000 in
set_option maxHeartbeats 4000000 in
theorem c_X1_stateAt (l : Launch) (G : GG) (B dy : Nat) (x1 : Int32) (t0 : St) {r : Option Nat} {t9 : St} (h : f_X1_stateAt x1 t0 = some (r, t9)) : Ct l G B dy yX1_stateAt cX1_stateAt 3 (some (.object "RunicSticks$State")) 0 0 0 0 [.ref (B + 20), .int x1] t0 (PostQ G B r t9) := by
  refine Ct_of (by decide +kernel) [(0, .ref (B + 20)), (1, .int x1)] (Nat.le_of_ble_eq_true rfl) rfl ?_
  intro p e s m args below meth c C hr hlk
  refine j_aload_n C (q := 0) dX1_stateAt_0 rfl rfl ?_
  refine fg_X1_17 C (i := 20) kA_20 dX1_stateAt_1 ?_
  refine j_iload_n C (q := 1) dX1_stateAt_4 rfl rfl ?_
  refine j_iadd C dX1_stateAt_5 ?_
  refine j_bipush C (v := 6) dX1_stateAt_6 (by decide) ?_
  refine j_irem C dX1_stateAt_8 (by decide) ?_
  refine j_topi (fun x21 ex21 => ?_)
  have h := lt_at h ex21
  refine j_istore_n C [(0, .ref (B + 20)), (1, .int x1), (2, .int x21)] [1, 2, 0] dX1_stateAt_9 rfl (by decide) rfl ?_
  refine j_iload_n C (q := 2) dX1_stateAt_10 rfl rfl ?_
  refine j_if_lt C (tgt := 32) dX1_stateAt_11 (by decide) (fun c22 => ?_) (fun c22 => ?_)
  · have h := ite_t h c22
    refine j_aconst_null C dX1_stateAt_32 ?_
    exact j_aretN C hr hlk h ⟨Nat.le_of_ble_eq_true rfl, Nat.le_of_ble_eq_true rfl⟩ dX1_stateAt_33
  · have h := ite_f h c22
    refine j_iload_n C (q := 2) dX1_stateAt_14 rfl rfl ?_
    refine j_aload_n C (q := 0) dX1_stateAt_15 rfl rfl ?_
    refine fg_X1_11 C (i := 20) kA_20 dX1_stateAt_16 ?_
    refine j_alen11 C (i := 21) kA_21 dX1_stateAt_19 ?_
    rw [aA_21]
    refine j_icmp_ge C (tgt := 32) dX1_stateAt_20 (by decide) (fun c23 => ?_) (fun c23 => ?_)
    · have h := ite_t h c23
      refine j_aconst_null C dX1_stateAt_32 ?_
      exact j_aretN C hr hlk h ⟨Nat.le_of_ble_eq_true rfl, Nat.le_of_ble_eq_true rfl⟩ dX1_stateAt_33
    · have h := ite_f h c23
      refine j_aload_n C (q := 0) dX1_stateAt_23 rfl rfl ?_
      refine fg_X1_11 C (i := 20) kA_20 dX1_stateAt_24 ?_
      refine j_iload_n C (q := 2) dX1_stateAt_27 rfl rfl ?_
      obtain ⟨g24, h⟩ := gd_some h
      refine j_aaldS C (i := 21) kA_21 (inA g24 aA_21) dX1_stateAt_28 ?_
      refine j_goto C (tgt := 33) dX1_stateAt_29 (by decide) ?_
      exact j_aret C (i := (22 + 19 * tc x21)) hr hlk h ⟨Nat.le_of_ble_eq_true rfl, Nat.le_of_ble_eq_true rfl⟩ dX1_stateAt_33
set_option maxRecDepth 100000 in
set_option maxHeartbeats 4000000 in
theorem c_X4_copyFrom (l : Launch) (G : GG) (B dy : Nat) (a0 : Nat) (k0 : kd a0 = 4) (a1 : Nat) (k1 : kd a1 = 4) (t0 : St) {t9 : St} (h : f_X4_copyFrom a0 a1 t0 = some t9) : Ct l G B dy yX4_copyFrom cX4_copyFrom 3 none 1 21 0 0 [.ref (B + a0), .ref (B + a1)] t0 (PostV G B t9) := by
  refine Ct_of (by decide +kernel) [(0, .ref (B + a0)), (1, .ref (B + a1))] (Nat.le_of_ble_eq_true rfl) rfl ?_
  intro p e s m args below meth c C hr hlk
  have J2 : ∀ (n2 : Nat) (y2 : Int32) (t0 : St), f_X4_copyFrom_l2 n2 a0 a1 y2 t0 = some t9 → WW G B p l e (RM 1 21 0 0) s m args below meth c 0 0 (MQ below (PostV G B t9) args s 0 0 (Ab B)) 3 2 [(0, .ref (B + a0)), (1, .ref (B + a1)), (2, .int y2)] [] t0 := by
    intro n2
    induction n2 with
    | zero => intro y2 t0 h; exact (no_some h).elim
    | succ n2 ih2 =>
      try clear h
      intro y2 t0 h
      have h : f_X4_copyFrom_b2 (f_X4_copyFrom_l2 n2) a0 a1 y2 t0 = some t9 := h
      refine j_iload_n C (q := 2) dX4_copyFrom_2 rfl rfl ?_
      refine j_aload_n C (q := 0) dX4_copyFrom_3 rfl rfl ?_
      refine fg_X4_9 C (i := a0) k0 dX4_copyFrom_4 ?_
      refine j_alen8 C (i := (a0 + 1)) (kR4_1 k0) dX4_copyFrom_7 ?_
      refine j_icmp_ge C (tgt := 28) dX4_copyFrom_8 (by decide) (fun c21 => ?_) (fun c21 => ?_)
      · have h := ite_t h c21
        exact j_vret C hr hlk h ⟨Nat.le_of_ble_eq_true rfl, Nat.le_of_ble_eq_true rfl⟩ dX4_copyFrom_28
      · have h := ite_f h c21
        refine j_aload_n C (q := 0) dX4_copyFrom_11 rfl rfl ?_
        refine fg_X4_9 C (i := a0) k0 dX4_copyFrom_12 ?_
        refine j_iload_n C (q := 2) dX4_copyFrom_15 rfl rfl ?_
        refine j_aload_n C (q := 1) dX4_copyFrom_16 rfl rfl ?_
        refine j_iload_n C (q := 2) dX4_copyFrom_17 rfl rfl ?_
        obtain ⟨x22, t23, e24, h⟩ := bd_some h
        refine j_callV_i C (i := a1) (As := [.int y2]) (rest := [.int y2, .ref (B + (a0 + 1))]) (c_X4_at l G B dy a1 k1 y2 _ e24) (shp4 G B _ k1) (kd_lt k1 (by decide)) rfl tw_526 tw_323 tw_324 ti_4 tw_325 hd_X4_at ⟨Nat.le_of_ble_eq_true rfl, Nat.le_of_ble_eq_true rfl⟩ ⟨Nat.le_of_ble_eq_true rfl, Nat.le_of_ble_eq_true rfl⟩ rfl rfl (Nat.le_of_ble_eq_true rfl) dX4_copyFrom_18 ?_
        obtain ⟨g25, h⟩ := gd_some h
        refine j_iast C (i := (a0 + 1)) (kR4_1 k0) (inA g25 rfl) dX4_copyFrom_21 ?_
        refine j_tops (fun t26 et26 => ?_)
        have h := lt_at h et26
        obtain ⟨x27, ex27⟩ : ∃ y : Int32, y = (y2 + 1) := ⟨_, rfl⟩
        have h := lt_at h ex27
        refine j_iinc C (q := 2) [(0, .ref (B + a0)), (1, .ref (B + a1)), (2, .int x27)] [1, 2, 0] dX4_copyFrom_22 rfl (by rw [ex27]; rfl) (by decide) rfl ?_
        refine j_goto C (tgt := 2) dX4_copyFrom_25 (by decide) ?_
        exact ih2 x27 _ h
  refine j_iconst C (v := 0) dX4_copyFrom_0 (by decide) ?_
  refine j_istore_n C [(0, .ref (B + a0)), (1, .ref (B + a1)), (2, .int 0)] [1, 2, 0] dX4_copyFrom_1 rfl (by decide) rfl ?_
  exact J2 FU 0 _ h
set_option maxRecDepth 100000 in
set_option maxHeartbeats 4000000 in
theorem c_X5_copyFrom (l : Launch) (G : GG) (B dy : Nat) (a0 : Nat) (k0 : kd a0 = 5) (a1 : Nat) (k1 : kd a1 = 5) (t0 : St) {t9 : St} (h : f_X5_copyFrom a0 a1 t0 = some t9) : Ct l G B dy yX5_copyFrom cX5_copyFrom 2 none 2 43 0 0 [.ref (B + a0), .ref (B + a1)] t0 (PostV G B t9) := by
  refine Ct_of (by decide +kernel) [(0, .ref (B + a0)), (1, .ref (B + a1))] (Nat.le_of_ble_eq_true rfl) rfl ?_
  intro p e s m args below meth c C hr hlk
  refine j_aload_n C (q := 0) dX5_copyFrom_0 rfl rfl ?_
  refine j_aload_n C (q := 1) dX5_copyFrom_1 rfl rfl ?_
  refine fg_X5_9 C (i := a1) k1 dX5_copyFrom_2 ?_
  refine fp_X5_9 C (i := a0) k0 dX5_copyFrom_5 ?_
  refine j_tops (fun t21 et21 => ?_)
  have h := lt_at h et21
  refine j_aload_n C (q := 0) dX5_copyFrom_8 rfl rfl ?_
  refine fg_X5_20 C (i := a0) k0 dX5_copyFrom_9 ?_
  refine j_aload_n C (q := 1) dX5_copyFrom_12 rfl rfl ?_
  refine fg_X5_20 C (i := a1) k1 dX5_copyFrom_13 ?_
  obtain ⟨t23, e24, h⟩ := bv_some h
  refine j_callV_v C (i := (a0 + 1)) (As := [.ref (B + (a1 + 1))]) (rest := []) (c_X4_copyFrom l G B dy (a0 + 1) (kR5_1 k0) (a1 + 1) (kR5_1 k1) _ e24) (shp4 G B _ (kR5_1 k0)) (kd_lt (kR5_1 k0) (by decide)) rfl tw_522 tw_523 tw_524 ti_4 tw_525 hd_X4_copyFrom ⟨Nat.le_of_ble_eq_true rfl, Nat.le_of_ble_eq_true rfl⟩ ⟨Nat.le_of_ble_eq_true rfl, Nat.le_of_ble_eq_true rfl⟩ rfl rfl (Nat.le_of_ble_eq_true rfl) dX5_copyFrom_16 ?_
  refine j_aload_n C (q := 0) dX5_copyFrom_19 rfl rfl ?_
  refine fg_X5_24 C (i := a0) k0 dX5_copyFrom_20 ?_
  refine j_aload_n C (q := 1) dX5_copyFrom_23 rfl rfl ?_
  refine fg_X5_24 C (i := a1) k1 dX5_copyFrom_24 ?_
  obtain ⟨t26, e27, h⟩ := bv_some h
  refine j_callV_v C (i := (a0 + 3)) (As := [.ref (B + (a1 + 3))]) (rest := []) (c_X4_copyFrom l G B dy (a0 + 3) (kR5_3 k0) (a1 + 3) (kR5_3 k1) _ e27) (shp4 G B _ (kR5_3 k0)) (kd_lt (kR5_3 k0) (by decide)) rfl tw_522 tw_523 tw_524 ti_4 tw_525 hd_X4_copyFrom ⟨Nat.le_of_ble_eq_true rfl, Nat.le_of_ble_eq_true rfl⟩ ⟨Nat.le_of_ble_eq_true rfl, Nat.le_of_ble_eq_true rfl⟩ rfl rfl (Nat.le_of_ble_eq_true rfl) dX5_copyFrom_27 ?_
  refine j_aload_n C (q := 0) dX5_copyFrom_30 rfl rfl ?_
  refine fg_X5_27 C (i := a0) k0 dX5_copyFrom_31 ?_
  refine j_aload_n C (q := 1) dX5_copyFrom_34 rfl rfl ?_
  refine fg_X5_27 C (i := a1) k1 dX5_copyFrom_35 ?_
  obtain ⟨t29, e30, h⟩ := bv_some h
  refine j_callV_v C (i := (a0 + 5)) (As := [.ref (B + (a1 + 5))]) (rest := []) (c_X4_copyFrom l G B dy (a0 + 5) (kR5_5 k0) (a1 + 5) (kR5_5 k1) _ e30) (shp4 G B _ (kR5_5 k0)) (kd_lt (kR5_5 k0) (by decide)) rfl tw_522 tw_523 tw_524 ti_4 tw_525 hd_X4_copyFrom ⟨Nat.le_of_ble_eq_true rfl, Nat.le_of_ble_eq_true rfl⟩ ⟨Nat.le_of_ble_eq_true rfl, Nat.le_of_ble_eq_true rfl⟩ rfl rfl (Nat.le_of_ble_eq_true rfl) dX5_copyFrom_38 ?_
  refine j_aload_n C (q := 0) dX5_copyFrom_41 rfl rfl ?_
  refine fg_X5_30 C (i := a0) k0 dX5_copyFrom_42 ?_
  refine j_aload_n C (q := 1) dX5_copyFrom_45 rfl rfl ?_
  refine fg_X5_30 C (i := a1) k1 dX5_copyFrom_46 ?_
  obtain ⟨t32, e33, h⟩ := bv_some h
  refine j_callV_v C (i := (a0 + 7)) (As := [.ref (B + (a1 + 7))]) (rest := []) (c_X4_copyFrom l G B dy (a0 + 7) (kR5_7 k0) (a1 + 7) (kR5_7 k1) _ e33) (shp4 G B _ (kR5_7 k0)) (kd_lt (kR5_7 k0) (by decide)) rfl tw_522 tw_523 tw_524 ti_4 tw_525 hd_X4_copyFrom ⟨Nat.le_of_ble_eq_true rfl, Nat.le_of_ble_eq_true rfl⟩ ⟨Nat.le_of_ble_eq_true rfl, Nat.le_of_ble_eq_true rfl⟩ rfl rfl (Nat.le_of_ble_eq_true rfl) dX5_copyFrom_49 ?_
  refine j_aload_n C (q := 0) dX5_copyFrom_52 rfl rfl ?_
  refine fg_X5_33 C (i := a0) k0 dX5_copyFrom_53 ?_
  refine j_aload_n C (q := 1) dX5_copyFrom_56 rfl rfl ?_
  refine fg_X5_33 C (i := a1) k1 dX5_copyFrom_57 ?_
  obtain ⟨t35, e36, h⟩ := bv_some h
  refine j_callV_v C (i := (a0 + 9)) (As := [.ref (B + (a1 + 9))]) (rest := []) (c_X4_copyFrom l G B dy (a0 + 9) (kR5_9 k0) (a1 + 9) (kR5_9 k1) _ e36) (shp4 G B _ (kR5_9 k0)) (kd_lt (kR5_9 k0) (by decide)) rfl tw_522 tw_523 tw_524 ti_4 tw_525 hd_X4_copyFrom ⟨Nat.le_of_ble_eq_true rfl, Nat.le_of_ble_eq_true rfl⟩ ⟨Nat.le_of_ble_eq_true rfl, Nat.le_of_ble_eq_true rfl⟩ rfl rfl (Nat.le_of_ble_eq_true rfl) dX5_copyFrom_60 ?_
  refine j_aload_n C (q := 0) dX5_copyFrom_63 rfl rfl ?_
  refine j_aload_n C (q := 1) dX5_copyFrom_64 rfl rfl ?_
  refine fg_X5_36 C (i := a1) k1 dX5_copyFrom_65 ?_
  refine fp_X5_36 C (i := a0) k0 dX5_copyFrom_68 ?_
  refine j_tops (fun t37 et37 => ?_)
  have h := lt_at h et37
  refine j_aload_n C (q := 0) dX5_copyFrom_71 rfl rfl ?_
  refine j_aload_n C (q := 1) dX5_copyFrom_72 rfl rfl ?_
  refine fg_X5_39 C (i := a1) k1 dX5_copyFrom_73 ?_
  refine fp_X5_39 C (i := a0) k0 dX5_copyFrom_76 ?_
  refine j_tops (fun t38 et38 => ?_)
  have h := lt_at h et38
  refine j_aload_n C (q := 0) dX5_copyFrom_79 rfl rfl ?_
  refine fg_X5_42 C (i := a0) k0 dX5_copyFrom_80 ?_
  refine j_aload_n C (q := 1) dX5_copyFrom_83 rfl rfl ?_
  refine fg_X5_42 C (i := a1) k1 dX5_copyFrom_84 ?_
  obtain ⟨t40, e41, h⟩ := bv_some h
  refine j_callV_v C (i := (a0 + 11)) (As := [.ref (B + (a1 + 11))]) (rest := []) (c_X4_copyFrom l G B dy (a0 + 11) (kR5_11 k0) (a1 + 11) (kR5_11 k1) _ e41) (shp4 G B _ (kR5_11 k0)) (kd_lt (kR5_11 k0) (by decide)) rfl tw_522 tw_523 tw_524 ti_4 tw_525 hd_X4_copyFrom ⟨Nat.le_of_ble_eq_true rfl, Nat.le_of_ble_eq_true rfl⟩ ⟨Nat.le_of_ble_eq_true rfl, Nat.le_of_ble_eq_true rfl⟩ rfl rfl (Nat.le_of_ble_eq_true rfl) dX5_copyFrom_87 ?_
  refine j_aload_n C (q := 0) dX5_copyFrom_90 rfl rfl ?_
  refine fg_X5_45 C (i := a0) k0 dX5_copyFrom_91 ?_
  refine j_aload_n C (q := 1) dX5_copyFrom_94 rfl rfl ?_
  refine fg_X5_45 C (i := a1) k1 dX5_copyFrom_95 ?_
  obtain ⟨t43, e44, h⟩ := bv_some h
  refine j_callV_v C (i := (a0 + 13)) (As := [.ref (B + (a1 + 13))]) (rest := []) (c_X4_copyFrom l G B dy (a0 + 13) (kR5_13 k0) (a1 + 13) (kR5_13 k1) _ e44) (shp4 G B _ (kR5_13 k0)) (kd_lt (kR5_13 k0) (by decide)) rfl tw_522 tw_523 tw_524 ti_4 tw_525 hd_X4_copyFrom ⟨Nat.le_of_ble_eq_true rfl, Nat.le_of_ble_eq_true rfl⟩ ⟨Nat.le_of_ble_eq_true rfl, Nat.le_of_ble_eq_true rfl⟩ rfl rfl (Nat.le_of_ble_eq_true rfl) dX5_copyFrom_98 ?_
  refine j_aload_n C (q := 0) dX5_copyFrom_101 rfl rfl ?_
  refine fg_X5_48 C (i := a0) k0 dX5_copyFrom_102 ?_
  refine j_aload_n C (q := 1) dX5_copyFrom_105 rfl rfl ?_
  refine fg_X5_48 C (i := a1) k1 dX5_copyFrom_106 ?_
  obtain ⟨t46, e47, h⟩ := bv_some h
  refine j_callV_v C (i := (a0 + 15)) (As := [.ref (B + (a1 + 15))]) (rest := []) (c_X4_copyFrom l G B dy (a0 + 15) (kR5_15 k0) (a1 + 15) (kR5_15 k1) _ e47) (shp4 G B _ (kR5_15 k0)) (kd_lt (kR5_15 k0) (by decide)) rfl tw_522 tw_523 tw_524 ti_4 tw_525 hd_X4_copyFrom ⟨Nat.le_of_ble_eq_true rfl, Nat.le_of_ble_eq_true rfl⟩ ⟨Nat.le_of_ble_eq_true rfl, Nat.le_of_ble_eq_true rfl⟩ rfl rfl (Nat.le_of_ble_eq_true rfl) dX5_copyFrom_109 ?_
  refine j_aload_n C (q := 0) dX5_copyFrom_112 rfl rfl ?_
  refine fg_X5_51 C (i := a0) k0 dX5_copyFrom_113 ?_
  refine j_aload_n C (q := 1) dX5_copyFrom_116 rfl rfl ?_
  refine fg_X5_51 C (i := a1) k1 dX5_copyFrom_117 ?_
  obtain ⟨t49, e50, h⟩ := bv_some h
  refine j_callV_v C (i := (a0 + 17)) (As := [.ref (B + (a1 + 17))]) (rest := []) (c_X4_copyFrom l G B dy (a0 + 17) (kR5_17 k0) (a1 + 17) (kR5_17 k1) _ e50) (shp4 G B _ (kR5_17 k0)) (kd_lt (kR5_17 k0) (by decide)) rfl tw_522 tw_523 tw_524 ti_4 tw_525 hd_X4_copyFrom ⟨Nat.le_of_ble_eq_true rfl, Nat.le_of_ble_eq_true rfl⟩ ⟨Nat.le_of_ble_eq_true rfl, Nat.le_of_ble_eq_true rfl⟩ rfl rfl (Nat.le_of_ble_eq_true rfl) dX5_copyFrom_120 ?_
  exact j_vret C hr hlk h ⟨Nat.le_of_ble_eq_true rfl, Nat.le_of_ble_eq_true rfl⟩ dX5_copyFrom_123
set_option maxRecDepth 100000 in
set_option maxHeartbeats 4000000 in
theorem c_X1_save (l : Launch) (G : GG) (B dy : Nat) (a1 : Nat) (k1 : kd a1 = 5) (t0 : St) {t9 : St} (h : f_X1_save a1 t0 = some t9) : Ct l G B dy yX1_save cX1_save 3 none 3 64 0 0 [.ref (B + 20), .ref (B + a1)] t0 (PostV G B t9) := by
  refine Ct_of (by decide +kernel) [(0, .ref (B + 20)), (1, .ref (B + a1))] (Nat.le_of_ble_eq_true rfl) rfl ?_
  intro p e s m args below meth c C hr hlk
  have J50 : ∀ (t0 : St), f_X1_save_b50 t0 = some t9 → WW G B p l e (RM 3 64 0 0) s m args below meth c 0 0 (MQ below (PostV G B t9) args s 0 0 (Ab B)) 3 50 [(0, .ref (B + 20))] [] t0 := by
    intro t0 h
    refine j_aload_n C (q := 0) dX1_save_50 rfl rfl ?_
    refine j_dup C dX1_save_51 rfl ?_
    refine fg_X1_21 C (i := 20) kA_20 dX1_save_52 ?_
    refine j_iconst C (v := 1) dX1_save_55 (by decide) ?_
    refine j_iadd C dX1_save_56 ?_
    refine fp_X1_21 C (i := 20) kA_20 dX1_save_57 ?_
    refine j_tops (fun t21 et21 => ?_)
    have h := lt_at h et21
    exact j_vret C hr hlk h ⟨Nat.le_of_ble_eq_true rfl, Nat.le_of_ble_eq_true rfl⟩ dX1_save_60
  have J32 : ∀ (t0 : St), f_X1_save_b32 a1 t0 = some t9 → WW G B p l e (RM 3 64 0 0) s m args below meth c 0 0 (MQ below (PostV G B t9) args s 0 0 (Ab B)) 3 32 [(0, .ref (B + 20)), (1, .ref (B + a1))] [] t0 := by
    intro t0 h
    refine j_aload_n C (q := 0) dX1_save_32 rfl rfl ?_
    refine j_aload_n C (q := 0) dX1_save_33 rfl rfl ?_
    refine fg_X1_21 C (i := 20) kA_20 dX1_save_34 ?_
    obtain ⟨x22, t23, e24, h⟩ := bd_some h
    refine j_callV_q C (i := 20) (As := [.int (t0.1 20 2)]) (rest := []) (c_X1_stateAt l G B dy (t0.1 20 2) _ e24) (shp1 G B _ kA_20) (kd_lt kA_20 (by decide)) rfl tw_514 tw_516 tp_23 ti_1 tw_517 hd_X1_stateAt ⟨Nat.le_of_ble_eq_true rfl, Nat.le_of_ble_eq_true rfl⟩ ⟨Nat.le_of_ble_eq_true rfl, Nat.le_of_ble_eq_true rfl⟩ rfl rfl (Nat.le_of_ble_eq_true rfl) dX1_save_37 ?_
    cases x22 with
    | none =>
      have h := oc_none h
      refine j_astore_nN C [(0, .ref (B + 20)), (1, .ref (B + a1)), (2, .null)] [1, 2, 0] dX1_save_40 rfl (by decide) rfl ?_
      refine j_aload_nN C (q := 2) dX1_save_41 rfl rfl ?_
      refine j_ifnull_yes C (tgt := 50) dX1_save_42 (by decide) ?_
      refine j_sub [0] rfl ?_
      exact J50 _ h
    | some a25 =>
      have h := oc_some h
      obtain ⟨g26, h⟩ := gd_some h
      refine j_astore_n C [(0, .ref (B + 20)), (1, .ref (B + a1)), (2, .ref (B + a25))] [1, 2, 0] dX1_save_40 rfl (by decide) rfl ?_
      refine j_aload_n C (q := 2) dX1_save_41 rfl rfl ?_
      refine j_ifnull_no C dX1_save_42 ?_
      refine j_aload_n C (q := 2) dX1_save_45 rfl rfl ?_
      refine j_aload_n C (q := 1) dX1_save_46 rfl rfl ?_
      obtain ⟨t28, e29, h⟩ := bv_some h
      refine j_callV_v C (i := a25) (As := [.ref (B + a1)]) (rest := []) (c_X5_copyFrom l G B dy a25 (isN_eq g26) a1 k1 _ e29) (shp5 G B _ (isN_eq g26)) (kd_lt (isN_eq g26) (by decide)) rfl tw_518 tw_519 tw_520 ti_5 tw_521 hd_X5_copyFrom ⟨Nat.le_of_ble_eq_true rfl, Nat.le_of_ble_eq_true rfl⟩ ⟨Nat.le_of_ble_eq_true rfl, Nat.le_of_ble_eq_true rfl⟩ rfl rfl (Nat.le_of_ble_eq_true rfl) dX1_save_47 ?_
      refine j_sub [0] rfl ?_
      exact J50 _ h
  refine j_aload_n C (q := 0) dX1_save_0 rfl rfl ?_
  refine fg_X1_21 C (i := 20) kA_20 dX1_save_1 ?_
  refine j_bipush C (v := 6) dX1_save_4 (by decide) ?_
  refine j_icmp_lt C (tgt := 32) dX1_save_6 (by decide) (fun c30 => ?_) (fun c30 => ?_)
  · have h := ite_t h c30
    exact J32 _ h
  · have h := ite_f h c30
    refine j_aload_n C (q := 0) dX1_save_9 rfl rfl ?_
    refine j_aload_n C (q := 0) dX1_save_10 rfl rfl ?_
    refine fg_X1_17 C (i := 20) kA_20 dX1_save_11 ?_
    refine j_iconst C (v := 1) dX1_save_14 (by decide) ?_
    refine j_iadd C dX1_save_15 ?_
    refine j_bipush C (v := 6) dX1_save_16 (by decide) ?_
    refine j_irem C dX1_save_18 (by decide) ?_
    refine fp_X1_17 C (i := 20) kA_20 dX1_save_19 ?_
    refine j_tops (fun t31 et31 => ?_)
    have h := lt_at h et31
    refine j_aload_n C (q := 0) dX1_save_22 rfl rfl ?_
    refine j_dup C dX1_save_23 rfl ?_
    refine fg_X1_21 C (i := 20) kA_20 dX1_save_24 ?_
    refine j_iconst C (v := 1) dX1_save_27 (by decide) ?_
    refine j_isub C dX1_save_28 ?_
    refine fp_X1_21 C (i := 20) kA_20 dX1_save_29 ?_
    refine j_tops (fun t32 et32 => ?_)
    have h := lt_at h et32
    exact J32 _ h
set_option maxRecDepth 100000 in
set_option maxHeartbeats 4000000 in
theorem c_X1_restoreInto (l : Launch) (G : GG) (B dy : Nat) (a1 : Nat) (k1 : kd a1 = 5) (t0 : St) {t9 : St} (h : f_X1_restoreInto a1 t0 = some t9) : Ct l G B dy yX1_restoreInto cX1_restoreInto 3 none 3 64 0 0 [.ref (B + 20), .ref (B + a1)] t0 (PostV G B t9) := by
  refine Ct_of (by decide +kernel) [(0, .ref (B + 20)), (1, .ref (B + a1))] (Nat.le_of_ble_eq_true rfl) rfl ?_
  intro p e s m args below meth c C hr hlk
  refine j_aload_n C (q := 0) dX1_restoreInto_0 rfl rfl ?_
  refine j_dup C dX1_restoreInto_1 rfl ?_
  refine fg_X1_21 C (i := 20) kA_20 dX1_restoreInto_2 ?_
  refine j_iconst C (v := 1) dX1_restoreInto_5 (by decide) ?_
  refine j_isub C dX1_restoreInto_6 ?_
  refine fp_X1_21 C (i := 20) kA_20 dX1_restoreInto_7 ?_
  refine j_tops (fun t21 et21 => ?_)
  have h := lt_at h et21
  refine j_aload_n C (q := 0) dX1_restoreInto_10 rfl rfl ?_
  refine j_aload_n C (q := 0) dX1_restoreInto_11 rfl rfl ?_
  refine fg_X1_21 C (i := 20) kA_20 dX1_restoreInto_12 ?_
  obtain ⟨x22, t23, e24, h⟩ := bd_some h
  refine j_callV_q C (i := 20) (As := [.int (t21.1 20 2)]) (rest := []) (c_X1_stateAt l G B dy (t21.1 20 2) _ e24) (shp1 G B _ kA_20) (kd_lt kA_20 (by decide)) rfl tw_514 tw_516 tp_23 ti_1 tw_517 hd_X1_stateAt ⟨Nat.le_of_ble_eq_true rfl, Nat.le_of_ble_eq_true rfl⟩ ⟨Nat.le_of_ble_eq_true rfl, Nat.le_of_ble_eq_true rfl⟩ rfl rfl (Nat.le_of_ble_eq_true rfl) dX1_restoreInto_15 ?_
  cases x22 with
  | none =>
    have h := oc_none h
    refine j_astore_nN C [(0, .ref (B + 20)), (1, .ref (B + a1)), (2, .null)] [1, 2, 0] dX1_restoreInto_18 rfl (by decide) rfl ?_
    refine j_aload_nN C (q := 2) dX1_restoreInto_19 rfl rfl ?_
    refine j_ifnull_yes C (tgt := 28) dX1_restoreInto_20 (by decide) ?_
    exact j_vret C hr hlk h ⟨Nat.le_of_ble_eq_true rfl, Nat.le_of_ble_eq_true rfl⟩ dX1_restoreInto_28
  | some a25 =>
    have h := oc_some h
    obtain ⟨g26, h⟩ := gd_some h
    refine j_astore_n C [(0, .ref (B + 20)), (1, .ref (B + a1)), (2, .ref (B + a25))] [1, 2, 0] dX1_restoreInto_18 rfl (by decide) rfl ?_
    refine j_aload_n C (q := 2) dX1_restoreInto_19 rfl rfl ?_
    refine j_ifnull_no C dX1_restoreInto_20 ?_
    refine j_aload_n C (q := 1) dX1_restoreInto_23 rfl rfl ?_
    refine j_aload_n C (q := 2) dX1_restoreInto_24 rfl rfl ?_
    obtain ⟨t28, e29, h⟩ := bv_some h
    refine j_callV_v C (i := a1) (As := [.ref (B + a25)]) (rest := []) (c_X5_copyFrom l G B dy a1 k1 a25 (isN_eq g26) _ e29) (shp5 G B _ k1) (kd_lt k1 (by decide)) rfl tw_518 tw_519 tw_520 ti_5 tw_521 hd_X5_copyFrom ⟨Nat.le_of_ble_eq_true rfl, Nat.le_of_ble_eq_true rfl⟩ ⟨Nat.le_of_ble_eq_true rfl, Nat.le_of_ble_eq_true rfl⟩ rfl rfl (Nat.le_of_ble_eq_true rfl) dX1_restoreInto_25 ?_
    exact j_vret C hr hlk h ⟨Nat.le_of_ble_eq_true rfl, Nat.le_of_ble_eq_true rfl⟩ dX1_restoreInto_28
set_option maxRecDepth 100000 in
set_option maxHeartbeats 4000000 in
theorem c_X2_start (l : Launch) (G : GG) (B dy : Nat) (t0 : St) {t9 : St} (h : f_X2_start t0 = some t9) : Ct l G B dy yX2_start cX2_start 1 none 0 0 0 0 [.ref (B + 138)] t0 (PostV G B t9) := by
  refine Ct_of (by decide +kernel) [(0, .ref (B + 138))] (Nat.le_of_ble_eq_true rfl) rfl ?_
  intro p e s m args below meth c C hr hlk
  refine j_aload_n C (q := 0) dX2_start_0 rfl rfl ?_
  refine j_iconst C (v := 0) dX2_start_1 (by decide) ?_
  refine fp_X2_11 C (i := 138) kA_138 dX2_start_2 ?_
  refine j_tops (fun t21 et21 => ?_)
  have h := lt_at h et21
  refine j_aload_n C (q := 0) dX2_start_5 rfl rfl ?_
  refine j_iconst C (v := 0) dX2_start_6 (by decide) ?_
  refine fp_X2_15 C (i := 138) kA_138 dX2_start_7 ?_
  refine j_tops (fun t22 et22 => ?_)
  have h := lt_at h et22
  refine j_aload_n C (q := 0) dX2_start_10 rfl rfl ?_
  refine j_iconst C (v := 0) dX2_start_11 (by decide) ?_
  refine fp_X2_18 C (i := 138) kA_138 dX2_start_12 ?_
  refine j_tops (fun t23 et23 => ?_)
  have h := lt_at h et23
  refine j_aload_n C (q := 0) dX2_start_15 rfl rfl ?_
  refine j_iconst C (v := 0) dX2_start_16 (by decide) ?_
  refine fp_X2_21 C (i := 138) kA_138 (Or.inl rfl) dX2_start_17 ?_
  refine j_tops (fun t24 et24 => ?_)
  have h := lt_at h et24
  refine j_aload_n C (q := 0) dX2_start_20 rfl rfl ?_
  refine j_iconst C (v := (-1)) dX2_start_21 (by decide) ?_
  refine fp_X2_25 C (i := 138) kA_138 dX2_start_22 ?_
  refine j_tops (fun t25 et25 => ?_)
  have h := lt_at h et25
  refine j_aload_n C (q := 0) dX2_start_25 rfl rfl ?_
  refine j_iconst C (v := 0) dX2_start_26 (by decide) ?_
  refine fp_X2_28 C (i := 138) kA_138 dX2_start_27 ?_
  refine j_tops (fun t26 et26 => ?_)
  have h := lt_at h et26
  exact j_vret C hr hlk h ⟨Nat.le_of_ble_eq_true rfl, Nat.le_of_ble_eq_true rfl⟩ dX2_start_30
set_option maxRecDepth 100000 in
set_option maxHeartbeats 4000000 in
theorem c_X2_hasWeekday (l : Launch) (G : GG) (B dy : Nat) (t0 : St) {r : Int32} {t9 : St} (h : f_X2_hasWeekday t0 = some (r, t9)) : Ct l G B dy yX2_hasWeekday cX2_hasWeekday 1 (some .boolean) 0 0 0 0 [.ref (B + 138)] t0 (PostI G B r t9) := by
  refine Ct_of (by decide +kernel) [(0, .ref (B + 138))] (Nat.le_of_ble_eq_true rfl) rfl ?_
  intro p e s m args below meth c C hr hlk
  refine j_aload_n C (q := 0) dX2_hasWeekday_0 rfl rfl ?_
  refine fg_X2_15 C (i := 138) kA_138 dX2_hasWeekday_1 ?_
  refine j_iconst C (v := 1) dX2_hasWeekday_4 (by decide) ?_
  refine j_icmp_eq C (tgt := 16) dX2_hasWeekday_5 (by decide) (fun c21 => ?_) (fun c21 => ?_)
  · have h := ite_t h c21
    refine j_iconst C (v := 1) dX2_hasWeekday_16 (by decide) ?_
    refine j_goto C (tgt := 21) dX2_hasWeekday_17 (by decide) ?_
    exact j_zret C hr hlk (Or.inr rfl) h ⟨Nat.le_of_ble_eq_true rfl, Nat.le_of_ble_eq_true rfl⟩ dX2_hasWeekday_21
  · have h := ite_f h c21
    refine j_aload_n C (q := 0) dX2_hasWeekday_8 rfl rfl ?_
    refine fg_X2_15 C (i := 138) kA_138 dX2_hasWeekday_9 ?_
    refine j_iconst C (v := 2) dX2_hasWeekday_12 (by decide) ?_
    refine j_icmp_ne C (tgt := 20) dX2_hasWeekday_13 (by decide) (fun c22 => ?_) (fun c22 => ?_)
    · have h := ite_t h c22
      refine j_iconst C (v := 1) dX2_hasWeekday_16 (by decide) ?_
      refine j_goto C (tgt := 21) dX2_hasWeekday_17 (by decide) ?_
      exact j_zret C hr hlk (Or.inr rfl) h ⟨Nat.le_of_ble_eq_true rfl, Nat.le_of_ble_eq_true rfl⟩ dX2_hasWeekday_21
    · have h := ite_f h c22
      refine j_iconst C (v := 0) dX2_hasWeekday_20 (by decide) ?_
      exact j_zret C hr hlk (Or.inl rfl) h ⟨Nat.le_of_ble_eq_true rfl, Nat.le_of_ble_eq_true rfl⟩ dX2_hasWeekday_21
set_option maxRecDepth 100000 in
set_option maxHeartbeats 4000000 in
theorem c_X2_mayEnd (l : Launch) (G : GG) (B dy : Nat) (t0 : St) {r : Int32} {t9 : St} (h : f_X2_mayEnd t0 = some (r, t9)) : Ct l G B dy yX2_mayEnd cX2_mayEnd 1 (some .boolean) 1 20 0 0 [.ref (B + 138)] t0 (PostI G B r t9) := by
  refine Ct_of (by decide +kernel) [(0, .ref (B + 138))] (Nat.le_of_ble_eq_true rfl) rfl ?_
  intro p e s m args below meth c C hr hlk
  refine j_aload_n C (q := 0) dX2_mayEnd_0 rfl rfl ?_
  refine fg_X2_11 C (i := 138) kA_138 dX2_mayEnd_1 ?_
  refine j_bipush C (v := 6) dX2_mayEnd_4 (by decide) ?_
  refine j_icmp_eq C (tgt := 33) dX2_mayEnd_6 (by decide) (fun c21 => ?_) (fun c21 => ?_)
  · have h := ite_t h c21
    refine j_iconst C (v := 1) dX2_mayEnd_33 (by decide) ?_
    refine j_goto C (tgt := 38) dX2_mayEnd_34 (by decide) ?_
    exact j_zret C hr hlk (Or.inr rfl) h ⟨Nat.le_of_ble_eq_true rfl, Nat.le_of_ble_eq_true rfl⟩ dX2_mayEnd_38
  · have h := ite_f h c21
    refine j_aload_n C (q := 0) dX2_mayEnd_9 rfl rfl ?_
    refine fg_X2_11 C (i := 138) kA_138 dX2_mayEnd_10 ?_
    refine j_bipush C (v := 8) dX2_mayEnd_13 (by decide) ?_
    refine j_icmp_eq C (tgt := 33) dX2_mayEnd_15 (by decide) (fun c22 => ?_) (fun c22 => ?_)
    · have h := ite_t h c22
      refine j_iconst C (v := 1) dX2_mayEnd_33 (by decide) ?_
      refine j_goto C (tgt := 38) dX2_mayEnd_34 (by decide) ?_
      exact j_zret C hr hlk (Or.inr rfl) h ⟨Nat.le_of_ble_eq_true rfl, Nat.le_of_ble_eq_true rfl⟩ dX2_mayEnd_38
    · have h := ite_f h c22
      refine j_aload_n C (q := 0) dX2_mayEnd_18 rfl rfl ?_
      refine fg_X2_11 C (i := 138) kA_138 dX2_mayEnd_19 ?_
      refine j_iconst C (v := 4) dX2_mayEnd_22 (by decide) ?_
      refine j_icmp_ne C (tgt := 37) dX2_mayEnd_23 (by decide) (fun c23 => ?_) (fun c23 => ?_)
      · have h := ite_t h c23
        refine j_aload_n C (q := 0) dX2_mayEnd_26 rfl rfl ?_
        obtain ⟨x24, t25, e26, h⟩ := bd_some h
        refine j_callV_i C (i := 138) (As := []) (rest := []) (c_X2_hasWeekday l G B dy _ e26) (shp2 G B _ kA_138) (kd_lt kA_138 (by decide)) rfl tw_484 tw_486 tp_18 ti_2 tw_487 hd_X2_hasWeekday ⟨Nat.le_of_ble_eq_true rfl, Nat.le_of_ble_eq_true rfl⟩ ⟨Nat.le_of_ble_eq_true rfl, Nat.le_of_ble_eq_true rfl⟩ rfl rfl (Nat.le_of_ble_eq_true rfl) dX2_mayEnd_27 ?_
        refine j_if_ne C (tgt := 37) dX2_mayEnd_30 (by decide) (fun c27 => ?_) (fun c27 => ?_)
        · have h := ite_t h c27
          refine j_iconst C (v := 1) dX2_mayEnd_33 (by decide) ?_
          refine j_goto C (tgt := 38) dX2_mayEnd_34 (by decide) ?_
          exact j_zret C hr hlk (Or.inr rfl) h ⟨Nat.le_of_ble_eq_true rfl, Nat.le_of_ble_eq_true rfl⟩ dX2_mayEnd_38
        · have h := ite_f h c27
          refine j_iconst C (v := 0) dX2_mayEnd_37 (by decide) ?_
          exact j_zret C hr hlk (Or.inl rfl) h ⟨Nat.le_of_ble_eq_true rfl, Nat.le_of_ble_eq_true rfl⟩ dX2_mayEnd_38
      · have h := ite_f h c23
        refine j_iconst C (v := 0) dX2_mayEnd_37 (by decide) ?_
        exact j_zret C hr hlk (Or.inl rfl) h ⟨Nat.le_of_ble_eq_true rfl, Nat.le_of_ble_eq_true rfl⟩ dX2_mayEnd_38
set_option maxRecDepth 100000 in
set_option maxHeartbeats 4000000 in
theorem c_X2_readsRule (l : Launch) (G : GG) (B dy : Nat) (x1 : Int32) (t0 : St) {r : Int32} {t9 : St} (h : f_X2_readsRule x1 t0 = some (r, t9)) : Ct l G B dy yX2_readsRule cX2_readsRule 2 (some .boolean) 0 0 0 0 [.ref (B + 138), .int x1] t0 (PostI G B r t9) := by
  refine Ct_of (by decide +kernel) [(0, .ref (B + 138)), (1, .int x1)] (Nat.le_of_ble_eq_true rfl) rfl ?_
  intro p e s m args below meth c C hr hlk
  have J78 : ∀ (t0 : St), f_X2_readsRule_b78 t0 = some (r, t9) → WW G B p l e (RM 0 0 0 0) s m args below meth c 0 0 (MQ below (PostI G B r t9) args s 0 0 (Ab B)) 2 78 [(0, .ref (B + 138))] [] t0 := by
    intro t0 h
    refine j_aload_n C (q := 0) dX2_readsRule_78 rfl rfl ?_
    refine j_aload_n C (q := 0) dX2_readsRule_79 rfl rfl ?_
    refine fg_X2_15 C (i := 138) kA_138 dX2_readsRule_80 ?_
    refine j_iconst C (v := 3) dX2_readsRule_83 (by decide) ?_
    refine j_icmp_ne C (tgt := 91) dX2_readsRule_84 (by decide) (fun c21 => ?_) (fun c21 => ?_)
    · have h := ite_t h c21
      refine j_iconst C (v := 1) dX2_readsRule_87 (by decide) ?_
      refine j_goto C (tgt := 92) dX2_readsRule_88 (by decide) ?_
      refine fp_X2_11 C (i := 138) kA_138 dX2_readsRule_92 ?_
      refine j_tops (fun t23 et23 => ?_)
      have h := lt_at h et23
      refine j_iconst C (v := 1) dX2_readsRule_95 (by decide) ?_
      exact j_zret C hr hlk (Or.inr rfl) h ⟨Nat.le_of_ble_eq_true rfl, Nat.le_of_ble_eq_true rfl⟩ dX2_readsRule_96
    · have h := ite_f h c21
      refine j_iconst C (v := 3) dX2_readsRule_91 (by decide) ?_
      refine fp_X2_11 C (i := 138) kA_138 dX2_readsRule_92 ?_
      refine j_tops (fun t22 et22 => ?_)
      have h := lt_at h et22
      refine j_iconst C (v := 1) dX2_readsRule_95 (by decide) ?_
      exact j_zret C hr hlk (Or.inr rfl) h ⟨Nat.le_of_ble_eq_true rfl, Nat.le_of_ble_eq_true rfl⟩ dX2_readsRule_96
  refine j_iload_n C (q := 1) dX2_readsRule_0 rfl rfl ?_
  by_cases c24 : x1 = 97
  · have h := ite_t h c24
    refine j_lookup C (off := 67) (tgt := 68) dX2_readsRule_1 (by decide) (sw_off c24 rfl) (by decide) ?_
    refine j_aload_n C (q := 0) dX2_readsRule_68 rfl rfl ?_
    refine j_iconst C (v := 3) dX2_readsRule_69 (by decide) ?_
    refine fp_X2_15 C (i := 138) kA_138 dX2_readsRule_70 ?_
    refine j_tops (fun t25 et25 => ?_)
    have h := lt_at h et25
    refine j_goto C (tgt := 78) dX2_readsRule_73 (by decide) ?_
    refine j_sub [0] rfl ?_
    exact J78 _ h
  · have h := ite_f h c24
    by_cases c26 : x1 = 100
    · have h := ite_t h c26
      refine j_lookup C (off := 43) (tgt := 44) dX2_readsRule_1 (by decide) (sw_off c26 rfl) (by decide) ?_
      refine j_aload_n C (q := 0) dX2_readsRule_44 rfl rfl ?_
      refine j_iconst C (v := 0) dX2_readsRule_45 (by decide) ?_
      refine fp_X2_15 C (i := 138) kA_138 dX2_readsRule_46 ?_
      refine j_tops (fun t27 et27 => ?_)
      have h := lt_at h et27
      refine j_goto C (tgt := 78) dX2_readsRule_49 (by decide) ?_
      refine j_sub [0] rfl ?_
      exact J78 _ h
    · have h := ite_f h c26
      by_cases c28 : x1 = 109
      · have h := ite_t h c28
        refine j_lookup C (off := 59) (tgt := 60) dX2_readsRule_1 (by decide) (sw_off c28 rfl) (by decide) ?_
        refine j_aload_n C (q := 0) dX2_readsRule_60 rfl rfl ?_
        refine j_iconst C (v := 2) dX2_readsRule_61 (by decide) ?_
        refine fp_X2_15 C (i := 138) kA_138 dX2_readsRule_62 ?_
        refine j_tops (fun t29 et29 => ?_)
        have h := lt_at h et29
        refine j_goto C (tgt := 78) dX2_readsRule_65 (by decide) ?_
        refine j_sub [0] rfl ?_
        exact J78 _ h
      · have h := ite_f h c28
        by_cases c30 : x1 = 119
        · have h := ite_t h c30
          refine j_lookup C (off := 51) (tgt := 52) dX2_readsRule_1 (by decide) (sw_off c30 rfl) (by decide) ?_
          refine j_aload_n C (q := 0) dX2_readsRule_52 rfl rfl ?_
          refine j_iconst C (v := 1) dX2_readsRule_53 (by decide) ?_
          refine fp_X2_15 C (i := 138) kA_138 dX2_readsRule_54 ?_
          refine j_tops (fun t31 et31 => ?_)
          have h := lt_at h et31
          refine j_goto C (tgt := 78) dX2_readsRule_57 (by decide) ?_
          refine j_sub [0] rfl ?_
          exact J78 _ h
        · have h := ite_f h c30
          refine j_lookup C (off := 75) (tgt := 76) dX2_readsRule_1 (by decide) ((lv_osw c24 (by decide)).trans ((lv_osw c26 (by decide)).trans ((lv_osw c28 (by decide)).trans ((lv_osw c30 (by decide)).trans rfl)))) (by decide) ?_
          refine j_iconst C (v := 0) dX2_readsRule_76 (by decide) ?_
          exact j_zret C hr hlk (Or.inl rfl) h ⟨Nat.le_of_ble_eq_true rfl, Nat.le_of_ble_eq_true rfl⟩ dX2_readsRule_77
set_option maxRecDepth 100000 in
set_option maxHeartbeats 4000000 in
theorem c_X2_readsOther (l : Launch) (G : GG) (B dy : Nat) (x1 : Int32) (x2 : Int32) (x3 : Int32) (t0 : St) {r : Int32} {t9 : St} (h : f_X2_readsOther x1 x2 x3 t0 = some (r, t9)) : Ct l G B dy yX2_readsOther cX2_readsOther 4 (some .boolean) 0 0 0 0 [.ref (B + 138), .int x1, .int x2, .int x3] t0 (PostI G B r t9) := by
  refine Ct_of (by decide +kernel) [(0, .ref (B + 138)), (1, .int x1), (2, .int x2), (3, .int x3)] (Nat.le_of_ble_eq_true rfl) rfl ?_
  intro p e s m args below meth c C hr hlk
  refine j_iload_n C (q := 1) dX2_readsOther_0 rfl rfl ?_
  refine j_bipush C (v := 48) dX2_readsOther_1 (by decide) ?_
  refine j_icmp_lt C (tgt := 14) dX2_readsOther_3 (by decide) (fun c21 => ?_) (fun c21 => ?_)
  · have h := ite_t h c21
    refine j_iconst C (v := 0) dX2_readsOther_14 (by decide) ?_
    exact j_zret C hr hlk (Or.inl rfl) h ⟨Nat.le_of_ble_eq_true rfl, Nat.le_of_ble_eq_true rfl⟩ dX2_readsOther_15
  · have h := ite_f h c21
    refine j_iload_n C (q := 1) dX2_readsOther_6 rfl rfl ?_
    refine j_bipush C (v := 48) dX2_readsOther_7 (by decide) ?_
    refine j_iload_n C (q := 2) dX2_readsOther_9 rfl rfl ?_
    refine j_iadd C dX2_readsOther_10 ?_
    refine j_icmp_le C (tgt := 16) dX2_readsOther_11 (by decide) (fun c22 => ?_) (fun c22 => ?_)
    · have h := ite_t h c22
      refine j_aload_n C (q := 0) dX2_readsOther_16 rfl rfl ?_
      refine j_iload_n C (q := 1) dX2_readsOther_17 rfl rfl ?_
      refine j_bipush C (v := 48) dX2_readsOther_18 (by decide) ?_
      refine j_isub C dX2_readsOther_20 ?_
      refine fp_X2_25 C (i := 138) kA_138 dX2_readsOther_21 ?_
      refine j_tops (fun t23 et23 => ?_)
      have h := lt_at h et23
      refine j_aload_n C (q := 0) dX2_readsOther_24 rfl rfl ?_
      refine j_iload_n C (q := 3) dX2_readsOther_25 rfl rfl ?_
      refine fp_X2_11 C (i := 138) kA_138 dX2_readsOther_26 ?_
      refine j_tops (fun t24 et24 => ?_)
      have h := lt_at h et24
      refine j_iconst C (v := 1) dX2_readsOther_29 (by decide) ?_
      exact j_zret C hr hlk (Or.inr rfl) h ⟨Nat.le_of_ble_eq_true rfl, Nat.le_of_ble_eq_true rfl⟩ dX2_readsOther_30
    · have h := ite_f h c22
      refine j_iconst C (v := 0) dX2_readsOther_14 (by decide) ?_
      exact j_zret C hr hlk (Or.inl rfl) h ⟨Nat.le_of_ble_eq_true rfl, Nat.le_of_ble_eq_true rfl⟩ dX2_readsOther_15
set_option maxRecDepth 100000 in
set_option maxHeartbeats 4000000 in
theorem c_X2_readsSign (l : Launch) (G : GG) (B dy : Nat) (x1 : Int32) (t0 : St) {r : Int32} {t9 : St} (h : f_X2_readsSign x1 t0 = some (r, t9)) : Ct l G B dy yX2_readsSign cX2_readsSign 2 (some .boolean) 0 0 0 0 [.ref (B + 138), .int x1] t0 (PostI G B r t9) := by
  refine Ct_of (by decide +kernel) [(0, .ref (B + 138)), (1, .int x1)] (Nat.le_of_ble_eq_true rfl) rfl ?_
  intro p e s m args below meth c C hr hlk
  have J26 : ∀ (w0 : Int32) (t0 : St), f_X2_readsSign_b26 w0 t0 = some (r, t9) → WW G B p l e (RM 0 0 0 0) s m args below meth c 0 0 (MQ below (PostI G B r t9) args s 0 0 (Ab B)) 2 26 [(0, .ref (B + 138))] [.int w0, .ref (B + 138)] t0 := by
    intro w0 t0 h
    obtain ⟨g22, h⟩ := gd_some h
    refine fp_X2_21 C (i := 138) kA_138 (is01_or g22) dX2_readsSign_26 ?_
    refine j_tops (fun t21 et21 => ?_)
    have h := lt_at h et21
    refine j_aload_n C (q := 0) dX2_readsSign_29 rfl rfl ?_
    refine j_iconst C (v := 3) dX2_readsSign_30 (by decide) ?_
    refine fp_X2_11 C (i := 138) kA_138 dX2_readsSign_31 ?_
    refine j_tops (fun t23 et23 => ?_)
    have h := lt_at h et23
    refine j_iconst C (v := 1) dX2_readsSign_34 (by decide) ?_
    exact j_zret C hr hlk (Or.inr rfl) h ⟨Nat.le_of_ble_eq_true rfl, Nat.le_of_ble_eq_true rfl⟩ dX2_readsSign_35
  have J14 : ∀ (t0 : St), f_X2_readsSign_b14 x1 t0 = some (r, t9) → WW G B p l e (RM 0 0 0 0) s m args below meth c 0 0 (MQ below (PostI G B r t9) args s 0 0 (Ab B)) 2 14 [(0, .ref (B + 138)), (1, .int x1)] [] t0 := by
    intro t0 h
    refine j_aload_n C (q := 0) dX2_readsSign_14 rfl rfl ?_
    refine j_iload_n C (q := 1) dX2_readsSign_15 rfl rfl ?_
    refine j_bipush C (v := 45) dX2_readsSign_16 (by decide) ?_
    refine j_icmp_ne C (tgt := 25) dX2_readsSign_18 (by decide) (fun c24 => ?_) (fun c24 => ?_)
    · have h := ite_t h c24
      refine j_iconst C (v := 1) dX2_readsSign_21 (by decide) ?_
      refine j_goto C (tgt := 26) dX2_readsSign_22 (by decide) ?_
      refine j_sub [0] rfl ?_
      exact J26 1 _ h
    · have h := ite_f h c24
      refine j_iconst C (v := 0) dX2_readsSign_25 (by decide) ?_
      refine j_sub [0] rfl ?_
      exact J26 0 _ h
  refine j_iload_n C (q := 1) dX2_readsSign_0 rfl rfl ?_
  refine j_bipush C (v := 43) dX2_readsSign_1 (by decide) ?_
  refine j_icmp_eq C (tgt := 14) dX2_readsSign_3 (by decide) (fun c25 => ?_) (fun c25 => ?_)
  · have h := ite_t h c25
    exact J14 _ h
  · have h := ite_f h c25
    refine j_iload_n C (q := 1) dX2_readsSign_6 rfl rfl ?_
    refine j_bipush C (v := 45) dX2_readsSign_7 (by decide) ?_
    refine j_icmp_eq C (tgt := 14) dX2_readsSign_9 (by decide) (fun c26 => ?_) (fun c26 => ?_)
    · have h := ite_t h c26
      exact J14 _ h
    · have h := ite_f h c26
      refine j_iconst C (v := 0) dX2_readsSign_12 (by decide) ?_
      exact j_zret C hr hlk (Or.inl rfl) h ⟨Nat.le_of_ble_eq_true rfl, Nat.le_of_ble_eq_true rfl⟩ dX2_readsSign_13
set_option maxRecDepth 100000 in
set_option maxHeartbeats 4000000 in
theorem c_X2_isDigit (l : Launch) (G : GG) (B dy : Nat) (x0 : Int32) (t0 : St) {r : Int32} {t9 : St} (h : f_X2_isDigit x0 t0 = some (r, t9)) : Ct l G B dy yX2_isDigit cX2_isDigit 1 (some .boolean) 0 0 0 0 [.int x0] t0 (PostI G B r t9) := by
  refine Ct_of (by decide +kernel) [(0, .int x0)] (Nat.le_of_ble_eq_true rfl) rfl ?_
  intro p e s m args below meth c C hr hlk
  refine j_iload_n C (q := 0) dX2_isDigit_0 rfl rfl ?_
  refine j_bipush C (v := 48) dX2_isDigit_1 (by decide) ?_
  refine j_icmp_lt C (tgt := 16) dX2_isDigit_3 (by decide) (fun c21 => ?_) (fun c21 => ?_)
  · have h := ite_t h c21
    refine j_iconst C (v := 0) dX2_isDigit_16 (by decide) ?_
    exact j_zret C hr hlk (Or.inl rfl) h ⟨Nat.le_of_ble_eq_true rfl, Nat.le_of_ble_eq_true rfl⟩ dX2_isDigit_17
  · have h := ite_f h c21
    refine j_iload_n C (q := 0) dX2_isDigit_6 rfl rfl ?_
    refine j_bipush C (v := 57) dX2_isDigit_7 (by decide) ?_
    refine j_icmp_gt C (tgt := 16) dX2_isDigit_9 (by decide) (fun c22 => ?_) (fun c22 => ?_)
    · have h := ite_t h c22
      refine j_iconst C (v := 0) dX2_isDigit_16 (by decide) ?_
      exact j_zret C hr hlk (Or.inl rfl) h ⟨Nat.le_of_ble_eq_true rfl, Nat.le_of_ble_eq_true rfl⟩ dX2_isDigit_17
    · have h := ite_f h c22
      refine j_iconst C (v := 1) dX2_isDigit_12 (by decide) ?_
      refine j_goto C (tgt := 17) dX2_isDigit_13 (by decide) ?_
      exact j_zret C hr hlk (Or.inr rfl) h ⟨Nat.le_of_ble_eq_true rfl, Nat.le_of_ble_eq_true rfl⟩ dX2_isDigit_17
set_option maxRecDepth 100000 in
set_option maxHeartbeats 4000000 in
theorem c_X2_readsFirstDigit (l : Launch) (G : GG) (B dy : Nat) (x1 : Int32) (t0 : St) {r : Int32} {t9 : St} (h : f_X2_readsFirstDigit x1 t0 = some (r, t9)) : Ct l G B dy yX2_readsFirstDigit cX2_readsFirstDigit 2 (some .boolean) 1 20 0 0 [.ref (B + 138), .int x1] t0 (PostI G B r t9) := by
  refine Ct_of (by decide +kernel) [(0, .ref (B + 138)), (1, .int x1)] (Nat.le_of_ble_eq_true rfl) rfl ?_
  intro p e s m args below meth c C hr hlk
  refine j_iload_n C (q := 1) dX2_readsFirstDigit_0 rfl rfl ?_
  obtain ⟨x21, t22, e23, h⟩ := bd_some h
  refine j_callS_i C (i := 0) (As := [.int x1]) (rest := []) (c_X2_isDigit l G B dy x1 _ e23) tw_477 tw_478 ti_2 tw_479 ⟨rfl, hd_X2_isDigit⟩ ⟨Nat.le_of_ble_eq_true rfl, Nat.le_of_ble_eq_true rfl⟩ ⟨Nat.le_of_ble_eq_true rfl, Nat.le_of_ble_eq_true rfl⟩ rfl rfl (Nat.le_of_ble_eq_true rfl) dX2_readsFirstDigit_1 ?_
  refine j_if_ne C (tgt := 9) dX2_readsFirstDigit_4 (by decide) (fun c24 => ?_) (fun c24 => ?_)
  · have h := ite_t h c24
    refine j_iconst C (v := 0) dX2_readsFirstDigit_7 (by decide) ?_
    exact j_zret C hr hlk (Or.inl rfl) h ⟨Nat.le_of_ble_eq_true rfl, Nat.le_of_ble_eq_true rfl⟩ dX2_readsFirstDigit_8
  · have h := ite_f h c24
    refine j_aload_n C (q := 0) dX2_readsFirstDigit_9 rfl rfl ?_
    refine j_iload_n C (q := 1) dX2_readsFirstDigit_10 rfl rfl ?_
    refine j_bipush C (v := 48) dX2_readsFirstDigit_11 (by decide) ?_
    refine j_isub C dX2_readsFirstDigit_13 ?_
    refine fp_X2_18 C (i := 138) kA_138 dX2_readsFirstDigit_14 ?_
    refine j_tops (fun t25 et25 => ?_)
    have h := lt_at h et25
    refine j_aload_n C (q := 0) dX2_readsFirstDigit_17 rfl rfl ?_
    refine j_iconst C (v := 4) dX2_readsFirstDigit_18 (by decide) ?_
    refine fp_X2_11 C (i := 138) kA_138 dX2_readsFirstDigit_19 ?_
    refine j_tops (fun t26 et26 => ?_)
    have h := lt_at h et26
    refine j_iconst C (v := 1) dX2_readsFirstDigit_22 (by decide) ?_
    exact j_zret C hr hlk (Or.inr rfl) h ⟨Nat.le_of_ble_eq_true rfl, Nat.le_of_ble_eq_true rfl⟩ dX2_readsFirstDigit_23
set_option maxRecDepth 100000 in
set_option maxHeartbeats 4000000 in
theorem c_X2_readsNextDigit (l : Launch) (G : GG) (B dy : Nat) (x1 : Int32) (t0 : St) {r : Int32} {t9 : St} (h : f_X2_readsNextDigit x1 t0 = some (r, t9)) : Ct l G B dy yX2_readsNextDigit cX2_readsNextDigit 4 (some .boolean) 1 20 0 0 [.ref (B + 138), .int x1] t0 (PostI G B r t9) := by
  refine Ct_of (by decide +kernel) [(0, .ref (B + 138)), (1, .int x1)] (Nat.le_of_ble_eq_true rfl) rfl ?_
  intro p e s m args below meth c C hr hlk
  have J29 : ∀ (y2 : Int32) (w0 : Int32) (t0 : St), f_X2_readsNextDigit_b29 x1 y2 w0 t0 = some (r, t9) → WW G B p l e (RM 1 20 0 0) s m args below meth c 0 0 (MQ below (PostI G B r t9) args s 0 0 (Ab B)) 4 29 [(0, .ref (B + 138)), (1, .int x1), (2, .int y2)] [.int w0] t0 := by
    intro y2 w0 t0 h
    refine j_istore_n C [(0, .ref (B + 138)), (1, .int x1), (2, .int y2), (3, .int w0)] [1, 2, 3, 0] dX2_readsNextDigit_29 rfl (by decide) rfl ?_
    refine j_iload_n C (q := 1) dX2_readsNextDigit_30 rfl rfl ?_
    obtain ⟨x21, t22, e23, h⟩ := bd_some h
    refine j_callS_i C (i := 0) (As := [.int x1]) (rest := []) (c_X2_isDigit l G B dy x1 _ e23) tw_477 tw_478 ti_2 tw_479 ⟨rfl, hd_X2_isDigit⟩ ⟨Nat.le_of_ble_eq_true rfl, Nat.le_of_ble_eq_true rfl⟩ ⟨Nat.le_of_ble_eq_true rfl, Nat.le_of_ble_eq_true rfl⟩ rfl rfl (Nat.le_of_ble_eq_true rfl) dX2_readsNextDigit_31 ?_
    refine j_if_eq C (tgt := 49) dX2_readsNextDigit_34 (by decide) (fun c24 => ?_) (fun c24 => ?_)
    · have h := ite_t h c24
      refine j_iconst C (v := 0) dX2_readsNextDigit_49 (by decide) ?_
      exact j_zret C hr hlk (Or.inl rfl) h ⟨Nat.le_of_ble_eq_true rfl, Nat.le_of_ble_eq_true rfl⟩ dX2_readsNextDigit_50
    · have h := ite_f h c24
      refine j_aload_n C (q := 0) dX2_readsNextDigit_37 rfl rfl ?_
      refine fg_X2_18 C (i := 138) kA_138 dX2_readsNextDigit_38 ?_
      refine j_if_eq C (tgt := 49) dX2_readsNextDigit_41 (by decide) (fun c25 => ?_) (fun c25 => ?_)
      · have h := ite_t h c25
        refine j_iconst C (v := 0) dX2_readsNextDigit_49 (by decide) ?_
        exact j_zret C hr hlk (Or.inl rfl) h ⟨Nat.le_of_ble_eq_true rfl, Nat.le_of_ble_eq_true rfl⟩ dX2_readsNextDigit_50
      · have h := ite_f h c25
        refine j_iload_n C (q := 2) dX2_readsNextDigit_44 rfl rfl ?_
        refine j_iload_n C (q := 3) dX2_readsNextDigit_45 rfl rfl ?_
        refine j_icmp_le C (tgt := 51) dX2_readsNextDigit_46 (by decide) (fun c26 => ?_) (fun c26 => ?_)
        · have h := ite_t h c26
          refine j_aload_n C (q := 0) dX2_readsNextDigit_51 rfl rfl ?_
          refine j_iload_n C (q := 2) dX2_readsNextDigit_52 rfl rfl ?_
          refine fp_X2_18 C (i := 138) kA_138 dX2_readsNextDigit_53 ?_
          refine j_tops (fun t27 et27 => ?_)
          have h := lt_at h et27
          refine j_iconst C (v := 1) dX2_readsNextDigit_56 (by decide) ?_
          exact j_zret C hr hlk (Or.inr rfl) h ⟨Nat.le_of_ble_eq_true rfl, Nat.le_of_ble_eq_true rfl⟩ dX2_readsNextDigit_57
        · have h := ite_f h c26
          refine j_iconst C (v := 0) dX2_readsNextDigit_49 (by decide) ?_
          exact j_zret C hr hlk (Or.inl rfl) h ⟨Nat.le_of_ble_eq_true rfl, Nat.le_of_ble_eq_true rfl⟩ dX2_readsNextDigit_50
  refine j_aload_n C (q := 0) dX2_readsNextDigit_0 rfl rfl ?_
  refine fg_X2_18 C (i := 138) kA_138 dX2_readsNextDigit_1 ?_
  refine j_bipush C (v := 10) dX2_readsNextDigit_4 (by decide) ?_
  refine j_imul C dX2_readsNextDigit_6 ?_
  refine j_iload_n C (q := 1) dX2_readsNextDigit_7 rfl rfl ?_
  refine j_iadd C dX2_readsNextDigit_8 ?_
  refine j_bipush C (v := 48) dX2_readsNextDigit_9 (by decide) ?_
  refine j_isub C dX2_readsNextDigit_11 ?_
  refine j_topi (fun x28 ex28 => ?_)
  have h := lt_at h ex28
  refine j_istore_n C [(0, .ref (B + 138)), (1, .int x1), (2, .int x28)] [1, 2, 0] dX2_readsNextDigit_12 rfl (by decide) rfl ?_
  refine j_aload_n C (q := 0) dX2_readsNextDigit_13 rfl rfl ?_
  refine fg_X2_15 C (i := 138) kA_138 dX2_readsNextDigit_14 ?_
  refine j_iconst C (v := 3) dX2_readsNextDigit_17 (by decide) ?_
  refine j_icmp_ne C (tgt := 26) dX2_readsNextDigit_18 (by decide) (fun c29 => ?_) (fun c29 => ?_)
  · have h := ite_t h c29
    refine j_bipush C (v := 90) dX2_readsNextDigit_21 (by decide) ?_
    refine j_goto C (tgt := 29) dX2_readsNextDigit_23 (by decide) ?_
    exact J29 x28 90 _ h
  · have h := ite_f h c29
    refine j_sipush C (v := 365) dX2_readsNextDigit_26 (by decide) ?_
    exact J29 x28 365 _ h
set_option maxRecDepth 100000 in
set_option maxHeartbeats 4000000 in
theorem c_X2_readsComma (l : Launch) (G : GG) (B dy : Nat) (x1 : Int32) (t0 : St) {r : Int32} {t9 : St} (h : f_X2_readsComma x1 t0 = some (r, t9)) : Ct l G B dy yX2_readsComma cX2_readsComma 2 (some .boolean) 0 0 0 0 [.ref (B + 138), .int x1] t0 (PostI G B r t9) := by
  refine Ct_of (by decide +kernel) [(0, .ref (B + 138)), (1, .int x1)] (Nat.le_of_ble_eq_true rfl) rfl ?_
  intro p e s m args below meth c C hr hlk
  refine j_iload_n C (q := 1) dX2_readsComma_0 rfl rfl ?_
  refine j_bipush C (v := 44) dX2_readsComma_1 (by decide) ?_
  refine j_icmp_eq C (tgt := 8) dX2_readsComma_3 (by decide) (fun c21 => ?_) (fun c21 => ?_)
  · have h := ite_t h c21
    refine j_aload_n C (q := 0) dX2_readsComma_8 rfl rfl ?_
    refine j_iconst C (v := 5) dX2_readsComma_9 (by decide) ?_
    refine fp_X2_11 C (i := 138) kA_138 dX2_readsComma_10 ?_
    refine j_tops (fun t22 et22 => ?_)
    have h := lt_at h et22
    refine j_iconst C (v := 1) dX2_readsComma_13 (by decide) ?_
    exact j_zret C hr hlk (Or.inr rfl) h ⟨Nat.le_of_ble_eq_true rfl, Nat.le_of_ble_eq_true rfl⟩ dX2_readsComma_14
  · have h := ite_f h c21
    refine j_iconst C (v := 0) dX2_readsComma_6 (by decide) ?_
    exact j_zret C hr hlk (Or.inl rfl) h ⟨Nat.le_of_ble_eq_true rfl, Nat.le_of_ble_eq_true rfl⟩ dX2_readsComma_7
set_option maxRecDepth 100000 in
set_option maxHeartbeats 4000000 in
theorem c_X2_readsSeparator (l : Launch) (G : GG) (B dy : Nat) (x1 : Int32) (t0 : St) {r : Int32} {t9 : St} (h : f_X2_readsSeparator x1 t0 = some (r, t9)) : Ct l G B dy yX2_readsSeparator cX2_readsSeparator 2 (some .boolean) 1 20 0 0 [.ref (B + 138), .int x1] t0 (PostI G B r t9) := by
  refine Ct_of (by decide +kernel) [(0, .ref (B + 138)), (1, .int x1)] (Nat.le_of_ble_eq_true rfl) rfl ?_
  intro p e s m args below meth c C hr hlk
  refine j_iload_n C (q := 1) dX2_readsSeparator_0 rfl rfl ?_
  refine j_bipush C (v := 59) dX2_readsSeparator_1 (by decide) ?_
  refine j_icmp_eq C (tgt := 8) dX2_readsSeparator_3 (by decide) (fun c21 => ?_) (fun c21 => ?_)
  · have h := ite_t h c21
    refine j_aload_n C (q := 0) dX2_readsSeparator_8 rfl rfl ?_
    obtain ⟨t23, e24, h⟩ := bv_some h
    refine j_callV_v C (i := 138) (As := []) (rest := []) (c_X2_start l G B dy _ e24) (shp2 G B _ kA_138) (kd_lt kA_138 (by decide)) rfl tw_500 tw_454 tw_455 ti_2 tw_456 hd_X2_start ⟨Nat.le_of_ble_eq_true rfl, Nat.le_of_ble_eq_true rfl⟩ ⟨Nat.le_of_ble_eq_true rfl, Nat.le_of_ble_eq_true rfl⟩ rfl rfl (Nat.le_of_ble_eq_true rfl) dX2_readsSeparator_9 ?_
    refine j_iconst C (v := 1) dX2_readsSeparator_12 (by decide) ?_
    exact j_zret C hr hlk (Or.inr rfl) h ⟨Nat.le_of_ble_eq_true rfl, Nat.le_of_ble_eq_true rfl⟩ dX2_readsSeparator_13
  · have h := ite_f h c21
    refine j_iconst C (v := 0) dX2_readsSeparator_6 (by decide) ?_
    exact j_zret C hr hlk (Or.inl rfl) h ⟨Nat.le_of_ble_eq_true rfl, Nat.le_of_ble_eq_true rfl⟩ dX2_readsSeparator_7
set_option maxRecDepth 100000 in
set_option maxHeartbeats 4000000 in
theorem c_X2_readsBehindRule (l : Launch) (G : GG) (B dy : Nat) (x1 : Int32) (t0 : St) {r : Int32} {t9 : St} (h : f_X2_readsBehindRule x1 t0 = some (r, t9)) : Ct l G B dy yX2_readsBehindRule cX2_readsBehindRule 2 (some .boolean) 2 41 0 0 [.ref (B + 138), .int x1] t0 (PostI G B r t9) := by
  refine Ct_of (by decide +kernel) [(0, .ref (B + 138)), (1, .int x1)] (Nat.le_of_ble_eq_true rfl) rfl ?_
  intro p e s m args below meth c C hr hlk
  refine j_iload_n C (q := 1) dX2_readsBehindRule_0 rfl rfl ?_
  refine j_bipush C (v := 94) dX2_readsBehindRule_1 (by decide) ?_
  refine j_icmp_eq C (tgt := 12) dX2_readsBehindRule_3 (by decide) (fun c21 => ?_) (fun c21 => ?_)
  · have h := ite_t h c21
    refine j_aload_n C (q := 0) dX2_readsBehindRule_12 rfl rfl ?_
    refine j_bipush C (v := 7) dX2_readsBehindRule_13 (by decide) ?_
    refine fp_X2_11 C (i := 138) kA_138 dX2_readsBehindRule_15 ?_
    refine j_tops (fun t22 et22 => ?_)
    have h := lt_at h et22
    refine j_iconst C (v := 1) dX2_readsBehindRule_18 (by decide) ?_
    exact j_zret C hr hlk (Or.inr rfl) h ⟨Nat.le_of_ble_eq_true rfl, Nat.le_of_ble_eq_true rfl⟩ dX2_readsBehindRule_19
  · have h := ite_f h c21
    refine j_aload_n C (q := 0) dX2_readsBehindRule_6 rfl rfl ?_
    refine j_iload_n C (q := 1) dX2_readsBehindRule_7 rfl rfl ?_
    obtain ⟨x23, t24, e25, h⟩ := bd_some h
    refine j_callV_i C (i := 138) (As := [.int x1]) (rest := []) (c_X2_readsSeparator l G B dy x1 _ e25) (shp2 G B _ kA_138) (kd_lt kA_138 (by decide)) rfl tw_496 tw_498 tp_21 ti_2 tw_499 hd_X2_readsSeparator ⟨Nat.le_of_ble_eq_true rfl, Nat.le_of_ble_eq_true rfl⟩ ⟨Nat.le_of_ble_eq_true rfl, Nat.le_of_ble_eq_true rfl⟩ rfl rfl (Nat.le_of_ble_eq_true rfl) dX2_readsBehindRule_8 ?_
    obtain ⟨g26, h⟩ := gd_some h
    exact j_zret C hr hlk (is01_or g26) h ⟨Nat.le_of_ble_eq_true rfl, Nat.le_of_ble_eq_true rfl⟩ dX2_readsBehindRule_11
set_option maxRecDepth 100000 in
set_option maxHeartbeats 4000000 in
theorem c_X2_readsRank (l : Launch) (G : GG) (B dy : Nat) (x1 : Int32) (t0 : St) {r : Int32} {t9 : St} (h : f_X2_readsRank x1 t0 = some (r, t9)) : Ct l G B dy yX2_readsRank cX2_readsRank 2 (some .boolean) 1 20 0 0 [.ref (B + 138), .int x1] t0 (PostI G B r t9) := by
  refine Ct_of (by decide +kernel) [(0, .ref (B + 138)), (1, .int x1)] (Nat.le_of_ble_eq_true rfl) rfl ?_
  intro p e s m args below meth c C hr hlk
  refine j_iload_n C (q := 1) dX2_readsRank_0 rfl rfl ?_
  obtain ⟨x21, t22, e23, h⟩ := bd_some h
  refine j_callS_i C (i := 0) (As := [.int x1]) (rest := []) (c_X2_isDigit l G B dy x1 _ e23) tw_477 tw_478 ti_2 tw_479 ⟨rfl, hd_X2_isDigit⟩ ⟨Nat.le_of_ble_eq_true rfl, Nat.le_of_ble_eq_true rfl⟩ ⟨Nat.le_of_ble_eq_true rfl, Nat.le_of_ble_eq_true rfl⟩ rfl rfl (Nat.le_of_ble_eq_true rfl) dX2_readsRank_1 ?_
  refine j_if_ne C (tgt := 9) dX2_readsRank_4 (by decide) (fun c24 => ?_) (fun c24 => ?_)
  · have h := ite_t h c24
    refine j_iconst C (v := 0) dX2_readsRank_7 (by decide) ?_
    exact j_zret C hr hlk (Or.inl rfl) h ⟨Nat.le_of_ble_eq_true rfl, Nat.le_of_ble_eq_true rfl⟩ dX2_readsRank_8
  · have h := ite_f h c24
    refine j_aload_n C (q := 0) dX2_readsRank_9 rfl rfl ?_
    refine j_iload_n C (q := 1) dX2_readsRank_10 rfl rfl ?_
    refine j_bipush C (v := 48) dX2_readsRank_11 (by decide) ?_
    refine j_isub C dX2_readsRank_13 ?_
    refine fp_X2_28 C (i := 138) kA_138 dX2_readsRank_14 ?_
    refine j_tops (fun t25 et25 => ?_)
    have h := lt_at h et25
    refine j_aload_n C (q := 0) dX2_readsRank_17 rfl rfl ?_
    refine j_bipush C (v := 8) dX2_readsRank_18 (by decide) ?_
    refine fp_X2_11 C (i := 138) kA_138 dX2_readsRank_20 ?_
    refine j_tops (fun t26 et26 => ?_)
    have h := lt_at h et26
    refine j_iconst C (v := 1) dX2_readsRank_23 (by decide) ?_
    exact j_zret C hr hlk (Or.inr rfl) h ⟨Nat.le_of_ble_eq_true rfl, Nat.le_of_ble_eq_true rfl⟩ dX2_readsRank_24
set_option maxRecDepth 100000 in
set_option maxHeartbeats 4000000 in
theorem c_X2_reads (l : Launch) (G : GG) (B dy : Nat) (x1 : Int32) (t0 : St) {r : Int32} {t9 : St} (h : f_X2_reads x1 t0 = some (r, t9)) : Ct l G B dy yX2_reads cX2_reads 2 (some .boolean) 3 62 0 0 [.ref (B + 138), .int x1] t0 (PostI G B r t9) := by
  refine Ct_of (by decide +kernel) [(0, .ref (B + 138)), (1, .int x1)] (Nat.le_of_ble_eq_true rfl) rfl ?_
  intro p e s m args below meth c C hr hlk
  refine j_aload_n C (q := 0) dX2_reads_0 rfl rfl ?_
  refine fg_X2_11 C (i := 138) kA_138 dX2_reads_1 ?_
  by_cases c21 : (t0.1 138 5) = 0
  · have h := ite_t h c21
    refine j_tableIn C (tgt := 52) dX2_reads_4 (by rw [c21]; decide) (by rw [c21]; decide) (by rw [c21]; rfl) (by decide) ?_
    refine j_aload_n C (q := 0) dX2_reads_52 rfl rfl ?_
    refine j_iload_n C (q := 1) dX2_reads_53 rfl rfl ?_
    obtain ⟨x22, t23, e24, h⟩ := bd_some h
    refine j_callV_i C (i := 138) (As := [.int x1]) (rest := []) (c_X2_readsRule l G B dy x1 _ e24) (shp2 G B _ kA_138) (kd_lt kA_138 (by decide)) rfl tw_461 tw_463 tp_13 ti_2 tw_464 hd_X2_readsRule ⟨Nat.le_of_ble_eq_true rfl, Nat.le_of_ble_eq_true rfl⟩ ⟨Nat.le_of_ble_eq_true rfl, Nat.le_of_ble_eq_true rfl⟩ rfl rfl (Nat.le_of_ble_eq_true rfl) dX2_reads_54 ?_
    obtain ⟨g25, h⟩ := gd_some h
    exact j_zret C hr hlk (is01_or g25) h ⟨Nat.le_of_ble_eq_true rfl, Nat.le_of_ble_eq_true rfl⟩ dX2_reads_57
  · have h := ite_f h c21
    by_cases c26 : (t0.1 138 5) = 1
    · have h := ite_t h c26
      refine j_tableIn C (tgt := 58) dX2_reads_4 (by rw [c26]; decide) (by rw [c26]; decide) (by rw [c26]; rfl) (by decide) ?_
      refine j_aload_n C (q := 0) dX2_reads_58 rfl rfl ?_
      refine j_iload_n C (q := 1) dX2_reads_59 rfl rfl ?_
      refine j_bipush C (v := 9) dX2_reads_60 (by decide) ?_
      refine j_iconst C (v := 2) dX2_reads_62 (by decide) ?_
      obtain ⟨x27, t28, e29, h⟩ := bd_some h
      refine j_callV_i C (i := 138) (As := [.int x1, .int 9, .int 2]) (rest := []) (c_X2_readsOther l G B dy x1 9 2 _ e29) (shp2 G B _ kA_138) (kd_lt kA_138 (by decide)) rfl tw_465 tw_467 tp_14 ti_2 tw_468 hd_X2_readsOther ⟨Nat.le_of_ble_eq_true rfl, Nat.le_of_ble_eq_true rfl⟩ ⟨Nat.le_of_ble_eq_true rfl, Nat.le_of_ble_eq_true rfl⟩ rfl rfl (Nat.le_of_ble_eq_true rfl) dX2_reads_63 ?_
      obtain ⟨g30, h⟩ := gd_some h
      exact j_zret C hr hlk (is01_or g30) h ⟨Nat.le_of_ble_eq_true rfl, Nat.le_of_ble_eq_true rfl⟩ dX2_reads_66
    · have h := ite_f h c26
      by_cases c31 : (t0.1 138 5) = 2
      · have h := ite_t h c31
        refine j_tableIn C (tgt := 67) dX2_reads_4 (by rw [c31]; decide) (by rw [c31]; decide) (by rw [c31]; rfl) (by decide) ?_
        refine j_aload_n C (q := 0) dX2_reads_67 rfl rfl ?_
        refine j_iload_n C (q := 1) dX2_reads_68 rfl rfl ?_
        obtain ⟨x32, t33, e34, h⟩ := bd_some h
        refine j_callV_i C (i := 138) (As := [.int x1]) (rest := []) (c_X2_readsSign l G B dy x1 _ e34) (shp2 G B _ kA_138) (kd_lt kA_138 (by decide)) rfl tw_469 tw_471 tp_15 ti_2 tw_472 hd_X2_readsSign ⟨Nat.le_of_ble_eq_true rfl, Nat.le_of_ble_eq_true rfl⟩ ⟨Nat.le_of_ble_eq_true rfl, Nat.le_of_ble_eq_true rfl⟩ rfl rfl (Nat.le_of_ble_eq_true rfl) dX2_reads_69 ?_
        obtain ⟨g35, h⟩ := gd_some h
        exact j_zret C hr hlk (is01_or g35) h ⟨Nat.le_of_ble_eq_true rfl, Nat.le_of_ble_eq_true rfl⟩ dX2_reads_72
      · have h := ite_f h c31
        by_cases c36 : (t0.1 138 5) = 3
        · have h := ite_t h c36
          refine j_tableIn C (tgt := 73) dX2_reads_4 (by rw [c36]; decide) (by rw [c36]; decide) (by rw [c36]; rfl) (by decide) ?_
          refine j_aload_n C (q := 0) dX2_reads_73 rfl rfl ?_
          refine j_iload_n C (q := 1) dX2_reads_74 rfl rfl ?_
          obtain ⟨x37, t38, e39, h⟩ := bd_some h
          refine j_callV_i C (i := 138) (As := [.int x1]) (rest := []) (c_X2_readsFirstDigit l G B dy x1 _ e39) (shp2 G B _ kA_138) (kd_lt kA_138 (by decide)) rfl tw_473 tw_475 tp_16 ti_2 tw_476 hd_X2_readsFirstDigit ⟨Nat.le_of_ble_eq_true rfl, Nat.le_of_ble_eq_true rfl⟩ ⟨Nat.le_of_ble_eq_true rfl, Nat.le_of_ble_eq_true rfl⟩ rfl rfl (Nat.le_of_ble_eq_true rfl) dX2_reads_75 ?_
          obtain ⟨g40, h⟩ := gd_some h
          exact j_zret C hr hlk (is01_or g40) h ⟨Nat.le_of_ble_eq_true rfl, Nat.le_of_ble_eq_true rfl⟩ dX2_reads_78
        · have h := ite_f h c36
          by_cases c41 : (t0.1 138 5) = 4
          · have h := ite_t h c41
            refine j_tableIn C (tgt := 79) dX2_reads_4 (by rw [c41]; decide) (by rw [c41]; decide) (by rw [c41]; rfl) (by decide) ?_
            refine j_aload_n C (q := 0) dX2_reads_79 rfl rfl ?_
            refine j_iload_n C (q := 1) dX2_reads_80 rfl rfl ?_
            obtain ⟨x42, t43, e44, h⟩ := bd_some h
            refine j_callV_i C (i := 138) (As := [.int x1]) (rest := []) (c_X2_readsNextDigit l G B dy x1 _ e44) (shp2 G B _ kA_138) (kd_lt kA_138 (by decide)) rfl tw_480 tw_482 tp_17 ti_2 tw_483 hd_X2_readsNextDigit ⟨Nat.le_of_ble_eq_true rfl, Nat.le_of_ble_eq_true rfl⟩ ⟨Nat.le_of_ble_eq_true rfl, Nat.le_of_ble_eq_true rfl⟩ rfl rfl (Nat.le_of_ble_eq_true rfl) dX2_reads_81 ?_
            refine j_if_ne C (tgt := 113) dX2_reads_84 (by decide) (fun c45 => ?_) (fun c45 => ?_)
            · have h := ite_t h c45
              refine j_aload_n C (q := 0) dX2_reads_87 rfl rfl ?_
              obtain ⟨x46, t47, e48, h⟩ := bd_some h
              refine j_callV_i C (i := 138) (As := []) (rest := []) (c_X2_hasWeekday l G B dy _ e48) (shp2 G B _ kA_138) (kd_lt kA_138 (by decide)) rfl tw_484 tw_486 tp_18 ti_2 tw_487 hd_X2_hasWeekday ⟨Nat.le_of_ble_eq_true rfl, Nat.le_of_ble_eq_true rfl⟩ ⟨Nat.le_of_ble_eq_true rfl, Nat.le_of_ble_eq_true rfl⟩ rfl rfl (Nat.le_of_ble_eq_true rfl) dX2_reads_88 ?_
              refine j_if_eq C (tgt := 105) dX2_reads_91 (by decide) (fun c49 => ?_) (fun c49 => ?_)
              · have h := ite_t h c49
                refine j_aload_n C (q := 0) dX2_reads_105 rfl rfl ?_
                refine j_iload_n C (q := 1) dX2_reads_106 rfl rfl ?_
                obtain ⟨x50, t51, e52, h⟩ := bd_some h
                refine j_callV_i C (i := 138) (As := [.int x1]) (rest := []) (c_X2_readsBehindRule l G B dy x1 _ e52) (shp2 G B _ kA_138) (kd_lt kA_138 (by decide)) rfl tw_492 tw_494 tp_20 ti_2 tw_495 hd_X2_readsBehindRule ⟨Nat.le_of_ble_eq_true rfl, Nat.le_of_ble_eq_true rfl⟩ ⟨Nat.le_of_ble_eq_true rfl, Nat.le_of_ble_eq_true rfl⟩ rfl rfl (Nat.le_of_ble_eq_true rfl) dX2_reads_107 ?_
                refine j_if_eq C (tgt := 117) dX2_reads_110 (by decide) (fun c53 => ?_) (fun c53 => ?_)
                · have h := ite_t h c53
                  refine j_iconst C (v := 0) dX2_reads_117 (by decide) ?_
                  exact j_zret C hr hlk (Or.inl rfl) h ⟨Nat.le_of_ble_eq_true rfl, Nat.le_of_ble_eq_true rfl⟩ dX2_reads_118
                · have h := ite_f h c53
                  refine j_iconst C (v := 1) dX2_reads_113 (by decide) ?_
                  refine j_goto C (tgt := 118) dX2_reads_114 (by decide) ?_
                  exact j_zret C hr hlk (Or.inr rfl) h ⟨Nat.le_of_ble_eq_true rfl, Nat.le_of_ble_eq_true rfl⟩ dX2_reads_118
              · have h := ite_f h c49
                refine j_aload_n C (q := 0) dX2_reads_94 rfl rfl ?_
                refine j_iload_n C (q := 1) dX2_reads_95 rfl rfl ?_
                obtain ⟨x54, t55, e56, h⟩ := bd_some h
                refine j_callV_i C (i := 138) (As := [.int x1]) (rest := []) (c_X2_readsComma l G B dy x1 _ e56) (shp2 G B _ kA_138) (kd_lt kA_138 (by decide)) rfl tw_488 tw_490 tp_19 ti_2 tw_491 hd_X2_readsComma ⟨Nat.le_of_ble_eq_true rfl, Nat.le_of_ble_eq_true rfl⟩ ⟨Nat.le_of_ble_eq_true rfl, Nat.le_of_ble_eq_true rfl⟩ rfl rfl (Nat.le_of_ble_eq_true rfl) dX2_reads_96 ?_
                refine j_if_eq C (tgt := 117) dX2_reads_99 (by decide) (fun c57 => ?_) (fun c57 => ?_)
                · have h := ite_t h c57
                  refine j_iconst C (v := 0) dX2_reads_117 (by decide) ?_
                  exact j_zret C hr hlk (Or.inl rfl) h ⟨Nat.le_of_ble_eq_true rfl, Nat.le_of_ble_eq_true rfl⟩ dX2_reads_118
                · have h := ite_f h c57
                  refine j_goto C (tgt := 113) dX2_reads_102 (by decide) ?_
                  refine j_iconst C (v := 1) dX2_reads_113 (by decide) ?_
                  refine j_goto C (tgt := 118) dX2_reads_114 (by decide) ?_
                  exact j_zret C hr hlk (Or.inr rfl) h ⟨Nat.le_of_ble_eq_true rfl, Nat.le_of_ble_eq_true rfl⟩ dX2_reads_118
            · have h := ite_f h c45
              refine j_iconst C (v := 1) dX2_reads_113 (by decide) ?_
              refine j_goto C (tgt := 118) dX2_reads_114 (by decide) ?_
              exact j_zret C hr hlk (Or.inr rfl) h ⟨Nat.le_of_ble_eq_true rfl, Nat.le_of_ble_eq_true rfl⟩ dX2_reads_118
          · have h := ite_f h c41
            by_cases c58 : (t0.1 138 5) = 5
            · have h := ite_t h c58
              refine j_tableIn C (tgt := 119) dX2_reads_4 (by rw [c58]; decide) (by rw [c58]; decide) (by rw [c58]; rfl) (by decide) ?_
              refine j_aload_n C (q := 0) dX2_reads_119 rfl rfl ?_
              refine j_iload_n C (q := 1) dX2_reads_120 rfl rfl ?_
              refine j_bipush C (v := 6) dX2_reads_121 (by decide) ?_
              refine j_bipush C (v := 6) dX2_reads_123 (by decide) ?_
              obtain ⟨x59, t60, e61, h⟩ := bd_some h
              refine j_callV_i C (i := 138) (As := [.int x1, .int 6, .int 6]) (rest := []) (c_X2_readsOther l G B dy x1 6 6 _ e61) (shp2 G B _ kA_138) (kd_lt kA_138 (by decide)) rfl tw_465 tw_467 tp_14 ti_2 tw_468 hd_X2_readsOther ⟨Nat.le_of_ble_eq_true rfl, Nat.le_of_ble_eq_true rfl⟩ ⟨Nat.le_of_ble_eq_true rfl, Nat.le_of_ble_eq_true rfl⟩ rfl rfl (Nat.le_of_ble_eq_true rfl) dX2_reads_125 ?_
              obtain ⟨g62, h⟩ := gd_some h
              exact j_zret C hr hlk (is01_or g62) h ⟨Nat.le_of_ble_eq_true rfl, Nat.le_of_ble_eq_true rfl⟩ dX2_reads_128
            · have h := ite_f h c58
              by_cases c63 : (t0.1 138 5) = 6
              · have h := ite_t h c63
                refine j_tableIn C (tgt := 129) dX2_reads_4 (by rw [c63]; decide) (by rw [c63]; decide) (by rw [c63]; rfl) (by decide) ?_
                refine j_aload_n C (q := 0) dX2_reads_129 rfl rfl ?_
                refine j_iload_n C (q := 1) dX2_reads_130 rfl rfl ?_
                obtain ⟨x64, t65, e66, h⟩ := bd_some h
                refine j_callV_i C (i := 138) (As := [.int x1]) (rest := []) (c_X2_readsBehindRule l G B dy x1 _ e66) (shp2 G B _ kA_138) (kd_lt kA_138 (by decide)) rfl tw_492 tw_494 tp_20 ti_2 tw_495 hd_X2_readsBehindRule ⟨Nat.le_of_ble_eq_true rfl, Nat.le_of_ble_eq_true rfl⟩ ⟨Nat.le_of_ble_eq_true rfl, Nat.le_of_ble_eq_true rfl⟩ rfl rfl (Nat.le_of_ble_eq_true rfl) dX2_reads_131 ?_
                obtain ⟨g67, h⟩ := gd_some h
                exact j_zret C hr hlk (is01_or g67) h ⟨Nat.le_of_ble_eq_true rfl, Nat.le_of_ble_eq_true rfl⟩ dX2_reads_134
              · have h := ite_f h c63
                by_cases c68 : (t0.1 138 5) = 7
                · have h := ite_t h c68
                  refine j_tableIn C (tgt := 135) dX2_reads_4 (by rw [c68]; decide) (by rw [c68]; decide) (by rw [c68]; rfl) (by decide) ?_
                  refine j_aload_n C (q := 0) dX2_reads_135 rfl rfl ?_
                  refine j_iload_n C (q := 1) dX2_reads_136 rfl rfl ?_
                  obtain ⟨x69, t70, e71, h⟩ := bd_some h
                  refine j_callV_i C (i := 138) (As := [.int x1]) (rest := []) (c_X2_readsRank l G B dy x1 _ e71) (shp2 G B _ kA_138) (kd_lt kA_138 (by decide)) rfl tw_501 tw_503 tp_22 ti_2 tw_504 hd_X2_readsRank ⟨Nat.le_of_ble_eq_true rfl, Nat.le_of_ble_eq_true rfl⟩ ⟨Nat.le_of_ble_eq_true rfl, Nat.le_of_ble_eq_true rfl⟩ rfl rfl (Nat.le_of_ble_eq_true rfl) dX2_reads_137 ?_
                  obtain ⟨g72, h⟩ := gd_some h
                  exact j_zret C hr hlk (is01_or g72) h ⟨Nat.le_of_ble_eq_true rfl, Nat.le_of_ble_eq_true rfl⟩ dX2_reads_140
                · have h := ite_f h c68
                  have nc21 := lv_neT c21 (show (0 : Int32).toInt = 0 by decide)
                  have nc26 := lv_neT c26 (show (1 : Int32).toInt = 1 by decide)
                  have nc31 := lv_neT c31 (show (2 : Int32).toInt = 2 by decide)
                  have nc36 := lv_neT c36 (show (3 : Int32).toInt = 3 by decide)
                  have nc41 := lv_neT c41 (show (4 : Int32).toInt = 4 by decide)
                  have nc58 := lv_neT c58 (show (5 : Int32).toInt = 5 by decide)
                  have nc63 := lv_neT c63 (show (6 : Int32).toInt = 6 by decide)
                  have nc68 := lv_neT c68 (show (7 : Int32).toInt = 7 by decide)
                  refine j_tableOut C (x := (t0.1 138 5)) (tgt := 141) dX2_reads_4 (by omega) (by decide) ?_
                  refine j_aload_n C (q := 0) dX2_reads_141 rfl rfl ?_
                  refine j_iload_n C (q := 1) dX2_reads_142 rfl rfl ?_
                  obtain ⟨x73, t74, e75, h⟩ := bd_some h
                  refine j_callV_i C (i := 138) (As := [.int x1]) (rest := []) (c_X2_readsSeparator l G B dy x1 _ e75) (shp2 G B _ kA_138) (kd_lt kA_138 (by decide)) rfl tw_496 tw_498 tp_21 ti_2 tw_499 hd_X2_readsSeparator ⟨Nat.le_of_ble_eq_true rfl, Nat.le_of_ble_eq_true rfl⟩ ⟨Nat.le_of_ble_eq_true rfl, Nat.le_of_ble_eq_true rfl⟩ rfl rfl (Nat.le_of_ble_eq_true rfl) dX2_reads_143 ?_
                  obtain ⟨g76, h⟩ := gd_some h
                  exact j_zret C hr hlk (is01_or g76) h ⟨Nat.le_of_ble_eq_true rfl, Nat.le_of_ble_eq_true rfl⟩ dX2_reads_146
set_option maxRecDepth 100000 in
set_option maxHeartbeats 4000000 in
theorem c_X3_movedCount (l : Launch) (G : GG) (B dy : Nat) (a0 : Nat) (k0 : kd a0 = 3) (x1 : Int32) (t0 : St) {r : Int32} {t9 : St} (h : f_X3_movedCount a0 x1 t0 = some (r, t9)) : Ct l G B dy yX3_movedCount cX3_movedCount 5 (some .int) 1 21 0 0 [.ref (B + a0), .int x1] t0 (PostI G B r t9) := by
  refine Ct_of (by decide +kernel) [(0, .ref (B + a0)), (1, .int x1)] (Nat.le_of_ble_eq_true rfl) rfl ?_
  intro p e s m args below meth c C hr hlk
  have J4 : ∀ (n4 : Nat) (y2 : Int32) (y3 : Int32) (t0 : St), f_X3_movedCount_l4 n4 a0 x1 y2 y3 t0 = some (r, t9) → WW G B p l e (RM 1 21 0 0) s m args below meth c 0 0 (MQ below (PostI G B r t9) args s 0 0 (Ab B)) 5 4 [(0, .ref (B + a0)), (1, .int x1), (2, .int y2), (3, .int y3)] [] t0 := by
    intro n4
    induction n4 with
    | zero => intro y2 y3 t0 h; exact (no_some h).elim
    | succ n4 ih4 =>
      try clear h
      intro y2 y3 t0 h
      have h : f_X3_movedCount_b4 (f_X3_movedCount_l4 n4) a0 x1 y2 y3 t0 = some (r, t9) := h
      refine j_iload_n C (q := 3) dX3_movedCount_4 rfl rfl ?_
      refine j_iload_n C (q := 1) dX3_movedCount_5 rfl rfl ?_
      refine j_icmp_ge C (tgt := 47) dX3_movedCount_6 (by decide) (fun c21 => ?_) (fun c21 => ?_)
      · have h := ite_t h c21
        refine j_iload_n C (q := 2) dX3_movedCount_47 rfl rfl ?_
        exact j_iret C hr hlk h ⟨Nat.le_of_ble_eq_true rfl, Nat.le_of_ble_eq_true rfl⟩ dX3_movedCount_48
      · have h := ite_f h c21
        refine j_aload_n C (q := 0) dX3_movedCount_9 rfl rfl ?_
        refine fg_X3_20 C (i := a0) k0 dX3_movedCount_10 ?_
        refine j_iload_n C (q := 3) dX3_movedCount_13 rfl rfl ?_
        obtain ⟨x22, t23, e24, h⟩ := bd_some h
        refine j_callV_i C (i := (a0 + 3)) (As := [.int y3]) (rest := []) (c_X4_at l G B dy (a0 + 3) (kR3_3 k0) y3 _ e24) (shp4 G B _ (kR3_3 k0)) (kd_lt (kR3_3 k0) (by decide)) rfl tw_359 tw_323 tw_324 ti_4 tw_325 hd_X4_at ⟨Nat.le_of_ble_eq_true rfl, Nat.le_of_ble_eq_true rfl⟩ ⟨Nat.le_of_ble_eq_true rfl, Nat.le_of_ble_eq_true rfl⟩ rfl rfl (Nat.le_of_ble_eq_true rfl) dX3_movedCount_14 ?_
        refine j_istore C [(0, .ref (B + a0)), (1, .int x1), (2, .int y2), (3, .int y3), (4, .int x22)] [1, 2, 3, 4, 0] dX3_movedCount_17 (by decide) rfl ?_
        refine j_iload C (q := 4) dX3_movedCount_19 rfl ?_
        refine j_iconst C (v := (-1)) dX3_movedCount_21 (by decide) ?_
        refine j_icmp_eq C (tgt := 41) dX3_movedCount_22 (by decide) (fun c25 => ?_) (fun c25 => ?_)
        · have h := ite_t h c25
          obtain ⟨x26, ex26⟩ : ∃ y : Int32, y = (y3 + 1) := ⟨_, rfl⟩
          have h := lt_at h ex26
          refine j_iinc C (q := 3) [(0, .ref (B + a0)), (1, .int x1), (2, .int y2), (3, .int x26), (4, .int x22)] [1, 2, 3, 0, 4] dX3_movedCount_41 rfl (by rw [ex26]; rfl) (by decide) rfl ?_
          refine j_goto C (tgt := 4) dX3_movedCount_44 (by decide) ?_
          refine j_sub [0, 1, 2, 3] rfl ?_
          exact ih4 y2 x26 _ h
        · have h := ite_f h c25
          refine j_iload C (q := 4) dX3_movedCount_25 rfl ?_
          refine j_aload_n C (q := 0) dX3_movedCount_27 rfl rfl ?_
          refine fg_X3_14 C (i := a0) k0 dX3_movedCount_28 ?_
          refine j_iload_n C (q := 3) dX3_movedCount_31 rfl rfl ?_
          obtain ⟨x27, t28, e29, h⟩ := bd_some h
          refine j_callV_i C (i := (a0 + 1)) (As := [.int y3]) (rest := [.int x22]) (c_X4_at l G B dy (a0 + 1) (kR3_1 k0) y3 _ e29) (shp4 G B _ (kR3_1 k0)) (kd_lt (kR3_1 k0) (by decide)) rfl tw_359 tw_323 tw_324 ti_4 tw_325 hd_X4_at ⟨Nat.le_of_ble_eq_true rfl, Nat.le_of_ble_eq_true rfl⟩ ⟨Nat.le_of_ble_eq_true rfl, Nat.le_of_ble_eq_true rfl⟩ rfl rfl (Nat.le_of_ble_eq_true rfl) dX3_movedCount_32 ?_
          refine j_icmp_eq C (tgt := 41) dX3_movedCount_35 (by decide) (fun c30 => ?_) (fun c30 => ?_)
          · have h := ite_t h c30
            obtain ⟨x31, ex31⟩ : ∃ y : Int32, y = (y3 + 1) := ⟨_, rfl⟩
            have h := lt_at h ex31
            refine j_iinc C (q := 3) [(0, .ref (B + a0)), (1, .int x1), (2, .int y2), (3, .int x31), (4, .int x22)] [1, 2, 3, 0, 4] dX3_movedCount_41 rfl (by rw [ex31]; rfl) (by decide) rfl ?_
            refine j_goto C (tgt := 4) dX3_movedCount_44 (by decide) ?_
            refine j_sub [0, 1, 2, 3] rfl ?_
            exact ih4 y2 x31 _ h
          · have h := ite_f h c30
            obtain ⟨x32, ex32⟩ : ∃ y : Int32, y = (y2 + 1) := ⟨_, rfl⟩
            have h := lt_at h ex32
            refine j_iinc C (q := 2) [(0, .ref (B + a0)), (1, .int x1), (2, .int x32), (3, .int y3), (4, .int x22)] [1, 2, 0, 3, 4] dX3_movedCount_38 rfl (by rw [ex32]; rfl) (by decide) rfl ?_
            obtain ⟨x33, ex33⟩ : ∃ y : Int32, y = (y3 + 1) := ⟨_, rfl⟩
            have h := lt_at h ex33
            refine j_iinc C (q := 3) [(0, .ref (B + a0)), (1, .int x1), (2, .int x32), (3, .int x33), (4, .int x22)] [1, 2, 3, 0, 4] dX3_movedCount_41 rfl (by rw [ex33]; rfl) (by decide) rfl ?_
            refine j_goto C (tgt := 4) dX3_movedCount_44 (by decide) ?_
            refine j_sub [0, 1, 2, 3] rfl ?_
            exact ih4 x32 x33 _ h
  refine j_iconst C (v := 0) dX3_movedCount_0 (by decide) ?_
  refine j_istore_n C [(0, .ref (B + a0)), (1, .int x1), (2, .int 0)] [1, 2, 0] dX3_movedCount_1 rfl (by decide) rfl ?_
  refine j_iconst C (v := 0) dX3_movedCount_2 (by decide) ?_
  refine j_istore_n C [(0, .ref (B + a0)), (1, .int x1), (2, .int 0), (3, .int 0)] [1, 2, 3, 0] dX3_movedCount_3 rfl (by decide) rfl ?_
  exact J4 FU 0 0 _ h
set_option maxRecDepth 100000 in
set_option maxHeartbeats 4000000 in
theorem c_X5_addFeast (l : Launch) (G : GG) (B dy : Nat) (a0 : Nat) (k0 : kd a0 = 5) (a1 : Nat) (k1 : kd a1 = 2) (t0 : St) {t9 : St} (h : f_X5_addFeast a0 a1 t0 = some t9) : Ct l G B dy yX5_addFeast cX5_addFeast 2 none 1 22 0 0 [.ref (B + a0), .ref (B + a1)] t0 (PostV G B t9) := by
  refine Ct_of (by decide +kernel) [(0, .ref (B + a0)), (1, .ref (B + a1))] (Nat.le_of_ble_eq_true rfl) rfl ?_
  intro p e s m args below meth c C hr hlk
  have J57 : ∀ (w0 : Int32) (w1 : Int32) (t0 : St), f_X5_addFeast_b57 a0 a1 w0 w1 t0 = some t9 → WW G B p l e (RM 1 22 0 0) s m args below meth c 0 0 (MQ below (PostV G B t9) args s 0 0 (Ab B)) 2 57 [(0, .ref (B + a0)), (1, .ref (B + a1))] [.int w0, .int w1, .ref (B + (a0 + 5))] t0 := by
    intro w0 w1 t0 h
    obtain ⟨t22, e23, h⟩ := bv_some h
    refine j_callV_v C (i := (a0 + 5)) (As := [.int w1, .int w0]) (rest := []) (c_X4_put l G B dy (a0 + 5) (kR5_5 k0) w1 w0 _ e23) (shp4 G B _ (kR5_5 k0)) (kd_lt (kR5_5 k0) (by decide)) rfl tw_539 tw_376 tw_377 ti_4 tw_378 hd_X4_put ⟨Nat.le_of_ble_eq_true rfl, Nat.le_of_ble_eq_true rfl⟩ ⟨Nat.le_of_ble_eq_true rfl, Nat.le_of_ble_eq_true rfl⟩ rfl rfl (Nat.le_of_ble_eq_true rfl) dX5_addFeast_57 ?_
    refine j_aload_n C (q := 0) dX5_addFeast_60 rfl rfl ?_
    refine fg_X5_30 C (i := a0) k0 dX5_addFeast_61 ?_
    refine j_aload_n C (q := 0) dX5_addFeast_64 rfl rfl ?_
    refine fg_X5_9 C (i := a0) k0 dX5_addFeast_65 ?_
    refine j_aload_n C (q := 1) dX5_addFeast_68 rfl rfl ?_
    refine fg_X5_77 C (i := a1) k1 dX5_addFeast_69 ?_
    obtain ⟨t25, e26, h⟩ := bv_some h
    refine j_callV_v C (i := (a0 + 7)) (As := [.int (t22.1 a0 0), .int (t22.1 a1 3)]) (rest := []) (c_X4_put l G B dy (a0 + 7) (kR5_7 k0) (t22.1 a0 0) (t22.1 a1 3) _ e26) (shp4 G B _ (kR5_7 k0)) (kd_lt (kR5_7 k0) (by decide)) rfl tw_539 tw_376 tw_377 ti_4 tw_378 hd_X4_put ⟨Nat.le_of_ble_eq_true rfl, Nat.le_of_ble_eq_true rfl⟩ ⟨Nat.le_of_ble_eq_true rfl, Nat.le_of_ble_eq_true rfl⟩ rfl rfl (Nat.le_of_ble_eq_true rfl) dX5_addFeast_72 ?_
    refine j_aload_n C (q := 0) dX5_addFeast_75 rfl rfl ?_
    refine j_dup C dX5_addFeast_76 rfl ?_
    refine fg_X5_9 C (i := a0) k0 dX5_addFeast_77 ?_
    refine j_iconst C (v := 1) dX5_addFeast_80 (by decide) ?_
    refine j_iadd C dX5_addFeast_81 ?_
    refine fp_X5_9 C (i := a0) k0 dX5_addFeast_82 ?_
    refine j_tops (fun t27 et27 => ?_)
    have h := lt_at h et27
    exact j_vret C hr hlk h ⟨Nat.le_of_ble_eq_true rfl, Nat.le_of_ble_eq_true rfl⟩ dX5_addFeast_85
  refine j_aload_n C (q := 0) dX5_addFeast_0 rfl rfl ?_
  refine fg_X5_20 C (i := a0) k0 dX5_addFeast_1 ?_
  refine j_aload_n C (q := 0) dX5_addFeast_4 rfl rfl ?_
  refine fg_X5_9 C (i := a0) k0 dX5_addFeast_5 ?_
  refine j_aload_n C (q := 1) dX5_addFeast_8 rfl rfl ?_
  refine fg_X5_58 C (i := a1) k1 dX5_addFeast_9 ?_
  obtain ⟨t29, e30, h⟩ := bv_some h
  refine j_callV_v C (i := (a0 + 1)) (As := [.int (t0.1 a0 0), .int (t0.1 a1 0)]) (rest := []) (c_X4_put l G B dy (a0 + 1) (kR5_1 k0) (t0.1 a0 0) (t0.1 a1 0) _ e30) (shp4 G B _ (kR5_1 k0)) (kd_lt (kR5_1 k0) (by decide)) rfl tw_539 tw_376 tw_377 ti_4 tw_378 hd_X4_put ⟨Nat.le_of_ble_eq_true rfl, Nat.le_of_ble_eq_true rfl⟩ ⟨Nat.le_of_ble_eq_true rfl, Nat.le_of_ble_eq_true rfl⟩ rfl rfl (Nat.le_of_ble_eq_true rfl) dX5_addFeast_12 ?_
  refine j_aload_n C (q := 0) dX5_addFeast_15 rfl rfl ?_
  refine fg_X5_24 C (i := a0) k0 dX5_addFeast_16 ?_
  refine j_aload_n C (q := 0) dX5_addFeast_19 rfl rfl ?_
  refine fg_X5_9 C (i := a0) k0 dX5_addFeast_20 ?_
  refine j_aload_n C (q := 1) dX5_addFeast_23 rfl rfl ?_
  refine fg_X5_67 C (i := a1) k1 dX5_addFeast_24 ?_
  obtain ⟨t32, e33, h⟩ := bv_some h
  refine j_callV_v C (i := (a0 + 3)) (As := [.int (t29.1 a0 0), .int (t29.1 a1 4)]) (rest := []) (c_X4_put l G B dy (a0 + 3) (kR5_3 k0) (t29.1 a0 0) (t29.1 a1 4) _ e33) (shp4 G B _ (kR5_3 k0)) (kd_lt (kR5_3 k0) (by decide)) rfl tw_539 tw_376 tw_377 ti_4 tw_378 hd_X4_put ⟨Nat.le_of_ble_eq_true rfl, Nat.le_of_ble_eq_true rfl⟩ ⟨Nat.le_of_ble_eq_true rfl, Nat.le_of_ble_eq_true rfl⟩ rfl rfl (Nat.le_of_ble_eq_true rfl) dX5_addFeast_27 ?_
  refine j_aload_n C (q := 0) dX5_addFeast_30 rfl rfl ?_
  refine fg_X5_27 C (i := a0) k0 dX5_addFeast_31 ?_
  refine j_aload_n C (q := 0) dX5_addFeast_34 rfl rfl ?_
  refine fg_X5_9 C (i := a0) k0 dX5_addFeast_35 ?_
  refine j_aload_n C (q := 1) dX5_addFeast_38 rfl rfl ?_
  refine fg_X5_70 C (i := a1) k1 dX5_addFeast_39 ?_
  refine j_if_eq C (tgt := 53) dX5_addFeast_42 (by decide) (fun c34 => ?_) (fun c34 => ?_)
  · have h := ite_t h c34
    refine j_aload_n C (q := 1) dX5_addFeast_53 rfl rfl ?_
    refine fg_X5_74 C (i := a1) k1 dX5_addFeast_54 ?_
    exact J57 (t32.1 a1 1) (t32.1 a0 0) _ h
  · have h := ite_f h c34
    refine j_aload_n C (q := 1) dX5_addFeast_45 rfl rfl ?_
    refine fg_X5_74 C (i := a1) k1 dX5_addFeast_46 ?_
    refine j_ineg C dX5_addFeast_49 ?_
    refine j_goto C (tgt := 57) dX5_addFeast_50 (by decide) ?_
    exact J57 (-(t32.1 a1 1)) (t32.1 a0 0) _ h
set_option maxRecDepth 100000 in
set_option maxHeartbeats 4000000 in
theorem c_X5_stickNotch (l : Launch) (G : GG) (B dy : Nat) (a0 : Nat) (k0 : kd a0 = 5) (x1 : Int32) (x2 : Int32) (t0 : St) {r : Int32} {t9 : St} (h : f_X5_stickNotch a0 x1 x2 t0 = some (r, t9)) : Ct l G B dy yX5_stickNotch cX5_stickNotch 3 (some .int) 1 21 0 0 [.ref (B + a0), .int x1, .int x2] t0 (PostI G B r t9) := by
  refine Ct_of (by decide +kernel) [(0, .ref (B + a0)), (1, .int x1), (2, .int x2)] (Nat.le_of_ble_eq_true rfl) rfl ?_
  intro p e s m args below meth c C hr hlk
  refine j_aload_n C (q := 0) dX5_stickNotch_0 rfl rfl ?_
  refine fg_X5_51 C (i := a0) k0 dX5_stickNotch_1 ?_
  refine j_iload_n C (q := 1) dX5_stickNotch_4 rfl rfl ?_
  refine j_bipush C (v := 10) dX5_stickNotch_5 (by decide) ?_
  refine j_imul C dX5_stickNotch_7 ?_
  refine j_iload_n C (q := 2) dX5_stickNotch_8 rfl rfl ?_
  refine j_iadd C dX5_stickNotch_9 ?_
  obtain ⟨x21, t22, e23, h⟩ := bd_some h
  refine j_callV_i C (i := (a0 + 17)) (As := [.int ((x1 * 10) + x2)]) (rest := []) (c_X4_at l G B dy (a0 + 17) (kR5_17 k0) ((x1 * 10) + x2) _ e23) (shp4 G B _ (kR5_17 k0)) (kd_lt (kR5_17 k0) (by decide)) rfl tw_334 tw_323 tw_324 ti_4 tw_325 hd_X4_at ⟨Nat.le_of_ble_eq_true rfl, Nat.le_of_ble_eq_true rfl⟩ ⟨Nat.le_of_ble_eq_true rfl, Nat.le_of_ble_eq_true rfl⟩ rfl rfl (Nat.le_of_ble_eq_true rfl) dX5_stickNotch_10 ?_
  exact j_iret C hr hlk h ⟨Nat.le_of_ble_eq_true rfl, Nat.le_of_ble_eq_true rfl⟩ dX5_stickNotch_13
set_option maxRecDepth 100000 in
set_option maxHeartbeats 4000000 in
theorem c_X5_copyStick (l : Launch) (G : GG) (B dy : Nat) (a0 : Nat) (k0 : kd a0 = 5) (x1 : Int32) (x2 : Int32) (t0 : St) {t9 : St} (h : f_X5_copyStick a0 x1 x2 t0 = some t9) : Ct l G B dy yX5_copyStick cX5_copyStick 4 none 2 43 0 0 [.ref (B + a0), .int x1, .int x2] t0 (PostV G B t9) := by
  refine Ct_of (by decide +kernel) [(0, .ref (B + a0)), (1, .int x1), (2, .int x2)] (Nat.le_of_ble_eq_true rfl) rfl ?_
  intro p e s m args below meth c C hr hlk
  have J50 : ∀ (n50 : Nat) (y3 : Int32) (t0 : St), f_X5_copyStick_l50 n50 a0 x1 x2 y3 t0 = some t9 → WW G B p l e (RM 2 43 0 0) s m args below meth c 0 0 (MQ below (PostV G B t9) args s 0 0 (Ab B)) 4 50 [(0, .ref (B + a0)), (1, .int x1), (2, .int x2), (3, .int y3)] [] t0 := by
    intro n50
    induction n50 with
    | zero => intro y3 t0 h; exact (no_some h).elim
    | succ n50 ih50 =>
      try clear h
      intro y3 t0 h
      have h : f_X5_copyStick_b50 (f_X5_copyStick_l50 n50) a0 x1 x2 y3 t0 = some t9 := h
      refine j_iload_n C (q := 3) dX5_copyStick_50 rfl rfl ?_
      refine j_bipush C (v := 10) dX5_copyStick_51 (by decide) ?_
      refine j_icmp_ge C (tgt := 81) dX5_copyStick_53 (by decide) (fun c21 => ?_) (fun c21 => ?_)
      · have h := ite_t h c21
        exact j_vret C hr hlk h ⟨Nat.le_of_ble_eq_true rfl, Nat.le_of_ble_eq_true rfl⟩ dX5_copyStick_81
      · have h := ite_f h c21
        refine j_aload_n C (q := 0) dX5_copyStick_56 rfl rfl ?_
        refine fg_X5_51 C (i := a0) k0 dX5_copyStick_57 ?_
        refine j_iload_n C (q := 2) dX5_copyStick_60 rfl rfl ?_
        refine j_bipush C (v := 10) dX5_copyStick_61 (by decide) ?_
        refine j_imul C dX5_copyStick_63 ?_
        refine j_iload_n C (q := 3) dX5_copyStick_64 rfl rfl ?_
        refine j_iadd C dX5_copyStick_65 ?_
        refine j_aload_n C (q := 0) dX5_copyStick_66 rfl rfl ?_
        refine j_iload_n C (q := 1) dX5_copyStick_67 rfl rfl ?_
        refine j_iload_n C (q := 3) dX5_copyStick_68 rfl rfl ?_
        obtain ⟨x22, t23, e24, h⟩ := bd_some h
        refine j_callV_i C (i := a0) (As := [.int x1, .int y3]) (rest := [.int ((x2 * 10) + y3), .ref (B + (a0 + 17))]) (c_X5_stickNotch l G B dy a0 k0 x1 y3 _ e24) (shp5 G B _ k0) (kd_lt k0 (by decide)) rfl tw_330 tw_331 tw_332 ti_5 tw_333 hd_X5_stickNotch ⟨Nat.le_of_ble_eq_true rfl, Nat.le_of_ble_eq_true rfl⟩ ⟨Nat.le_of_ble_eq_true rfl, Nat.le_of_ble_eq_true rfl⟩ rfl rfl (Nat.le_of_ble_eq_true rfl) dX5_copyStick_69 ?_
        obtain ⟨t26, e27, h⟩ := bv_some h
        refine j_callV_v C (i := (a0 + 17)) (As := [.int ((x2 * 10) + y3), .int x22]) (rest := []) (c_X4_put l G B dy (a0 + 17) (kR5_17 k0) ((x2 * 10) + y3) x22 _ e27) (shp4 G B _ (kR5_17 k0)) (kd_lt (kR5_17 k0) (by decide)) rfl tw_539 tw_376 tw_377 ti_4 tw_378 hd_X4_put ⟨Nat.le_of_ble_eq_true rfl, Nat.le_of_ble_eq_true rfl⟩ ⟨Nat.le_of_ble_eq_true rfl, Nat.le_of_ble_eq_true rfl⟩ rfl rfl (Nat.le_of_ble_eq_true rfl) dX5_copyStick_72 ?_
        obtain ⟨x28, ex28⟩ : ∃ y : Int32, y = (y3 + 1) := ⟨_, rfl⟩
        have h := lt_at h ex28
        refine j_iinc C (q := 3) [(0, .ref (B + a0)), (1, .int x1), (2, .int x2), (3, .int x28)] [1, 2, 3, 0] dX5_copyStick_75 rfl (by rw [ex28]; rfl) (by decide) rfl ?_
        refine j_goto C (tgt := 50) dX5_copyStick_78 (by decide) ?_
        exact ih50 x28 _ h
  refine j_aload_n C (q := 0) dX5_copyStick_0 rfl rfl ?_
  refine fg_X5_42 C (i := a0) k0 dX5_copyStick_1 ?_
  refine j_iload_n C (q := 2) dX5_copyStick_4 rfl rfl ?_
  refine j_aload_n C (q := 0) dX5_copyStick_5 rfl rfl ?_
  refine fg_X5_42 C (i := a0) k0 dX5_copyStick_6 ?_
  refine j_iload_n C (q := 1) dX5_copyStick_9 rfl rfl ?_
  obtain ⟨x29, t30, e31, h⟩ := bd_some h
  refine j_callV_i C (i := (a0 + 11)) (As := [.int x1]) (rest := [.int x2, .ref (B + (a0 + 11))]) (c_X4_at l G B dy (a0 + 11) (kR5_11 k0) x1 _ e31) (shp4 G B _ (kR5_11 k0)) (kd_lt (kR5_11 k0) (by decide)) rfl tw_334 tw_323 tw_324 ti_4 tw_325 hd_X4_at ⟨Nat.le_of_ble_eq_true rfl, Nat.le_of_ble_eq_true rfl⟩ ⟨Nat.le_of_ble_eq_true rfl, Nat.le_of_ble_eq_true rfl⟩ rfl rfl (Nat.le_of_ble_eq_true rfl) dX5_copyStick_10 ?_
  obtain ⟨t33, e34, h⟩ := bv_some h
  refine j_callV_v C (i := (a0 + 11)) (As := [.int x2, .int x29]) (rest := []) (c_X4_put l G B dy (a0 + 11) (kR5_11 k0) x2 x29 _ e34) (shp4 G B _ (kR5_11 k0)) (kd_lt (kR5_11 k0) (by decide)) rfl tw_539 tw_376 tw_377 ti_4 tw_378 hd_X4_put ⟨Nat.le_of_ble_eq_true rfl, Nat.le_of_ble_eq_true rfl⟩ ⟨Nat.le_of_ble_eq_true rfl, Nat.le_of_ble_eq_true rfl⟩ rfl rfl (Nat.le_of_ble_eq_true rfl) dX5_copyStick_13 ?_
  refine j_aload_n C (q := 0) dX5_copyStick_16 rfl rfl ?_
  refine fg_X5_45 C (i := a0) k0 dX5_copyStick_17 ?_
  refine j_iload_n C (q := 2) dX5_copyStick_20 rfl rfl ?_
  refine j_aload_n C (q := 0) dX5_copyStick_21 rfl rfl ?_
  refine fg_X5_45 C (i := a0) k0 dX5_copyStick_22 ?_
  refine j_iload_n C (q := 1) dX5_copyStick_25 rfl rfl ?_
  obtain ⟨x35, t36, e37, h⟩ := bd_some h
  refine j_callV_i C (i := (a0 + 13)) (As := [.int x1]) (rest := [.int x2, .ref (B + (a0 + 13))]) (c_X4_at l G B dy (a0 + 13) (kR5_13 k0) x1 _ e37) (shp4 G B _ (kR5_13 k0)) (kd_lt (kR5_13 k0) (by decide)) rfl tw_334 tw_323 tw_324 ti_4 tw_325 hd_X4_at ⟨Nat.le_of_ble_eq_true rfl, Nat.le_of_ble_eq_true rfl⟩ ⟨Nat.le_of_ble_eq_true rfl, Nat.le_of_ble_eq_true rfl⟩ rfl rfl (Nat.le_of_ble_eq_true rfl) dX5_copyStick_26 ?_
  obtain ⟨t39, e40, h⟩ := bv_some h
  refine j_callV_v C (i := (a0 + 13)) (As := [.int x2, .int x35]) (rest := []) (c_X4_put l G B dy (a0 + 13) (kR5_13 k0) x2 x35 _ e40) (shp4 G B _ (kR5_13 k0)) (kd_lt (kR5_13 k0) (by decide)) rfl tw_539 tw_376 tw_377 ti_4 tw_378 hd_X4_put ⟨Nat.le_of_ble_eq_true rfl, Nat.le_of_ble_eq_true rfl⟩ ⟨Nat.le_of_ble_eq_true rfl, Nat.le_of_ble_eq_true rfl⟩ rfl rfl (Nat.le_of_ble_eq_true rfl) dX5_copyStick_29 ?_
  refine j_aload_n C (q := 0) dX5_copyStick_32 rfl rfl ?_
  refine fg_X5_48 C (i := a0) k0 dX5_copyStick_33 ?_
  refine j_iload_n C (q := 2) dX5_copyStick_36 rfl rfl ?_
  refine j_aload_n C (q := 0) dX5_copyStick_37 rfl rfl ?_
  refine fg_X5_48 C (i := a0) k0 dX5_copyStick_38 ?_
  refine j_iload_n C (q := 1) dX5_copyStick_41 rfl rfl ?_
  obtain ⟨x41, t42, e43, h⟩ := bd_some h
  refine j_callV_i C (i := (a0 + 15)) (As := [.int x1]) (rest := [.int x2, .ref (B + (a0 + 15))]) (c_X4_at l G B dy (a0 + 15) (kR5_15 k0) x1 _ e43) (shp4 G B _ (kR5_15 k0)) (kd_lt (kR5_15 k0) (by decide)) rfl tw_334 tw_323 tw_324 ti_4 tw_325 hd_X4_at ⟨Nat.le_of_ble_eq_true rfl, Nat.le_of_ble_eq_true rfl⟩ ⟨Nat.le_of_ble_eq_true rfl, Nat.le_of_ble_eq_true rfl⟩ rfl rfl (Nat.le_of_ble_eq_true rfl) dX5_copyStick_42 ?_
  obtain ⟨t45, e46, h⟩ := bv_some h
  refine j_callV_v C (i := (a0 + 15)) (As := [.int x2, .int x41]) (rest := []) (c_X4_put l G B dy (a0 + 15) (kR5_15 k0) x2 x41 _ e46) (shp4 G B _ (kR5_15 k0)) (kd_lt (kR5_15 k0) (by decide)) rfl tw_539 tw_376 tw_377 ti_4 tw_378 hd_X4_put ⟨Nat.le_of_ble_eq_true rfl, Nat.le_of_ble_eq_true rfl⟩ ⟨Nat.le_of_ble_eq_true rfl, Nat.le_of_ble_eq_true rfl⟩ rfl rfl (Nat.le_of_ble_eq_true rfl) dX5_copyStick_45 ?_
  refine j_iconst C (v := 0) dX5_copyStick_48 (by decide) ?_
  refine j_istore_n C [(0, .ref (B + a0)), (1, .int x1), (2, .int x2), (3, .int 0)] [1, 2, 3, 0] dX5_copyStick_49 rfl (by decide) rfl ?_
  exact J50 FU 0 _ h
set_option maxRecDepth 100000 in
set_option maxHeartbeats 4000000 in
theorem c_X5_addStick (l : Launch) (G : GG) (B dy : Nat) (a0 : Nat) (k0 : kd a0 = 5) (x1 : Int32) (x2 : Int32) (a3 : Nat) (k3 : kd a3 = 4) (t0 : St) {t9 : St} (h : f_X5_addStick a0 x1 x2 a3 t0 = some t9) : Ct l G B dy yX5_addStick cX5_addStick 5 none 3 66 0 0 [.ref (B + a0), .int x1, .int x2, .ref (B + a3)] t0 (PostV G B t9) := by
  refine Ct_of (by decide +kernel) [(0, .ref (B + a0)), (1, .int x1), (2, .int x2), (3, .ref (B + a3))] (Nat.le_of_ble_eq_true rfl) rfl ?_
  intro p e s m args below meth c C hr hlk
  have J80 : ∀ (n80 : Nat) (y4 : Int32) (t0 : St), f_X5_addStick_l80 n80 a0 a3 y4 t0 = some t9 → WW G B p l e (RM 3 66 0 0) s m args below meth c 0 0 (MQ below (PostV G B t9) args s 0 0 (Ab B)) 5 80 [(0, .ref (B + a0)), (3, .ref (B + a3)), (4, .int y4)] [] t0 := by
    intro n80
    induction n80 with
    | zero => intro y4 t0 h; exact (no_some h).elim
    | succ n80 ih80 =>
      try clear h
      intro y4 t0 h
      have h : f_X5_addStick_b80 (f_X5_addStick_l80 n80) a0 a3 y4 t0 = some t9 := h
      refine j_iload C (q := 2) dX5_addStick_80 rfl ?_
      refine j_bipush C (v := 10) dX5_addStick_82 (by decide) ?_
      refine j_icmp_ge C (tgt := 108) dX5_addStick_84 (by decide) (fun c21 => ?_) (fun c21 => ?_)
      · have h := ite_t h c21
        exact j_vret C hr hlk h ⟨Nat.le_of_ble_eq_true rfl, Nat.le_of_ble_eq_true rfl⟩ dX5_addStick_108
      · have h := ite_f h c21
        refine j_aload_n C (q := 0) dX5_addStick_87 rfl rfl ?_
        refine fg_X5_51 C (i := a0) k0 dX5_addStick_88 ?_
        refine j_iload C (q := 2) dX5_addStick_91 rfl ?_
        refine j_aload_n C (q := 1) dX5_addStick_93 rfl rfl ?_
        refine j_iload C (q := 2) dX5_addStick_94 rfl ?_
        obtain ⟨x22, t23, e24, h⟩ := bd_some h
        refine j_callV_i C (i := a3) (As := [.int y4]) (rest := [.int y4, .ref (B + (a0 + 17))]) (c_X4_at l G B dy a3 k3 y4 _ e24) (shp4 G B _ k3) (kd_lt k3 (by decide)) rfl tw_334 tw_323 tw_324 ti_4 tw_325 hd_X4_at ⟨Nat.le_of_ble_eq_true rfl, Nat.le_of_ble_eq_true rfl⟩ ⟨Nat.le_of_ble_eq_true rfl, Nat.le_of_ble_eq_true rfl⟩ rfl rfl (Nat.le_of_ble_eq_true rfl) dX5_addStick_96 ?_
        obtain ⟨t26, e27, h⟩ := bv_some h
        refine j_callV_v C (i := (a0 + 17)) (As := [.int y4, .int x22]) (rest := []) (c_X4_put l G B dy (a0 + 17) (kR5_17 k0) y4 x22 _ e27) (shp4 G B _ (kR5_17 k0)) (kd_lt (kR5_17 k0) (by decide)) rfl tw_539 tw_376 tw_377 ti_4 tw_378 hd_X4_put ⟨Nat.le_of_ble_eq_true rfl, Nat.le_of_ble_eq_true rfl⟩ ⟨Nat.le_of_ble_eq_true rfl, Nat.le_of_ble_eq_true rfl⟩ rfl rfl (Nat.le_of_ble_eq_true rfl) dX5_addStick_99 ?_
        obtain ⟨x28, ex28⟩ : ∃ y : Int32, y = (y4 + 1) := ⟨_, rfl⟩
        have h := lt_at h ex28
        refine j_iinc C (q := 2) [(0, .ref (B + a0)), (3, .ref (B + a3)), (4, .int x28)] [1, 2, 0] dX5_addStick_102 rfl (by rw [ex28]; rfl) (by decide) rfl ?_
        refine j_goto C (tgt := 80) dX5_addStick_105 (by decide) ?_
        exact ih80 x28 _ h
  have J26 : ∀ (n26 : Nat) (y4 : Int32) (t0 : St), f_X5_addStick_l26 n26 a0 x1 x2 a3 y4 t0 = some t9 → WW G B p l e (RM 3 66 0 0) s m args below meth c 0 0 (MQ below (PostV G B t9) args s 0 0 (Ab B)) 5 26 [(0, .ref (B + a0)), (1, .int x1), (2, .int x2), (3, .ref (B + a3)), (4, .int y4)] [] t0 := by
    intro n26
    induction n26 with
    | zero => intro y4 t0 h; exact (no_some h).elim
    | succ n26 ih26 =>
      try clear h
      intro y4 t0 h
      have h : f_X5_addStick_b26 (f_X5_addStick_l26 n26) a0 x1 x2 a3 y4 t0 = some t9 := h
      refine j_iload C (q := 4) dX5_addStick_26 rfl ?_
      refine j_if_le C (tgt := 47) dX5_addStick_28 (by decide) (fun c29 => ?_) (fun c29 => ?_)
      · have h := ite_t h c29
        refine j_aload_n C (q := 0) dX5_addStick_47 rfl rfl ?_
        refine fg_X5_42 C (i := a0) k0 dX5_addStick_48 ?_
        refine j_iconst C (v := 0) dX5_addStick_51 (by decide) ?_
        refine j_iload_n C (q := 1) dX5_addStick_52 rfl rfl ?_
        obtain ⟨t31, e32, h⟩ := bv_some h
        refine j_callV_v C (i := (a0 + 11)) (As := [.int 0, .int x1]) (rest := []) (c_X4_put l G B dy (a0 + 11) (kR5_11 k0) 0 x1 _ e32) (shp4 G B _ (kR5_11 k0)) (kd_lt (kR5_11 k0) (by decide)) rfl tw_539 tw_376 tw_377 ti_4 tw_378 hd_X4_put ⟨Nat.le_of_ble_eq_true rfl, Nat.le_of_ble_eq_true rfl⟩ ⟨Nat.le_of_ble_eq_true rfl, Nat.le_of_ble_eq_true rfl⟩ rfl rfl (Nat.le_of_ble_eq_true rfl) dX5_addStick_53 ?_
        refine j_aload_n C (q := 0) dX5_addStick_56 rfl rfl ?_
        refine fg_X5_45 C (i := a0) k0 dX5_addStick_57 ?_
        refine j_iconst C (v := 0) dX5_addStick_60 (by decide) ?_
        refine j_iload_n C (q := 2) dX5_addStick_61 rfl rfl ?_
        obtain ⟨t34, e35, h⟩ := bv_some h
        refine j_callV_v C (i := (a0 + 13)) (As := [.int 0, .int x2]) (rest := []) (c_X4_put l G B dy (a0 + 13) (kR5_13 k0) 0 x2 _ e35) (shp4 G B _ (kR5_13 k0)) (kd_lt (kR5_13 k0) (by decide)) rfl tw_539 tw_376 tw_377 ti_4 tw_378 hd_X4_put ⟨Nat.le_of_ble_eq_true rfl, Nat.le_of_ble_eq_true rfl⟩ ⟨Nat.le_of_ble_eq_true rfl, Nat.le_of_ble_eq_true rfl⟩ rfl rfl (Nat.le_of_ble_eq_true rfl) dX5_addStick_62 ?_
        refine j_aload_n C (q := 0) dX5_addStick_65 rfl rfl ?_
        refine fg_X5_48 C (i := a0) k0 dX5_addStick_66 ?_
        refine j_iconst C (v := 0) dX5_addStick_69 (by decide) ?_
        refine j_aload_n C (q := 0) dX5_addStick_70 rfl rfl ?_
        refine fg_X5_9 C (i := a0) k0 dX5_addStick_71 ?_
        obtain ⟨t37, e38, h⟩ := bv_some h
        refine j_callV_v C (i := (a0 + 15)) (As := [.int 0, .int (t34.1 a0 0)]) (rest := []) (c_X4_put l G B dy (a0 + 15) (kR5_15 k0) 0 (t34.1 a0 0) _ e38) (shp4 G B _ (kR5_15 k0)) (kd_lt (kR5_15 k0) (by decide)) rfl tw_539 tw_376 tw_377 ti_4 tw_378 hd_X4_put ⟨Nat.le_of_ble_eq_true rfl, Nat.le_of_ble_eq_true rfl⟩ ⟨Nat.le_of_ble_eq_true rfl, Nat.le_of_ble_eq_true rfl⟩ rfl rfl (Nat.le_of_ble_eq_true rfl) dX5_addStick_74 ?_
        refine j_iconst C (v := 0) dX5_addStick_77 (by decide) ?_
        refine j_istore C [(0, .ref (B + a0)), (1, .int x1), (2, .int x2), (3, .ref (B + a3)), (4, .int 0)] [1, 2, 3, 4, 0] dX5_addStick_78 (by decide) rfl ?_
        refine j_sub [0, 3, 4] rfl ?_
        exact J80 FU 0 _ h
      · have h := ite_f h c29
        refine j_aload_n C (q := 0) dX5_addStick_31 rfl rfl ?_
        refine j_iload C (q := 4) dX5_addStick_32 rfl ?_
        refine j_iconst C (v := 1) dX5_addStick_34 (by decide) ?_
        refine j_isub C dX5_addStick_35 ?_
        refine j_iload C (q := 4) dX5_addStick_36 rfl ?_
        obtain ⟨t40, e41, h⟩ := bv_some h
        refine j_callV_v C (i := a0) (As := [.int (y4 - 1), .int y4]) (rest := []) (c_X5_copyStick l G B dy a0 k0 (y4 - 1) y4 _ e41) (shp5 G B _ k0) (kd_lt k0 (by decide)) rfl tw_572 tw_574 tp_27 ti_5 tw_575 hd_X5_copyStick ⟨Nat.le_of_ble_eq_true rfl, Nat.le_of_ble_eq_true rfl⟩ ⟨Nat.le_of_ble_eq_true rfl, Nat.le_of_ble_eq_true rfl⟩ rfl rfl (Nat.le_of_ble_eq_true rfl) dX5_addStick_38 ?_
        obtain ⟨x42, ex42⟩ : ∃ y : Int32, y = (y4 + (-1)) := ⟨_, rfl⟩
        have h := lt_at h ex42
        refine j_iinc C (q := 4) [(0, .ref (B + a0)), (1, .int x1), (2, .int x2), (3, .ref (B + a3)), (4, .int x42)] [1, 2, 3, 4, 0] dX5_addStick_41 rfl (by rw [ex42]; rfl) (by decide) rfl ?_
        refine j_goto C (tgt := 26) dX5_addStick_44 (by decide) ?_
        exact ih26 x42 _ h
  refine j_aload_n C (q := 0) dX5_addStick_0 rfl rfl ?_
  refine fg_X5_39 C (i := a0) k0 dX5_addStick_1 ?_
  refine j_iconst C (v := 5) dX5_addStick_4 (by decide) ?_
  refine j_icmp_ge C (tgt := 18) dX5_addStick_5 (by decide) (fun c43 => ?_) (fun c43 => ?_)
  · have h := ite_t h c43
    refine j_aload_n C (q := 0) dX5_addStick_18 rfl rfl ?_
    refine fg_X5_39 C (i := a0) k0 dX5_addStick_19 ?_
    refine j_iconst C (v := 1) dX5_addStick_22 (by decide) ?_
    refine j_isub C dX5_addStick_23 ?_
    refine j_topi (fun x44 ex44 => ?_)
    have h := lt_at h ex44
    refine j_istore C [(0, .ref (B + a0)), (1, .int x1), (2, .int x2), (3, .ref (B + a3)), (4, .int x44)] [1, 2, 3, 4, 0] dX5_addStick_24 (by decide) rfl ?_
    exact J26 FU x44 _ h
  · have h := ite_f h c43
    refine j_aload_n C (q := 0) dX5_addStick_8 rfl rfl ?_
    refine j_dup C dX5_addStick_9 rfl ?_
    refine fg_X5_39 C (i := a0) k0 dX5_addStick_10 ?_
    refine j_iconst C (v := 1) dX5_addStick_13 (by decide) ?_
    refine j_iadd C dX5_addStick_14 ?_
    refine fp_X5_39 C (i := a0) k0 dX5_addStick_15 ?_
    refine j_tops (fun t45 et45 => ?_)
    have h := lt_at h et45
    refine j_aload_n C (q := 0) dX5_addStick_18 rfl rfl ?_
    refine fg_X5_39 C (i := a0) k0 dX5_addStick_19 ?_
    refine j_iconst C (v := 1) dX5_addStick_22 (by decide) ?_
    refine j_isub C dX5_addStick_23 ?_
    refine j_topi (fun x46 ex46 => ?_)
    have h := lt_at h ex46
    refine j_istore C [(0, .ref (B + a0)), (1, .int x1), (2, .int x2), (3, .ref (B + a3)), (4, .int x46)] [1, 2, 3, 4, 0] dX5_addStick_24 (by decide) rfl ?_
    exact J26 FU x46 _ h
set_option maxRecDepth 100000 in
set_option maxHeartbeats 4000000 in
theorem c_X5_dropStick (l : Launch) (G : GG) (B dy : Nat) (a0 : Nat) (k0 : kd a0 = 5) (x1 : Int32) (t0 : St) {t9 : St} (h : f_X5_dropStick a0 x1 t0 = some t9) : Ct l G B dy yX5_dropStick cX5_dropStick 3 none 3 66 0 0 [.ref (B + a0), .int x1] t0 (PostV G B t9) := by
  refine Ct_of (by decide +kernel) [(0, .ref (B + a0)), (1, .int x1)] (Nat.le_of_ble_eq_true rfl) rfl ?_
  intro p e s m args below meth c C hr hlk
  have J2 : ∀ (n2 : Nat) (y2 : Int32) (t0 : St), f_X5_dropStick_l2 n2 a0 y2 t0 = some t9 → WW G B p l e (RM 3 66 0 0) s m args below meth c 0 0 (MQ below (PostV G B t9) args s 0 0 (Ab B)) 3 2 [(0, .ref (B + a0)), (2, .int y2)] [] t0 := by
    intro n2
    induction n2 with
    | zero => intro y2 t0 h; exact (no_some h).elim
    | succ n2 ih2 =>
      try clear h
      intro y2 t0 h
      have h : f_X5_dropStick_b2 (f_X5_dropStick_l2 n2) a0 y2 t0 = some t9 := h
      refine j_iload_n C (q := 1) dX5_dropStick_2 rfl rfl ?_
      refine j_aload_n C (q := 0) dX5_dropStick_3 rfl rfl ?_
      refine fg_X5_39 C (i := a0) k0 dX5_dropStick_4 ?_
      refine j_iconst C (v := 1) dX5_dropStick_7 (by decide) ?_
      refine j_isub C dX5_dropStick_8 ?_
      refine j_icmp_ge C (tgt := 26) dX5_dropStick_9 (by decide) (fun c21 => ?_) (fun c21 => ?_)
      · have h := ite_t h c21
        refine j_aload_n C (q := 0) dX5_dropStick_26 rfl rfl ?_
        refine j_dup C dX5_dropStick_27 rfl ?_
        refine fg_X5_39 C (i := a0) k0 dX5_dropStick_28 ?_
        refine j_iconst C (v := 1) dX5_dropStick_31 (by decide) ?_
        refine j_isub C dX5_dropStick_32 ?_
        refine fp_X5_39 C (i := a0) k0 dX5_dropStick_33 ?_
        refine j_tops (fun t22 et22 => ?_)
        have h := lt_at h et22
        exact j_vret C hr hlk h ⟨Nat.le_of_ble_eq_true rfl, Nat.le_of_ble_eq_true rfl⟩ dX5_dropStick_36
      · have h := ite_f h c21
        refine j_aload_n C (q := 0) dX5_dropStick_12 rfl rfl ?_
        refine j_iload_n C (q := 1) dX5_dropStick_13 rfl rfl ?_
        refine j_iconst C (v := 1) dX5_dropStick_14 (by decide) ?_
        refine j_iadd C dX5_dropStick_15 ?_
        refine j_iload_n C (q := 1) dX5_dropStick_16 rfl rfl ?_
        obtain ⟨t24, e25, h⟩ := bv_some h
        refine j_callV_v C (i := a0) (As := [.int (y2 + 1), .int y2]) (rest := []) (c_X5_copyStick l G B dy a0 k0 (y2 + 1) y2 _ e25) (shp5 G B _ k0) (kd_lt k0 (by decide)) rfl tw_572 tw_574 tp_27 ti_5 tw_575 hd_X5_copyStick ⟨Nat.le_of_ble_eq_true rfl, Nat.le_of_ble_eq_true rfl⟩ ⟨Nat.le_of_ble_eq_true rfl, Nat.le_of_ble_eq_true rfl⟩ rfl rfl (Nat.le_of_ble_eq_true rfl) dX5_dropStick_17 ?_
        obtain ⟨x26, ex26⟩ : ∃ y : Int32, y = (y2 + 1) := ⟨_, rfl⟩
        have h := lt_at h ex26
        refine j_iinc C (q := 1) [(0, .ref (B + a0)), (2, .int x26)] [1, 0] dX5_dropStick_20 rfl (by rw [ex26]; rfl) (by decide) rfl ?_
        refine j_goto C (tgt := 2) dX5_dropStick_23 (by decide) ?_
        exact ih2 x26 _ h
  refine j_iload_n C (q := 1) dX5_dropStick_0 rfl rfl ?_
  refine j_istore_n C [(0, .ref (B + a0)), (1, .int x1), (2, .int x1)] [1, 2, 0] dX5_dropStick_1 rfl (by decide) rfl ?_
  refine j_sub [0, 2] rfl ?_
  exact J2 FU x1 _ h
set_option maxRecDepth 100000 in
set_option maxHeartbeats 4000000 in
theorem c_X5_notchesOfStick (l : Launch) (G : GG) (B dy : Nat) (a0 : Nat) (k0 : kd a0 = 5) (x1 : Int32) (t0 : St) {r : Int32} {t9 : St} (h : f_X5_notchesOfStick a0 x1 t0 = some (r, t9)) : Ct l G B dy yX5_notchesOfStick cX5_notchesOfStick 4 (some .int) 2 43 0 0 [.ref (B + a0), .int x1] t0 (PostI G B r t9) := by
  refine Ct_of (by decide +kernel) [(0, .ref (B + a0)), (1, .int x1)] (Nat.le_of_ble_eq_true rfl) rfl ?_
  intro p e s m args below meth c C hr hlk
  have J4 : ∀ (n4 : Nat) (y2 : Int32) (y3 : Int32) (t0 : St), f_X5_notchesOfStick_l4 n4 a0 x1 y2 y3 t0 = some (r, t9) → WW G B p l e (RM 2 43 0 0) s m args below meth c 0 0 (MQ below (PostI G B r t9) args s 0 0 (Ab B)) 4 4 [(0, .ref (B + a0)), (1, .int x1), (2, .int y2), (3, .int y3)] [] t0 := by
    intro n4
    induction n4 with
    | zero => intro y2 y3 t0 h; exact (no_some h).elim
    | succ n4 ih4 =>
      try clear h
      intro y2 y3 t0 h
      have h : f_X5_notchesOfStick_b4 (f_X5_notchesOfStick_l4 n4) a0 x1 y2 y3 t0 = some (r, t9) := h
      refine j_iload_n C (q := 3) dX5_notchesOfStick_4 rfl rfl ?_
      refine j_bipush C (v := 10) dX5_notchesOfStick_5 (by decide) ?_
      refine j_icmp_ge C (tgt := 29) dX5_notchesOfStick_7 (by decide) (fun c21 => ?_) (fun c21 => ?_)
      · have h := ite_t h c21
        refine j_iload_n C (q := 2) dX5_notchesOfStick_29 rfl rfl ?_
        exact j_iret C hr hlk h ⟨Nat.le_of_ble_eq_true rfl, Nat.le_of_ble_eq_true rfl⟩ dX5_notchesOfStick_30
      · have h := ite_f h c21
        refine j_aload_n C (q := 0) dX5_notchesOfStick_10 rfl rfl ?_
        refine j_iload_n C (q := 1) dX5_notchesOfStick_11 rfl rfl ?_
        refine j_iload_n C (q := 3) dX5_notchesOfStick_12 rfl rfl ?_
        obtain ⟨x22, t23, e24, h⟩ := bd_some h
        refine j_callV_i C (i := a0) (As := [.int x1, .int y3]) (rest := []) (c_X5_stickNotch l G B dy a0 k0 x1 y3 _ e24) (shp5 G B _ k0) (kd_lt k0 (by decide)) rfl tw_330 tw_331 tw_332 ti_5 tw_333 hd_X5_stickNotch ⟨Nat.le_of_ble_eq_true rfl, Nat.le_of_ble_eq_true rfl⟩ ⟨Nat.le_of_ble_eq_true rfl, Nat.le_of_ble_eq_true rfl⟩ rfl rfl (Nat.le_of_ble_eq_true rfl) dX5_notchesOfStick_13 ?_
        refine j_iconst C (v := (-1)) dX5_notchesOfStick_16 (by decide) ?_
        refine j_icmp_eq C (tgt := 23) dX5_notchesOfStick_17 (by decide) (fun c25 => ?_) (fun c25 => ?_)
        · have h := ite_t h c25
          obtain ⟨x26, ex26⟩ : ∃ y : Int32, y = (y3 + 1) := ⟨_, rfl⟩
          have h := lt_at h ex26
          refine j_iinc C (q := 3) [(0, .ref (B + a0)), (1, .int x1), (2, .int y2), (3, .int x26)] [1, 2, 3, 0] dX5_notchesOfStick_23 rfl (by rw [ex26]; rfl) (by decide) rfl ?_
          refine j_goto C (tgt := 4) dX5_notchesOfStick_26 (by decide) ?_
          exact ih4 y2 x26 _ h
        · have h := ite_f h c25
          obtain ⟨x27, ex27⟩ : ∃ y : Int32, y = (y2 + 1) := ⟨_, rfl⟩
          have h := lt_at h ex27
          refine j_iinc C (q := 2) [(0, .ref (B + a0)), (1, .int x1), (2, .int x27), (3, .int y3)] [1, 2, 0, 3] dX5_notchesOfStick_20 rfl (by rw [ex27]; rfl) (by decide) rfl ?_
          obtain ⟨x28, ex28⟩ : ∃ y : Int32, y = (y3 + 1) := ⟨_, rfl⟩
          have h := lt_at h ex28
          refine j_iinc C (q := 3) [(0, .ref (B + a0)), (1, .int x1), (2, .int x27), (3, .int x28)] [1, 2, 3, 0] dX5_notchesOfStick_23 rfl (by rw [ex28]; rfl) (by decide) rfl ?_
          refine j_goto C (tgt := 4) dX5_notchesOfStick_26 (by decide) ?_
          exact ih4 x27 x28 _ h
  refine j_iconst C (v := 0) dX5_notchesOfStick_0 (by decide) ?_
  refine j_istore_n C [(0, .ref (B + a0)), (1, .int x1), (2, .int 0)] [1, 2, 0] dX5_notchesOfStick_1 rfl (by decide) rfl ?_
  refine j_iconst C (v := 0) dX5_notchesOfStick_2 (by decide) ?_
  refine j_istore_n C [(0, .ref (B + a0)), (1, .int x1), (2, .int 0), (3, .int 0)] [1, 2, 3, 0] dX5_notchesOfStick_3 rfl (by decide) rfl ?_
  exact J4 FU 0 0 _ h
set_option maxRecDepth 100000 in
set_option maxHeartbeats 4000000 in
theorem c_X6_signsReadWell (l : Launch) (G : GG) (B dy : Nat) (t0 : St) {r : Int32} {t9 : St} (h : f_X6_signsReadWell t0 = some (r, t9)) : Ct l G B dy yX6_signsReadWell cX6_signsReadWell 2 (some .int) 4 83 0 0 [.ref (B + 0)] t0 (PostI G B r t9) := by
  refine Ct_of (by decide +kernel) [(0, .ref (B + 0))] (Nat.le_of_ble_eq_true rfl) rfl ?_
  intro p e s m args below meth c C hr hlk
  have J9 : ∀ (n9 : Nat) (y1 : Int32) (t0 : St), f_X6_signsReadWell_l9 n9 y1 t0 = some (r, t9) → WW G B p l e (RM 4 83 0 0) s m args below meth c 0 0 (MQ below (PostI G B r t9) args s 0 0 (Ab B)) 2 9 [(0, .ref (B + 0)), (1, .int y1)] [] t0 := by
    intro n9
    induction n9 with
    | zero => intro y1 t0 h; exact (no_some h).elim
    | succ n9 ih9 =>
      try clear h
      intro y1 t0 h
      have h : f_X6_signsReadWell_b9 (f_X6_signsReadWell_l9 n9) y1 t0 = some (r, t9) := h
      refine j_iload_n C (q := 1) dX6_signsReadWell_9 rfl rfl ?_
      refine j_aload_n C (q := 0) dX6_signsReadWell_10 rfl rfl ?_
      refine fg_X6_64 C (i := 0) kA_0 dX6_signsReadWell_11 ?_
      refine j_icmp_ge C (tgt := 43) dX6_signsReadWell_14 (by decide) (fun c21 => ?_) (fun c21 => ?_)
      · have h := ite_t h c21
        refine j_aload_n C (q := 0) dX6_signsReadWell_43 rfl rfl ?_
        refine fg_X6_64 C (i := 0) kA_0 dX6_signsReadWell_44 ?_
        exact j_iret C hr hlk h ⟨Nat.le_of_ble_eq_true rfl, Nat.le_of_ble_eq_true rfl⟩ dX6_signsReadWell_47
      · have h := ite_f h c21
        refine j_aload_n C (q := 0) dX6_signsReadWell_17 rfl rfl ?_
        refine fg_X6_35 C (i := 0) kA_0 dX6_signsReadWell_18 ?_
        refine j_aload_n C (q := 0) dX6_signsReadWell_21 rfl rfl ?_
        refine fg_X6_28 C (i := 0) kA_0 dX6_signsReadWell_22 ?_
        refine j_iload_n C (q := 1) dX6_signsReadWell_25 rfl rfl ?_
        obtain ⟨x22, t23, e24, h⟩ := bd_some h
        refine j_callV_i C (i := 136) (As := [.int y1]) (rest := [.ref (B + 138)]) (c_X4_at l G B dy 136 kA_136 y1 _ e24) (shp4 G B _ kA_136) (kd_lt kA_136 (by decide)) rfl tw_322 tw_323 tw_324 ti_4 tw_325 hd_X4_at ⟨Nat.le_of_ble_eq_true rfl, Nat.le_of_ble_eq_true rfl⟩ ⟨Nat.le_of_ble_eq_true rfl, Nat.le_of_ble_eq_true rfl⟩ rfl rfl (Nat.le_of_ble_eq_true rfl) dX6_signsReadWell_26 ?_
        obtain ⟨x25, t26, e27, h⟩ := bd_some h
        refine j_callV_i C (i := 138) (As := [.int x22]) (rest := []) (c_X2_reads l G B dy x22 _ e27) (shp2 G B _ kA_138) (kd_lt kA_138 (by decide)) rfl tw_457 tw_458 tw_459 ti_2 tw_460 hd_X2_reads ⟨Nat.le_of_ble_eq_true rfl, Nat.le_of_ble_eq_true rfl⟩ ⟨Nat.le_of_ble_eq_true rfl, Nat.le_of_ble_eq_true rfl⟩ rfl rfl (Nat.le_of_ble_eq_true rfl) dX6_signsReadWell_29 ?_
        refine j_if_ne C (tgt := 37) dX6_signsReadWell_32 (by decide) (fun c28 => ?_) (fun c28 => ?_)
        · have h := ite_t h c28
          refine j_iload_n C (q := 1) dX6_signsReadWell_35 rfl rfl ?_
          exact j_iret C hr hlk h ⟨Nat.le_of_ble_eq_true rfl, Nat.le_of_ble_eq_true rfl⟩ dX6_signsReadWell_36
        · have h := ite_f h c28
          obtain ⟨x29, ex29⟩ : ∃ y : Int32, y = (y1 + 1) := ⟨_, rfl⟩
          have h := lt_at h ex29
          refine j_iinc C (q := 1) [(0, .ref (B + 0)), (1, .int x29)] [1, 0] dX6_signsReadWell_37 rfl (by rw [ex29]; rfl) (by decide) rfl ?_
          refine j_goto C (tgt := 9) dX6_signsReadWell_40 (by decide) ?_
          exact ih9 x29 _ h
  refine j_aload_n C (q := 0) dX6_signsReadWell_0 rfl rfl ?_
  refine fg_X6_35 C (i := 0) kA_0 dX6_signsReadWell_1 ?_
  obtain ⟨t31, e32, h⟩ := bv_some h
  refine j_callV_v C (i := 138) (As := []) (rest := []) (c_X2_start l G B dy _ e32) (shp2 G B _ kA_138) (kd_lt kA_138 (by decide)) rfl tw_453 tw_454 tw_455 ti_2 tw_456 hd_X2_start ⟨Nat.le_of_ble_eq_true rfl, Nat.le_of_ble_eq_true rfl⟩ ⟨Nat.le_of_ble_eq_true rfl, Nat.le_of_ble_eq_true rfl⟩ rfl rfl (Nat.le_of_ble_eq_true rfl) dX6_signsReadWell_4 ?_
  refine j_iconst C (v := 0) dX6_signsReadWell_7 (by decide) ?_
  refine j_istore_n C [(0, .ref (B + 0)), (1, .int 0)] [1, 0] dX6_signsReadWell_8 rfl (by decide) rfl ?_
  exact J9 FU 0 _ h
set_option maxRecDepth 100000 in
set_option maxHeartbeats 4000000 in
theorem c_X6_bufferTellsFeasts (l : Launch) (G : GG) (B dy : Nat) (t0 : St) {r : Int32} {t9 : St} (h : f_X6_bufferTellsFeasts t0 = some (r, t9)) : Ct l G B dy yX6_bufferTellsFeasts cX6_bufferTellsFeasts 1 (some .boolean) 5 104 0 0 [.ref (B + 0)] t0 (PostI G B r t9) := by
  refine Ct_of (by decide +kernel) [(0, .ref (B + 0))] (Nat.le_of_ble_eq_true rfl) rfl ?_
  intro p e s m args below meth c C hr hlk
  refine j_aload_n C (q := 0) dX6_bufferTellsFeasts_0 rfl rfl ?_
  obtain ⟨x21, t22, e23, h⟩ := bd_some h
  refine j_callV_i C (i := 0) (As := []) (rest := []) (c_X6_signsReadWell l G B dy _ e23) (shp6 G B _ kA_0) (kd_lt kA_0 (by decide)) rfl tw_449 tw_451 tp_12 ti_6 tw_452 hd_X6_signsReadWell ⟨Nat.le_of_ble_eq_true rfl, Nat.le_of_ble_eq_true rfl⟩ ⟨Nat.le_of_ble_eq_true rfl, Nat.le_of_ble_eq_true rfl⟩ rfl rfl (Nat.le_of_ble_eq_true rfl) dX6_bufferTellsFeasts_1 ?_
  refine j_aload_n C (q := 0) dX6_bufferTellsFeasts_4 rfl rfl ?_
  refine fg_X6_64 C (i := 0) kA_0 dX6_bufferTellsFeasts_5 ?_
  refine j_icmp_ne C (tgt := 25) dX6_bufferTellsFeasts_8 (by decide) (fun c24 => ?_) (fun c24 => ?_)
  · have h := ite_t h c24
    refine j_aload_n C (q := 0) dX6_bufferTellsFeasts_11 rfl rfl ?_
    refine fg_X6_35 C (i := 0) kA_0 dX6_bufferTellsFeasts_12 ?_
    obtain ⟨x25, t26, e27, h⟩ := bd_some h
    refine j_callV_i C (i := 138) (As := []) (rest := []) (c_X2_mayEnd l G B dy _ e27) (shp2 G B _ kA_138) (kd_lt kA_138 (by decide)) rfl tw_505 tw_506 tw_507 ti_2 tw_508 hd_X2_mayEnd ⟨Nat.le_of_ble_eq_true rfl, Nat.le_of_ble_eq_true rfl⟩ ⟨Nat.le_of_ble_eq_true rfl, Nat.le_of_ble_eq_true rfl⟩ rfl rfl (Nat.le_of_ble_eq_true rfl) dX6_bufferTellsFeasts_15 ?_
    refine j_if_eq C (tgt := 25) dX6_bufferTellsFeasts_18 (by decide) (fun c28 => ?_) (fun c28 => ?_)
    · have h := ite_t h c28
      refine j_iconst C (v := 0) dX6_bufferTellsFeasts_25 (by decide) ?_
      exact j_zret C hr hlk (Or.inl rfl) h ⟨Nat.le_of_ble_eq_true rfl, Nat.le_of_ble_eq_true rfl⟩ dX6_bufferTellsFeasts_26
    · have h := ite_f h c28
      refine j_iconst C (v := 1) dX6_bufferTellsFeasts_21 (by decide) ?_
      refine j_goto C (tgt := 26) dX6_bufferTellsFeasts_22 (by decide) ?_
      exact j_zret C hr hlk (Or.inr rfl) h ⟨Nat.le_of_ble_eq_true rfl, Nat.le_of_ble_eq_true rfl⟩ dX6_bufferTellsFeasts_26
  · have h := ite_f h c24
    refine j_iconst C (v := 0) dX6_bufferTellsFeasts_25 (by decide) ?_
    exact j_zret C hr hlk (Or.inl rfl) h ⟨Nat.le_of_ble_eq_true rfl, Nat.le_of_ble_eq_true rfl⟩ dX6_bufferTellsFeasts_26
set_option maxRecDepth 100000 in
set_option maxHeartbeats 4000000 in
theorem c_X6_addReadFeast (l : Launch) (G : GG) (B dy : Nat) (t0 : St) {r : Int32} {t9 : St} (h : f_X6_addReadFeast t0 = some (r, t9)) : Ct l G B dy yX6_addReadFeast cX6_addReadFeast 2 (some .boolean) 2 43 0 0 [.ref (B + 0)] t0 (PostI G B r t9) := by
  refine Ct_of (by decide +kernel) [(0, .ref (B + 0))] (Nat.le_of_ble_eq_true rfl) rfl ?_
  intro p e s m args below meth c C hr hlk
  have J33 : ∀ (w0 : Int32) (t0 : St), f_X6_addReadFeast_b33 w0 t0 = some (r, t9) → WW G B p l e (RM 2 43 0 0) s m args below meth c 0 0 (MQ below (PostI G B r t9) args s 0 0 (Ab B)) 2 33 [(0, .ref (B + 0))] [.int w0] t0 := by
    intro w0 t0 h
    refine j_istore_n C [(0, .ref (B + 0)), (1, .int w0)] [1, 0] dX6_addReadFeast_33 rfl (by decide) rfl ?_
    refine j_aload_n C (q := 0) dX6_addReadFeast_34 rfl rfl ?_
    refine fg_X6_12 C (i := 0) kA_0 dX6_addReadFeast_35 ?_
    refine fg_X6_87 C (i := 1) kA_1 dX6_addReadFeast_38 ?_
    refine j_bipush C (v := 10) dX6_addReadFeast_41 (by decide) ?_
    refine j_icmp_ge C (tgt := 50) dX6_addReadFeast_43 (by decide) (fun c21 => ?_) (fun c21 => ?_)
    · have h := ite_t h c21
      refine j_iconst C (v := 0) dX6_addReadFeast_50 (by decide) ?_
      exact j_zret C hr hlk (Or.inl rfl) h ⟨Nat.le_of_ble_eq_true rfl, Nat.le_of_ble_eq_true rfl⟩ dX6_addReadFeast_51
    · have h := ite_f h c21
      refine j_iload_n C (q := 1) dX6_addReadFeast_46 rfl rfl ?_
      refine j_if_eq C (tgt := 52) dX6_addReadFeast_47 (by decide) (fun c22 => ?_) (fun c22 => ?_)
      · have h := ite_t h c22
        refine j_aload_n C (q := 0) dX6_addReadFeast_52 rfl rfl ?_
        refine fg_X6_12 C (i := 0) kA_0 dX6_addReadFeast_53 ?_
        refine j_aload_n C (q := 0) dX6_addReadFeast_56 rfl rfl ?_
        refine fg_X6_35 C (i := 0) kA_0 dX6_addReadFeast_57 ?_
        obtain ⟨t24, e25, h⟩ := bv_some h
        refine j_callV_v C (i := 1) (As := [.ref (B + 138)]) (rest := []) (c_X5_addFeast l G B dy 1 kA_1 138 kA_138 _ e25) (shp5 G B _ kA_1) (kd_lt kA_1 (by decide)) rfl tw_535 tw_536 tw_537 ti_5 tw_538 hd_X5_addFeast ⟨Nat.le_of_ble_eq_true rfl, Nat.le_of_ble_eq_true rfl⟩ ⟨Nat.le_of_ble_eq_true rfl, Nat.le_of_ble_eq_true rfl⟩ rfl rfl (Nat.le_of_ble_eq_true rfl) dX6_addReadFeast_60 ?_
        refine j_iconst C (v := 1) dX6_addReadFeast_63 (by decide) ?_
        exact j_zret C hr hlk (Or.inr rfl) h ⟨Nat.le_of_ble_eq_true rfl, Nat.le_of_ble_eq_true rfl⟩ dX6_addReadFeast_64
      · have h := ite_f h c22
        refine j_iconst C (v := 0) dX6_addReadFeast_50 (by decide) ?_
        exact j_zret C hr hlk (Or.inl rfl) h ⟨Nat.le_of_ble_eq_true rfl, Nat.le_of_ble_eq_true rfl⟩ dX6_addReadFeast_51
  have J32 : ∀ (t0 : St), f_X6_addReadFeast_b32 t0 = some (r, t9) → WW G B p l e (RM 2 43 0 0) s m args below meth c 0 0 (MQ below (PostI G B r t9) args s 0 0 (Ab B)) 2 32 [(0, .ref (B + 0))] [] t0 := by
    intro t0 h
    refine j_iconst C (v := 0) dX6_addReadFeast_32 (by decide) ?_
    exact J33 0 _ h
  refine j_aload_n C (q := 0) dX6_addReadFeast_0 rfl rfl ?_
  refine fg_X6_35 C (i := 0) kA_0 dX6_addReadFeast_1 ?_
  refine fg_X6_268 C (i := 138) kA_138 dX6_addReadFeast_4 ?_
  refine j_iconst C (v := 3) dX6_addReadFeast_7 (by decide) ?_
  refine j_icmp_ne C (tgt := 32) dX6_addReadFeast_8 (by decide) (fun c26 => ?_) (fun c26 => ?_)
  · have h := ite_t h c26
    refine j_aload_n C (q := 0) dX6_addReadFeast_11 rfl rfl ?_
    refine fg_X6_35 C (i := 0) kA_0 dX6_addReadFeast_12 ?_
    refine fg_X6_271 C (i := 138) kA_138 dX6_addReadFeast_15 ?_
    refine j_aload_n C (q := 0) dX6_addReadFeast_18 rfl rfl ?_
    refine fg_X6_12 C (i := 0) kA_0 dX6_addReadFeast_19 ?_
    refine fg_X6_87 C (i := 1) kA_1 dX6_addReadFeast_22 ?_
    refine j_icmp_lt C (tgt := 32) dX6_addReadFeast_25 (by decide) (fun c27 => ?_) (fun c27 => ?_)
    · have h := ite_t h c27
      exact J32 _ h
    · have h := ite_f h c27
      refine j_iconst C (v := 1) dX6_addReadFeast_28 (by decide) ?_
      refine j_goto C (tgt := 33) dX6_addReadFeast_29 (by decide) ?_
      exact J33 1 _ h
  · have h := ite_f h c26
    exact J32 _ h
set_option maxRecDepth 100000 in
set_option maxHeartbeats 4000000 in
theorem c_X6_addBufferedFeasts (l : Launch) (G : GG) (B dy : Nat) (t0 : St) {r : Int32} {t9 : St} (h : f_X6_addBufferedFeasts t0 = some (r, t9)) : Ct l G B dy yX6_addBufferedFeasts cX6_addBufferedFeasts 5 (some .int) 4 83 0 0 [.ref (B + 0)] t0 (PostI G B r t9) := by
  refine Ct_of (by decide +kernel) [(0, .ref (B + 0))] (Nat.le_of_ble_eq_true rfl) rfl ?_
  intro p e s m args below meth c C hr hlk
  have J78 : ∀ (y1 : Int32) (t0 : St), f_X6_addBufferedFeasts_b78 y1 t0 = some (r, t9) → WW G B p l e (RM 4 83 0 0) s m args below meth c 0 0 (MQ below (PostI G B r t9) args s 0 0 (Ab B)) 5 78 [(0, .ref (B + 0)), (1, .int y1)] [] t0 := by
    intro y1 t0 h
    refine j_aload_n C (q := 0) dX6_addBufferedFeasts_78 rfl rfl ?_
    refine fg_X6_12 C (i := 0) kA_0 dX6_addBufferedFeasts_79 ?_
    refine fg_X6_87 C (i := 1) kA_1 dX6_addBufferedFeasts_82 ?_
    refine j_iload_n C (q := 1) dX6_addBufferedFeasts_85 rfl rfl ?_
    refine j_isub C dX6_addBufferedFeasts_86 ?_
    exact j_iret C hr hlk h ⟨Nat.le_of_ble_eq_true rfl, Nat.le_of_ble_eq_true rfl⟩ dX6_addBufferedFeasts_87
  have J69 : ∀ (y1 : Int32) (y2 : Int32) (t0 : St), f_X6_addBufferedFeasts_b69 y1 y2 t0 = some (r, t9) → WW G B p l e (RM 4 83 0 0) s m args below meth c 0 0 (MQ below (PostI G B r t9) args s 0 0 (Ab B)) 5 69 [(0, .ref (B + 0)), (1, .int y1), (2, .int y2)] [] t0 := by
    intro y1 y2 t0 h
    refine j_iload_n C (q := 2) dX6_addBufferedFeasts_69 rfl rfl ?_
    refine j_if_eq C (tgt := 78) dX6_addBufferedFeasts_70 (by decide) (fun c21 => ?_) (fun c21 => ?_)
    · have h := ite_t h c21
      refine j_sub [0, 1] rfl ?_
      exact J78 y1 _ h
    · have h := ite_f h c21
      refine j_aload_n C (q := 0) dX6_addBufferedFeasts_73 rfl rfl ?_
      obtain ⟨x22, t23, e24, h⟩ := bd_some h
      refine j_callV_i C (i := 0) (As := []) (rest := []) (c_X6_addReadFeast l G B dy _ e24) (shp6 G B _ kA_0) (kd_lt kA_0 (by decide)) rfl tw_531 tw_533 tp_25 ti_6 tw_534 hd_X6_addReadFeast ⟨Nat.le_of_ble_eq_true rfl, Nat.le_of_ble_eq_true rfl⟩ ⟨Nat.le_of_ble_eq_true rfl, Nat.le_of_ble_eq_true rfl⟩ rfl rfl (Nat.le_of_ble_eq_true rfl) dX6_addBufferedFeasts_74 ?_
      refine j_pop C dX6_addBufferedFeasts_77 rfl ?_
      refine j_sub [0, 1] rfl ?_
      exact J78 y1 _ h
  have J19 : ∀ (n19 : Nat) (y1 : Int32) (y2 : Int32) (y3 : Int32) (t0 : St), f_X6_addBufferedFeasts_l19 n19 y1 y2 y3 t0 = some (r, t9) → WW G B p l e (RM 4 83 0 0) s m args below meth c 0 0 (MQ below (PostI G B r t9) args s 0 0 (Ab B)) 5 19 [(0, .ref (B + 0)), (1, .int y1), (2, .int y2), (3, .int y3)] [] t0 := by
    intro n19
    induction n19 with
    | zero => intro y1 y2 y3 t0 h; exact (no_some h).elim
    | succ n19 ih19 =>
      try clear h
      have J53 : ∀ (y1 : Int32) (y2 : Int32) (y3 : Int32) (y4 : Int32) (t0 : St), f_X6_addBufferedFeasts_b53 (f_X6_addBufferedFeasts_l19 n19) y1 y2 y3 y4 t0 = some (r, t9) → WW G B p l e (RM 4 83 0 0) s m args below meth c 0 0 (MQ below (PostI G B r t9) args s 0 0 (Ab B)) 5 53 [(0, .ref (B + 0)), (1, .int y1), (2, .int y2), (3, .int y3), (4, .int y4)] [] t0 := by
        intro y1 y2 y3 y4 t0 h
        refine j_aload_n C (q := 0) dX6_addBufferedFeasts_53 rfl rfl ?_
        refine fg_X6_35 C (i := 0) kA_0 dX6_addBufferedFeasts_54 ?_
        refine j_iload C (q := 4) dX6_addBufferedFeasts_57 rfl ?_
        obtain ⟨x25, t26, e27, h⟩ := bd_some h
        refine j_callV_i C (i := 138) (As := [.int y4]) (rest := []) (c_X2_reads l G B dy y4 _ e27) (shp2 G B _ kA_138) (kd_lt kA_138 (by decide)) rfl tw_457 tw_458 tw_459 ti_2 tw_460 hd_X2_reads ⟨Nat.le_of_ble_eq_true rfl, Nat.le_of_ble_eq_true rfl⟩ ⟨Nat.le_of_ble_eq_true rfl, Nat.le_of_ble_eq_true rfl⟩ rfl rfl (Nat.le_of_ble_eq_true rfl) dX6_addBufferedFeasts_59 ?_
        refine j_pop C dX6_addBufferedFeasts_62 rfl ?_
        obtain ⟨x28, ex28⟩ : ∃ y : Int32, y = (y3 + 1) := ⟨_, rfl⟩
        have h := lt_at h ex28
        refine j_iinc C (q := 3) [(0, .ref (B + 0)), (1, .int y1), (2, .int y2), (3, .int x28), (4, .int y4)] [1, 2, 3, 0, 4] dX6_addBufferedFeasts_63 rfl (by rw [ex28]; rfl) (by decide) rfl ?_
        refine j_goto C (tgt := 19) dX6_addBufferedFeasts_66 (by decide) ?_
        refine j_sub [0, 1, 2, 3] rfl ?_
        exact ih19 y1 y2 x28 _ h
      intro y1 y2 y3 t0 h
      have h : f_X6_addBufferedFeasts_b19 (f_X6_addBufferedFeasts_l19 n19) y1 y2 y3 t0 = some (r, t9) := h
      refine j_iload_n C (q := 3) dX6_addBufferedFeasts_19 rfl rfl ?_
      refine j_aload_n C (q := 0) dX6_addBufferedFeasts_20 rfl rfl ?_
      refine fg_X6_64 C (i := 0) kA_0 dX6_addBufferedFeasts_21 ?_
      refine j_icmp_ge C (tgt := 69) dX6_addBufferedFeasts_24 (by decide) (fun c29 => ?_) (fun c29 => ?_)
      · have h := ite_t h c29
        refine j_sub [0, 1, 2] rfl ?_
        exact J69 y1 y2 _ h
      · have h := ite_f h c29
        refine j_iload_n C (q := 2) dX6_addBufferedFeasts_27 rfl rfl ?_
        refine j_if_eq C (tgt := 69) dX6_addBufferedFeasts_28 (by decide) (fun c30 => ?_) (fun c30 => ?_)
        · have h := ite_t h c30
          refine j_sub [0, 1, 2] rfl ?_
          exact J69 y1 y2 _ h
        · have h := ite_f h c30
          refine j_aload_n C (q := 0) dX6_addBufferedFeasts_31 rfl rfl ?_
          refine fg_X6_28 C (i := 0) kA_0 dX6_addBufferedFeasts_32 ?_
          refine j_iload_n C (q := 3) dX6_addBufferedFeasts_35 rfl rfl ?_
          obtain ⟨x31, t32, e33, h⟩ := bd_some h
          refine j_callV_i C (i := 136) (As := [.int y3]) (rest := []) (c_X4_at l G B dy 136 kA_136 y3 _ e33) (shp4 G B _ kA_136) (kd_lt kA_136 (by decide)) rfl tw_322 tw_323 tw_324 ti_4 tw_325 hd_X4_at ⟨Nat.le_of_ble_eq_true rfl, Nat.le_of_ble_eq_true rfl⟩ ⟨Nat.le_of_ble_eq_true rfl, Nat.le_of_ble_eq_true rfl⟩ rfl rfl (Nat.le_of_ble_eq_true rfl) dX6_addBufferedFeasts_36 ?_
          refine j_istore C [(0, .ref (B + 0)), (1, .int y1), (2, .int y2), (3, .int y3), (4, .int x31)] [1, 2, 3, 4, 0] dX6_addBufferedFeasts_39 (by decide) rfl ?_
          refine j_iload C (q := 4) dX6_addBufferedFeasts_41 rfl ?_
          refine j_bipush C (v := 59) dX6_addBufferedFeasts_43 (by decide) ?_
          refine j_icmp_ne C (tgt := 53) dX6_addBufferedFeasts_45 (by decide) (fun c34 => ?_) (fun c34 => ?_)
          · have h := ite_t h c34
            refine j_aload_n C (q := 0) dX6_addBufferedFeasts_48 rfl rfl ?_
            obtain ⟨x35, t36, e37, h⟩ := bd_some h
            refine j_callV_i C (i := 0) (As := []) (rest := []) (c_X6_addReadFeast l G B dy _ e37) (shp6 G B _ kA_0) (kd_lt kA_0 (by decide)) rfl tw_531 tw_533 tp_25 ti_6 tw_534 hd_X6_addReadFeast ⟨Nat.le_of_ble_eq_true rfl, Nat.le_of_ble_eq_true rfl⟩ ⟨Nat.le_of_ble_eq_true rfl, Nat.le_of_ble_eq_true rfl⟩ rfl rfl (Nat.le_of_ble_eq_true rfl) dX6_addBufferedFeasts_49 ?_
            refine j_istore_n C [(0, .ref (B + 0)), (1, .int y1), (2, .int x35), (3, .int y3), (4, .int x31)] [1, 2, 0, 3, 4] dX6_addBufferedFeasts_52 rfl (by decide) rfl ?_
            exact J53 y1 x35 y3 x31 _ h
          · have h := ite_f h c34
            exact J53 y1 y2 y3 x31 _ h
  refine j_aload_n C (q := 0) dX6_addBufferedFeasts_0 rfl rfl ?_
  refine fg_X6_12 C (i := 0) kA_0 dX6_addBufferedFeasts_1 ?_
  refine fg_X6_87 C (i := 1) kA_1 dX6_addBufferedFeasts_4 ?_
  refine j_topi (fun x38 ex38 => ?_)
  have h := lt_at h ex38
  refine j_istore_n C [(0, .ref (B + 0)), (1, .int x38)] [1, 0] dX6_addBufferedFeasts_7 rfl (by decide) rfl ?_
  refine j_iconst C (v := 1) dX6_addBufferedFeasts_8 (by decide) ?_
  refine j_istore_n C [(0, .ref (B + 0)), (1, .int x38), (2, .int 1)] [1, 2, 0] dX6_addBufferedFeasts_9 rfl (by decide) rfl ?_
  refine j_aload_n C (q := 0) dX6_addBufferedFeasts_10 rfl rfl ?_
  refine fg_X6_35 C (i := 0) kA_0 dX6_addBufferedFeasts_11 ?_
  obtain ⟨t40, e41, h⟩ := bv_some h
  refine j_callV_v C (i := 138) (As := []) (rest := []) (c_X2_start l G B dy _ e41) (shp2 G B _ kA_138) (kd_lt kA_138 (by decide)) rfl tw_453 tw_454 tw_455 ti_2 tw_456 hd_X2_start ⟨Nat.le_of_ble_eq_true rfl, Nat.le_of_ble_eq_true rfl⟩ ⟨Nat.le_of_ble_eq_true rfl, Nat.le_of_ble_eq_true rfl⟩ rfl rfl (Nat.le_of_ble_eq_true rfl) dX6_addBufferedFeasts_14 ?_
  refine j_iconst C (v := 0) dX6_addBufferedFeasts_17 (by decide) ?_
  refine j_istore_n C [(0, .ref (B + 0)), (1, .int x38), (2, .int 1), (3, .int 0)] [1, 2, 3, 0] dX6_addBufferedFeasts_18 rfl (by decide) rfl ?_
  exact J19 FU x38 1 0 _ h
set_option maxRecDepth 100000 in
set_option maxHeartbeats 4000000 in
theorem c_X6_proclaim (l : Launch) (G : GG) (B dy : Nat) (t0 : St) {r : Int32} {t9 : St} (h : f_X6_proclaim t0 = some (r, t9)) : Ct l G B dy yX6_proclaim cX6_proclaim 2 (some .int) 6 124 0 0 [.ref (B + 0)] t0 (PostI G B r t9) := by
  refine Ct_of (by decide +kernel) [(0, .ref (B + 0))] (Nat.le_of_ble_eq_true rfl) rfl ?_
  intro p e s m args below meth c C hr hlk
  refine j_aload_n C (q := 0) dX6_proclaim_0 rfl rfl ?_
  obtain ⟨x21, t22, e23, h⟩ := bd_some h
  refine j_callV_i C (i := 0) (As := []) (rest := []) (c_X6_bufferTellsFeasts l G B dy _ e23) (shp6 G B _ kA_0) (kd_lt kA_0 (by decide)) rfl tw_445 tw_447 tp_11 ti_6 tw_448 hd_X6_bufferTellsFeasts ⟨Nat.le_of_ble_eq_true rfl, Nat.le_of_ble_eq_true rfl⟩ ⟨Nat.le_of_ble_eq_true rfl, Nat.le_of_ble_eq_true rfl⟩ rfl rfl (Nat.le_of_ble_eq_true rfl) dX6_proclaim_1 ?_
  refine j_if_ne C (tgt := 17) dX6_proclaim_4 (by decide) (fun c24 => ?_) (fun c24 => ?_)
  · have h := ite_t h c24
    exact (no_some h).elim
  · have h := ite_f h c24
    refine j_aload_n C (q := 0) dX6_proclaim_17 rfl rfl ?_
    refine fg_X6_19 C (i := 0) kA_0 dX6_proclaim_18 ?_
    refine j_aload_n C (q := 0) dX6_proclaim_21 rfl rfl ?_
    refine fg_X6_12 C (i := 0) kA_0 dX6_proclaim_22 ?_
    obtain ⟨t26, e27, h⟩ := bv_some h
    refine j_callV_v C (i := 20) (As := [.ref (B + 1)]) (rest := []) (c_X1_save l G B dy 1 kA_1 _ e27) (shp1 G B _ kA_20) (kd_lt kA_20 (by decide)) rfl tw_510 tw_511 tw_512 ti_1 tw_513 hd_X1_save ⟨Nat.le_of_ble_eq_true rfl, Nat.le_of_ble_eq_true rfl⟩ ⟨Nat.le_of_ble_eq_true rfl, Nat.le_of_ble_eq_true rfl⟩ rfl rfl (Nat.le_of_ble_eq_true rfl) dX6_proclaim_25 ?_
    refine j_aload_n C (q := 0) dX6_proclaim_28 rfl rfl ?_
    obtain ⟨x28, t29, e30, h⟩ := bd_some h
    refine j_callV_i C (i := 0) (As := []) (rest := []) (c_X6_addBufferedFeasts l G B dy _ e30) (shp6 G B _ kA_0) (kd_lt kA_0 (by decide)) rfl tw_527 tw_529 tp_24 ti_6 tw_530 hd_X6_addBufferedFeasts ⟨Nat.le_of_ble_eq_true rfl, Nat.le_of_ble_eq_true rfl⟩ ⟨Nat.le_of_ble_eq_true rfl, Nat.le_of_ble_eq_true rfl⟩ rfl rfl (Nat.le_of_ble_eq_true rfl) dX6_proclaim_29 ?_
    refine j_istore_n C [(0, .ref (B + 0)), (1, .int x28)] [1, 0] dX6_proclaim_32 rfl (by decide) rfl ?_
    refine j_aload_n C (q := 0) dX6_proclaim_33 rfl rfl ?_
    refine j_iconst C (v := 0) dX6_proclaim_34 (by decide) ?_
    refine fp_X6_64 C (i := 0) kA_0 dX6_proclaim_35 ?_
    refine j_tops (fun t31 et31 => ?_)
    have h := lt_at h et31
    refine j_iload_n C (q := 1) dX6_proclaim_38 rfl rfl ?_
    exact j_iret C hr hlk h ⟨Nat.le_of_ble_eq_true rfl, Nat.le_of_ble_eq_true rfl⟩ dX6_proclaim_39
set_option maxRecDepth 100000 in
set_option maxHeartbeats 4000000 in
theorem c_X6_forget (l : Launch) (G : GG) (B dy : Nat) (t0 : St) {r : Int32} {t9 : St} (h : f_X6_forget t0 = some (r, t9)) : Ct l G B dy yX6_forget cX6_forget 1 (some .int) 4 86 0 0 [.ref (B + 0)] t0 (PostI G B r t9) := by
  refine Ct_of (by decide +kernel) [(0, .ref (B + 0))] (Nat.le_of_ble_eq_true rfl) rfl ?_
  intro p e s m args below meth c C hr hlk
  refine j_aload_n C (q := 0) dX6_forget_0 rfl rfl ?_
  refine fg_X6_12 C (i := 0) kA_0 dX6_forget_1 ?_
  refine fg_X6_87 C (i := 1) kA_1 dX6_forget_4 ?_
  refine j_if_gt C (tgt := 20) dX6_forget_7 (by decide) (fun c21 => ?_) (fun c21 => ?_)
  · have h := ite_t h c21
    refine j_aload_n C (q := 0) dX6_forget_20 rfl rfl ?_
    refine fg_X6_19 C (i := 0) kA_0 dX6_forget_21 ?_
    refine j_aload_n C (q := 0) dX6_forget_24 rfl rfl ?_
    refine fg_X6_12 C (i := 0) kA_0 dX6_forget_25 ?_
    obtain ⟨t23, e24, h⟩ := bv_some h
    refine j_callV_v C (i := 20) (As := [.ref (B + 1)]) (rest := []) (c_X1_save l G B dy 1 kA_1 _ e24) (shp1 G B _ kA_20) (kd_lt kA_20 (by decide)) rfl tw_510 tw_511 tw_512 ti_1 tw_513 hd_X1_save ⟨Nat.le_of_ble_eq_true rfl, Nat.le_of_ble_eq_true rfl⟩ ⟨Nat.le_of_ble_eq_true rfl, Nat.le_of_ble_eq_true rfl⟩ rfl rfl (Nat.le_of_ble_eq_true rfl) dX6_forget_28 ?_
    refine j_aload_n C (q := 0) dX6_forget_31 rfl rfl ?_
    refine fg_X6_12 C (i := 0) kA_0 dX6_forget_32 ?_
    refine j_dup C dX6_forget_35 rfl ?_
    refine fg_X6_87 C (i := 1) kA_1 dX6_forget_36 ?_
    refine j_iconst C (v := 1) dX6_forget_39 (by decide) ?_
    refine j_isub C dX6_forget_40 ?_
    refine fp_X6_87 C (i := 1) kA_1 dX6_forget_41 ?_
    refine j_tops (fun t25 et25 => ?_)
    have h := lt_at h et25
    refine j_aload_n C (q := 0) dX6_forget_44 rfl rfl ?_
    refine fg_X6_12 C (i := 0) kA_0 dX6_forget_45 ?_
    refine fg_X6_87 C (i := 1) kA_1 dX6_forget_48 ?_
    exact j_iret C hr hlk h ⟨Nat.le_of_ble_eq_true rfl, Nat.le_of_ble_eq_true rfl⟩ dX6_forget_51
  · have h := ite_f h c21
    exact (no_some h).elim
set_option maxRecDepth 100000 in
set_option maxHeartbeats 4000000 in
theorem c_X6_needFeast (l : Launch) (G : GG) (B dy : Nat) (x1 : Int32) (t0 : St) {t9 : St} (h : f_X6_needFeast x1 t0 = some t9) : Ct l G B dy yX6_needFeast cX6_needFeast 2 none 0 0 0 0 [.ref (B + 0), .int x1] t0 (PostV G B t9) := by
  refine Ct_of (by decide +kernel) [(0, .ref (B + 0)), (1, .int x1)] (Nat.le_of_ble_eq_true rfl) rfl ?_
  intro p e s m args below meth c C hr hlk
  refine j_iload_n C (q := 1) dX6_needFeast_0 rfl rfl ?_
  refine j_if_lt C (tgt := 15) dX6_needFeast_1 (by decide) (fun c21 => ?_) (fun c21 => ?_)
  · have h := ite_t h c21
    exact (no_some h).elim
  · have h := ite_f h c21
    refine j_iload_n C (q := 1) dX6_needFeast_4 rfl rfl ?_
    refine j_aload_n C (q := 0) dX6_needFeast_5 rfl rfl ?_
    refine fg_X6_12 C (i := 0) kA_0 dX6_needFeast_6 ?_
    refine fg_X6_87 C (i := 1) kA_1 dX6_needFeast_9 ?_
    refine j_icmp_lt C (tgt := 25) dX6_needFeast_12 (by decide) (fun c22 => ?_) (fun c22 => ?_)
    · have h := ite_t h c22
      exact j_vret C hr hlk h ⟨Nat.le_of_ble_eq_true rfl, Nat.le_of_ble_eq_true rfl⟩ dX6_needFeast_25
    · have h := ite_f h c22
      exact (no_some h).elim
set_option maxRecDepth 100000 in
set_option maxHeartbeats 4000000 in
theorem c_X6_needWithin (l : Launch) (G : GG) (B dy : Nat) (x0 : Int32) (x1 : Int32) (x2 : Int32) (t0 : St) {t9 : St} (h : f_X6_needWithin x0 x1 x2 t0 = some t9) : Ct l G B dy yX6_needWithin cX6_needWithin 3 none 0 0 0 0 [.int x0, .int x1, .int x2] t0 (PostV G B t9) := by
  refine Ct_of (by decide +kernel) [(0, .int x0), (1, .int x1), (2, .int x2)] (Nat.le_of_ble_eq_true rfl) rfl ?_
  intro p e s m args below meth c C hr hlk
  refine j_iload_n C (q := 0) dX6_needWithin_0 rfl rfl ?_
  refine j_iload_n C (q := 1) dX6_needWithin_1 rfl rfl ?_
  refine j_icmp_lt C (tgt := 10) dX6_needWithin_2 (by decide) (fun c21 => ?_) (fun c21 => ?_)
  · have h := ite_t h c21
    exact (no_some h).elim
  · have h := ite_f h c21
    refine j_iload_n C (q := 0) dX6_needWithin_5 rfl rfl ?_
    refine j_iload_n C (q := 2) dX6_needWithin_6 rfl rfl ?_
    refine j_icmp_le C (tgt := 20) dX6_needWithin_7 (by decide) (fun c22 => ?_) (fun c22 => ?_)
    · have h := ite_t h c22
      exact j_vret C hr hlk h ⟨Nat.le_of_ble_eq_true rfl, Nat.le_of_ble_eq_true rfl⟩ dX6_needWithin_20
    · have h := ite_f h c22
      exact (no_some h).elim
set_option maxRecDepth 100000 in
set_option maxHeartbeats 4000000 in
theorem c_X6_rank (l : Launch) (G : GG) (B dy : Nat) (x1 : Int32) (x2 : Int32) (t0 : St) {r : Int32} {t9 : St} (h : f_X6_rank x1 x2 t0 = some (r, t9)) : Ct l G B dy yX6_rank cX6_rank 4 (some .int) 4 86 0 0 [.ref (B + 0), .int x1, .int x2] t0 (PostI G B r t9) := by
  refine Ct_of (by decide +kernel) [(0, .ref (B + 0)), (1, .int x1), (2, .int x2)] (Nat.le_of_ble_eq_true rfl) rfl ?_
  intro p e s m args below meth c C hr hlk
  refine j_aload_n C (q := 0) dX6_rank_0 rfl rfl ?_
  refine j_iload_n C (q := 1) dX6_rank_1 rfl rfl ?_
  obtain ⟨t22, e23, h⟩ := bv_some h
  refine j_callV_v C (i := 0) (As := [.int x1]) (rest := []) (c_X6_needFeast l G B dy x1 _ e23) (shp6 G B _ kA_0) (kd_lt kA_0 (by decide)) rfl tw_549 tw_551 tp_26 ti_6 tw_552 hd_X6_needFeast ⟨Nat.le_of_ble_eq_true rfl, Nat.le_of_ble_eq_true rfl⟩ ⟨Nat.le_of_ble_eq_true rfl, Nat.le_of_ble_eq_true rfl⟩ rfl rfl (Nat.le_of_ble_eq_true rfl) dX6_rank_2 ?_
  refine j_iload_n C (q := 2) dX6_rank_5 rfl rfl ?_
  refine j_iconst C (v := 0) dX6_rank_6 (by decide) ?_
  refine j_bipush C (v := 9) dX6_rank_7 (by decide) ?_
  obtain ⟨t25, e26, h⟩ := bv_some h
  refine j_callS_v C (i := 0) (As := [.int x2, .int 0, .int 9]) (rest := []) (c_X6_needWithin l G B dy x2 0 9 _ e26) tw_299 tw_300 ti_6 tw_301 ⟨rfl, hd_X6_needWithin⟩ ⟨Nat.le_of_ble_eq_true rfl, Nat.le_of_ble_eq_true rfl⟩ ⟨Nat.le_of_ble_eq_true rfl, Nat.le_of_ble_eq_true rfl⟩ rfl rfl (Nat.le_of_ble_eq_true rfl) dX6_rank_9 ?_
  refine j_aload_n C (q := 0) dX6_rank_12 rfl rfl ?_
  refine fg_X6_19 C (i := 0) kA_0 dX6_rank_13 ?_
  refine j_aload_n C (q := 0) dX6_rank_16 rfl rfl ?_
  refine fg_X6_12 C (i := 0) kA_0 dX6_rank_17 ?_
  obtain ⟨t28, e29, h⟩ := bv_some h
  refine j_callV_v C (i := 20) (As := [.ref (B + 1)]) (rest := []) (c_X1_save l G B dy 1 kA_1 _ e29) (shp1 G B _ kA_20) (kd_lt kA_20 (by decide)) rfl tw_510 tw_511 tw_512 ti_1 tw_513 hd_X1_save ⟨Nat.le_of_ble_eq_true rfl, Nat.le_of_ble_eq_true rfl⟩ ⟨Nat.le_of_ble_eq_true rfl, Nat.le_of_ble_eq_true rfl⟩ rfl rfl (Nat.le_of_ble_eq_true rfl) dX6_rank_20 ?_
  refine j_aload_n C (q := 0) dX6_rank_23 rfl rfl ?_
  refine fg_X6_12 C (i := 0) kA_0 dX6_rank_24 ?_
  refine fg_X6_102 C (i := 1) kA_1 dX6_rank_27 ?_
  refine j_iload_n C (q := 1) dX6_rank_30 rfl rfl ?_
  obtain ⟨x30, t31, e32, h⟩ := bd_some h
  refine j_callV_i C (i := 4) (As := [.int x1]) (rest := []) (c_X4_at l G B dy 4 kA_4 x1 _ e32) (shp4 G B _ kA_4) (kd_lt kA_4 (by decide)) rfl tw_322 tw_323 tw_324 ti_4 tw_325 hd_X4_at ⟨Nat.le_of_ble_eq_true rfl, Nat.le_of_ble_eq_true rfl⟩ ⟨Nat.le_of_ble_eq_true rfl, Nat.le_of_ble_eq_true rfl⟩ rfl rfl (Nat.le_of_ble_eq_true rfl) dX6_rank_31 ?_
  refine j_istore_n C [(0, .ref (B + 0)), (1, .int x1), (2, .int x2), (3, .int x30)] [1, 2, 3, 0] dX6_rank_34 rfl (by decide) rfl ?_
  refine j_aload_n C (q := 0) dX6_rank_35 rfl rfl ?_
  refine fg_X6_12 C (i := 0) kA_0 dX6_rank_36 ?_
  refine fg_X6_102 C (i := 1) kA_1 dX6_rank_39 ?_
  refine j_iload_n C (q := 1) dX6_rank_42 rfl rfl ?_
  refine j_iload_n C (q := 2) dX6_rank_43 rfl rfl ?_
  obtain ⟨t34, e35, h⟩ := bv_some h
  refine j_callV_v C (i := 4) (As := [.int x1, .int x2]) (rest := []) (c_X4_put l G B dy 4 kA_4 x1 x2 _ e35) (shp4 G B _ kA_4) (kd_lt kA_4 (by decide)) rfl tw_437 tw_376 tw_377 ti_4 tw_378 hd_X4_put ⟨Nat.le_of_ble_eq_true rfl, Nat.le_of_ble_eq_true rfl⟩ ⟨Nat.le_of_ble_eq_true rfl, Nat.le_of_ble_eq_true rfl⟩ rfl rfl (Nat.le_of_ble_eq_true rfl) dX6_rank_44 ?_
  refine j_iload_n C (q := 3) dX6_rank_47 rfl rfl ?_
  exact j_iret C hr hlk h ⟨Nat.le_of_ble_eq_true rfl, Nat.le_of_ble_eq_true rfl⟩ dX6_rank_48
set_option maxRecDepth 100000 in
set_option maxHeartbeats 4000000 in
theorem c_X6_needCarver (l : Launch) (G : GG) (B dy : Nat) (x0 : Int32) (t0 : St) {t9 : St} (h : f_X6_needCarver x0 t0 = some t9) : Ct l G B dy yX6_needCarver cX6_needCarver 1 none 1 22 0 0 [.int x0] t0 (PostV G B t9) := by
  refine Ct_of (by decide +kernel) [(0, .int x0)] (Nat.le_of_ble_eq_true rfl) rfl ?_
  intro p e s m args below meth c C hr hlk
  refine j_iload_n C (q := 0) dX6_needCarver_0 rfl rfl ?_
  refine j_iconst C (v := 0) dX6_needCarver_1 (by decide) ?_
  refine j_iconst C (v := 2) dX6_needCarver_2 (by decide) ?_
  obtain ⟨t22, e23, h⟩ := bv_some h
  refine j_callS_v C (i := 0) (As := [.int x0, .int 0, .int 2]) (rest := []) (c_X6_needWithin l G B dy x0 0 2 _ e23) tw_299 tw_300 ti_6 tw_301 ⟨rfl, hd_X6_needWithin⟩ ⟨Nat.le_of_ble_eq_true rfl, Nat.le_of_ble_eq_true rfl⟩ ⟨Nat.le_of_ble_eq_true rfl, Nat.le_of_ble_eq_true rfl⟩ rfl rfl (Nat.le_of_ble_eq_true rfl) dX6_needCarver_3 ?_
  exact j_vret C hr hlk h ⟨Nat.le_of_ble_eq_true rfl, Nat.le_of_ble_eq_true rfl⟩ dX6_needCarver_6
set_option maxRecDepth 100000 in
set_option maxHeartbeats 4000000 in
theorem c_X6_teach (l : Launch) (G : GG) (B dy : Nat) (x1 : Int32) (x2 : Int32) (t0 : St) {r : Int32} {t9 : St} (h : f_X6_teach x1 x2 t0 = some (r, t9)) : Ct l G B dy yX6_teach cX6_teach 4 (some .int) 4 86 0 0 [.ref (B + 0), .int x1, .int x2] t0 (PostI G B r t9) := by
  refine Ct_of (by decide +kernel) [(0, .ref (B + 0)), (1, .int x1), (2, .int x2)] (Nat.le_of_ble_eq_true rfl) rfl ?_
  intro p e s m args below meth c C hr hlk
  refine j_iload_n C (q := 1) dX6_teach_0 rfl rfl ?_
  obtain ⟨t22, e23, h⟩ := bv_some h
  refine j_callS_v C (i := 0) (As := [.int x1]) (rest := []) (c_X6_needCarver l G B dy x1 _ e23) tw_558 tw_559 ti_6 tw_560 ⟨rfl, hd_X6_needCarver⟩ ⟨Nat.le_of_ble_eq_true rfl, Nat.le_of_ble_eq_true rfl⟩ ⟨Nat.le_of_ble_eq_true rfl, Nat.le_of_ble_eq_true rfl⟩ rfl rfl (Nat.le_of_ble_eq_true rfl) dX6_teach_1 ?_
  refine j_iload_n C (q := 2) dX6_teach_4 rfl rfl ?_
  refine j_bipush C (v := (-5)) dX6_teach_5 (by decide) ?_
  refine j_iconst C (v := 5) dX6_teach_7 (by decide) ?_
  obtain ⟨t25, e26, h⟩ := bv_some h
  refine j_callS_v C (i := 0) (As := [.int x2, .int (-5), .int 5]) (rest := []) (c_X6_needWithin l G B dy x2 (-5) 5 _ e26) tw_299 tw_300 ti_6 tw_301 ⟨rfl, hd_X6_needWithin⟩ ⟨Nat.le_of_ble_eq_true rfl, Nat.le_of_ble_eq_true rfl⟩ ⟨Nat.le_of_ble_eq_true rfl, Nat.le_of_ble_eq_true rfl⟩ rfl rfl (Nat.le_of_ble_eq_true rfl) dX6_teach_8 ?_
  refine j_aload_n C (q := 0) dX6_teach_11 rfl rfl ?_
  refine fg_X6_19 C (i := 0) kA_0 dX6_teach_12 ?_
  refine j_aload_n C (q := 0) dX6_teach_15 rfl rfl ?_
  refine fg_X6_12 C (i := 0) kA_0 dX6_teach_16 ?_
  obtain ⟨t28, e29, h⟩ := bv_some h
  refine j_callV_v C (i := 20) (As := [.ref (B + 1)]) (rest := []) (c_X1_save l G B dy 1 kA_1 _ e29) (shp1 G B _ kA_20) (kd_lt kA_20 (by decide)) rfl tw_510 tw_511 tw_512 ti_1 tw_513 hd_X1_save ⟨Nat.le_of_ble_eq_true rfl, Nat.le_of_ble_eq_true rfl⟩ ⟨Nat.le_of_ble_eq_true rfl, Nat.le_of_ble_eq_true rfl⟩ rfl rfl (Nat.le_of_ble_eq_true rfl) dX6_teach_19 ?_
  refine j_aload_n C (q := 0) dX6_teach_22 rfl rfl ?_
  refine fg_X6_12 C (i := 0) kA_0 dX6_teach_23 ?_
  refine fg_X6_116 C (i := 1) kA_1 dX6_teach_26 ?_
  refine j_iload_n C (q := 1) dX6_teach_29 rfl rfl ?_
  obtain ⟨x30, t31, e32, h⟩ := bd_some h
  refine j_callV_i C (i := 10) (As := [.int x1]) (rest := []) (c_X4_at l G B dy 10 kA_10 x1 _ e32) (shp4 G B _ kA_10) (kd_lt kA_10 (by decide)) rfl tw_322 tw_323 tw_324 ti_4 tw_325 hd_X4_at ⟨Nat.le_of_ble_eq_true rfl, Nat.le_of_ble_eq_true rfl⟩ ⟨Nat.le_of_ble_eq_true rfl, Nat.le_of_ble_eq_true rfl⟩ rfl rfl (Nat.le_of_ble_eq_true rfl) dX6_teach_30 ?_
  refine j_istore_n C [(0, .ref (B + 0)), (1, .int x1), (2, .int x2), (3, .int x30)] [1, 2, 3, 0] dX6_teach_33 rfl (by decide) rfl ?_
  refine j_aload_n C (q := 0) dX6_teach_34 rfl rfl ?_
  refine fg_X6_12 C (i := 0) kA_0 dX6_teach_35 ?_
  refine fg_X6_116 C (i := 1) kA_1 dX6_teach_38 ?_
  refine j_iload_n C (q := 1) dX6_teach_41 rfl rfl ?_
  refine j_iload_n C (q := 2) dX6_teach_42 rfl rfl ?_
  obtain ⟨t34, e35, h⟩ := bv_some h
  refine j_callV_v C (i := 10) (As := [.int x1, .int x2]) (rest := []) (c_X4_put l G B dy 10 kA_10 x1 x2 _ e35) (shp4 G B _ kA_10) (kd_lt kA_10 (by decide)) rfl tw_437 tw_376 tw_377 ti_4 tw_378 hd_X4_put ⟨Nat.le_of_ble_eq_true rfl, Nat.le_of_ble_eq_true rfl⟩ ⟨Nat.le_of_ble_eq_true rfl, Nat.le_of_ble_eq_true rfl⟩ rfl rfl (Nat.le_of_ble_eq_true rfl) dX6_teach_43 ?_
  refine j_iload_n C (q := 3) dX6_teach_46 rfl rfl ?_
  refine j_iconst C (v := 5) dX6_teach_47 (by decide) ?_
  refine j_iadd C dX6_teach_48 ?_
  exact j_iret C hr hlk h ⟨Nat.le_of_ble_eq_true rfl, Nat.le_of_ble_eq_true rfl⟩ dX6_teach_49
set_option maxRecDepth 100000 in
set_option maxHeartbeats 4000000 in
theorem c_X6_needYear (l : Launch) (G : GG) (B dy : Nat) (x0 : Int32) (t0 : St) {t9 : St} (h : f_X6_needYear x0 t0 = some t9) : Ct l G B dy yX6_needYear cX6_needYear 1 none 1 22 0 0 [.int x0] t0 (PostV G B t9) := by
  refine Ct_of (by decide +kernel) [(0, .int x0)] (Nat.le_of_ble_eq_true rfl) rfl ?_
  intro p e s m args below meth c C hr hlk
  refine j_iload_n C (q := 0) dX6_needYear_0 rfl rfl ?_
  refine j_iconst C (v := 0) dX6_needYear_1 (by decide) ?_
  refine j_sipush C (v := 999) dX6_needYear_2 (by decide) ?_
  obtain ⟨t22, e23, h⟩ := bv_some h
  refine j_callS_v C (i := 0) (As := [.int x0, .int 0, .int 999]) (rest := []) (c_X6_needWithin l G B dy x0 0 999 _ e23) tw_299 tw_300 ti_6 tw_301 ⟨rfl, hd_X6_needWithin⟩ ⟨Nat.le_of_ble_eq_true rfl, Nat.le_of_ble_eq_true rfl⟩ ⟨Nat.le_of_ble_eq_true rfl, Nat.le_of_ble_eq_true rfl⟩ rfl rfl (Nat.le_of_ble_eq_true rfl) dX6_needYear_5 ?_
  exact j_vret C hr hlk h ⟨Nat.le_of_ble_eq_true rfl, Nat.le_of_ble_eq_true rfl⟩ dX6_needYear_8
set_option maxRecDepth 100000 in
set_option maxHeartbeats 4000000 in
theorem c_X6_carve (l : Launch) (G : GG) (B dy : Nat) (x1 : Int32) (x2 : Int32) (t0 : St) {r : Int32} {t9 : St} (h : f_X6_carve x1 x2 t0 = some (r, t9)) : Ct l G B dy yX6_carve cX6_carve 3 (some .int) 4 94 0 0 [.ref (B + 0), .int x1, .int x2] t0 (PostI G B r t9) := by
  refine Ct_of (by decide +kernel) [(0, .ref (B + 0)), (1, .int x1), (2, .int x2)] (Nat.le_of_ble_eq_true rfl) rfl ?_
  intro p e s m args below meth c C hr hlk
  refine j_iload_n C (q := 1) dX6_carve_0 rfl rfl ?_
  obtain ⟨t22, e23, h⟩ := bv_some h
  refine j_callS_v C (i := 0) (As := [.int x1]) (rest := []) (c_X6_needYear l G B dy x1 _ e23) tw_565 tw_566 ti_6 tw_567 ⟨rfl, hd_X6_needYear⟩ ⟨Nat.le_of_ble_eq_true rfl, Nat.le_of_ble_eq_true rfl⟩ ⟨Nat.le_of_ble_eq_true rfl, Nat.le_of_ble_eq_true rfl⟩ rfl rfl (Nat.le_of_ble_eq_true rfl) dX6_carve_1 ?_
  refine j_iload_n C (q := 2) dX6_carve_4 rfl rfl ?_
  obtain ⟨t25, e26, h⟩ := bv_some h
  refine j_callS_v C (i := 0) (As := [.int x2]) (rest := []) (c_X6_needCarver l G B dy x2 _ e26) tw_558 tw_559 ti_6 tw_560 ⟨rfl, hd_X6_needCarver⟩ ⟨Nat.le_of_ble_eq_true rfl, Nat.le_of_ble_eq_true rfl⟩ ⟨Nat.le_of_ble_eq_true rfl, Nat.le_of_ble_eq_true rfl⟩ rfl rfl (Nat.le_of_ble_eq_true rfl) dX6_carve_5 ?_
  refine j_aload_n C (q := 0) dX6_carve_8 rfl rfl ?_
  refine fg_X6_19 C (i := 0) kA_0 dX6_carve_9 ?_
  refine j_aload_n C (q := 0) dX6_carve_12 rfl rfl ?_
  refine fg_X6_12 C (i := 0) kA_0 dX6_carve_13 ?_
  obtain ⟨t28, e29, h⟩ := bv_some h
  refine j_callV_v C (i := 20) (As := [.ref (B + 1)]) (rest := []) (c_X1_save l G B dy 1 kA_1 _ e29) (shp1 G B _ kA_20) (kd_lt kA_20 (by decide)) rfl tw_510 tw_511 tw_512 ti_1 tw_513 hd_X1_save ⟨Nat.le_of_ble_eq_true rfl, Nat.le_of_ble_eq_true rfl⟩ ⟨Nat.le_of_ble_eq_true rfl, Nat.le_of_ble_eq_true rfl⟩ rfl rfl (Nat.le_of_ble_eq_true rfl) dX6_carve_16 ?_
  refine j_aload_n C (q := 0) dX6_carve_19 rfl rfl ?_
  refine fg_X6_42 C (i := 0) kA_0 dX6_carve_20 ?_
  refine j_aload_n C (q := 0) dX6_carve_23 rfl rfl ?_
  refine fg_X6_12 C (i := 0) kA_0 dX6_carve_24 ?_
  refine j_iload_n C (q := 1) dX6_carve_27 rfl rfl ?_
  refine j_aload_n C (q := 0) dX6_carve_28 rfl rfl ?_
  refine fg_X6_12 C (i := 0) kA_0 dX6_carve_29 ?_
  refine fg_X6_116 C (i := 1) kA_1 dX6_carve_32 ?_
  refine j_iload_n C (q := 2) dX6_carve_35 rfl rfl ?_
  obtain ⟨x30, t31, e32, h⟩ := bd_some h
  refine j_callV_i C (i := 10) (As := [.int x2]) (rest := [.int x1, .ref (B + 1), .ref (B + 139)]) (c_X4_at l G B dy 10 kA_10 x2 _ e32) (shp4 G B _ kA_10) (kd_lt kA_10 (by decide)) rfl tw_322 tw_323 tw_324 ti_4 tw_325 hd_X4_at ⟨Nat.le_of_ble_eq_true rfl, Nat.le_of_ble_eq_true rfl⟩ ⟨Nat.le_of_ble_eq_true rfl, Nat.le_of_ble_eq_true rfl⟩ rfl rfl (Nat.le_of_ble_eq_true rfl) dX6_carve_36 ?_
  obtain ⟨t34, e35, h⟩ := bv_some h
  refine j_callV_v C (i := 139) (As := [.ref (B + 1), .int x1, .int x30]) (rest := []) (c_X3_reckon l G B dy 139 kA_139 1 kA_1 x1 x30 _ e35) (shp3 G B _ kA_139) (kd_lt kA_139 (by decide)) rfl tw_339 tw_340 tw_341 ti_3 tw_342 hd_X3_reckon ⟨Nat.le_of_ble_eq_true rfl, Nat.le_of_ble_eq_true rfl⟩ ⟨Nat.le_of_ble_eq_true rfl, Nat.le_of_ble_eq_true rfl⟩ rfl rfl (Nat.le_of_ble_eq_true rfl) dX6_carve_39 ?_
  refine j_aload_n C (q := 0) dX6_carve_42 rfl rfl ?_
  refine fg_X6_12 C (i := 0) kA_0 dX6_carve_43 ?_
  refine j_iload_n C (q := 1) dX6_carve_46 rfl rfl ?_
  refine j_iload_n C (q := 2) dX6_carve_47 rfl rfl ?_
  refine j_aload_n C (q := 0) dX6_carve_48 rfl rfl ?_
  refine fg_X6_42 C (i := 0) kA_0 dX6_carve_49 ?_
  refine fg_X6_126 C (i := 139) kA_139 dX6_carve_52 ?_
  obtain ⟨t37, e38, h⟩ := bv_some h
  refine j_callV_v C (i := 1) (As := [.int x1, .int x2, .ref (B + 142)]) (rest := []) (c_X5_addStick l G B dy 1 kA_1 x1 x2 142 kA_142 _ e38) (shp5 G B _ kA_1) (kd_lt kA_1 (by decide)) rfl tw_568 tw_569 tw_570 ti_5 tw_571 hd_X5_addStick ⟨Nat.le_of_ble_eq_true rfl, Nat.le_of_ble_eq_true rfl⟩ ⟨Nat.le_of_ble_eq_true rfl, Nat.le_of_ble_eq_true rfl⟩ rfl rfl (Nat.le_of_ble_eq_true rfl) dX6_carve_55 ?_
  refine j_aload_n C (q := 0) dX6_carve_58 rfl rfl ?_
  refine fg_X6_12 C (i := 0) kA_0 dX6_carve_59 ?_
  refine j_iconst C (v := 0) dX6_carve_62 (by decide) ?_
  obtain ⟨x39, t40, e41, h⟩ := bd_some h
  refine j_callV_i C (i := 1) (As := [.int 0]) (rest := []) (c_X5_notchesOfStick l G B dy 1 kA_1 0 _ e41) (shp5 G B _ kA_1) (kd_lt kA_1 (by decide)) rfl tw_326 tw_327 tw_328 ti_5 tw_329 hd_X5_notchesOfStick ⟨Nat.le_of_ble_eq_true rfl, Nat.le_of_ble_eq_true rfl⟩ ⟨Nat.le_of_ble_eq_true rfl, Nat.le_of_ble_eq_true rfl⟩ rfl rfl (Nat.le_of_ble_eq_true rfl) dX6_carve_63 ?_
  exact j_iret C hr hlk h ⟨Nat.le_of_ble_eq_true rfl, Nat.le_of_ble_eq_true rfl⟩ dX6_carve_66
set_option maxRecDepth 100000 in
set_option maxHeartbeats 4000000 in
theorem c_X6_needStick (l : Launch) (G : GG) (B dy : Nat) (x1 : Int32) (t0 : St) {t9 : St} (h : f_X6_needStick x1 t0 = some t9) : Ct l G B dy yX6_needStick cX6_needStick 2 none 0 0 0 0 [.ref (B + 0), .int x1] t0 (PostV G B t9) := by
  refine Ct_of (by decide +kernel) [(0, .ref (B + 0)), (1, .int x1)] (Nat.le_of_ble_eq_true rfl) rfl ?_
  intro p e s m args below meth c C hr hlk
  refine j_iload_n C (q := 1) dX6_needStick_0 rfl rfl ?_
  refine j_if_lt C (tgt := 15) dX6_needStick_1 (by decide) (fun c21 => ?_) (fun c21 => ?_)
  · have h := ite_t h c21
    exact (no_some h).elim
  · have h := ite_f h c21
    refine j_iload_n C (q := 1) dX6_needStick_4 rfl rfl ?_
    refine j_aload_n C (q := 0) dX6_needStick_5 rfl rfl ?_
    refine fg_X6_12 C (i := 0) kA_0 dX6_needStick_6 ?_
    refine fg_X6_236 C (i := 1) kA_1 dX6_needStick_9 ?_
    refine j_icmp_lt C (tgt := 25) dX6_needStick_12 (by decide) (fun c22 => ?_) (fun c22 => ?_)
    · have h := ite_t h c22
      exact j_vret C hr hlk h ⟨Nat.le_of_ble_eq_true rfl, Nat.le_of_ble_eq_true rfl⟩ dX6_needStick_25
    · have h := ite_f h c22
      exact (no_some h).elim
set_option maxRecDepth 100000 in
set_option maxHeartbeats 4000000 in
theorem c_X6_burn (l : Launch) (G : GG) (B dy : Nat) (x1 : Int32) (t0 : St) {r : Int32} {t9 : St} (h : f_X6_burn x1 t0 = some (r, t9)) : Ct l G B dy yX6_burn cX6_burn 3 (some .int) 4 88 0 0 [.ref (B + 0), .int x1] t0 (PostI G B r t9) := by
  refine Ct_of (by decide +kernel) [(0, .ref (B + 0)), (1, .int x1)] (Nat.le_of_ble_eq_true rfl) rfl ?_
  intro p e s m args below meth c C hr hlk
  refine j_aload_n C (q := 0) dX6_burn_0 rfl rfl ?_
  refine j_iload_n C (q := 1) dX6_burn_1 rfl rfl ?_
  obtain ⟨t22, e23, h⟩ := bv_some h
  refine j_callV_v C (i := 0) (As := [.int x1]) (rest := []) (c_X6_needStick l G B dy x1 _ e23) (shp6 G B _ kA_0) (kd_lt kA_0 (by decide)) rfl tw_227 tw_229 tp_0 ti_6 tw_230 hd_X6_needStick ⟨Nat.le_of_ble_eq_true rfl, Nat.le_of_ble_eq_true rfl⟩ ⟨Nat.le_of_ble_eq_true rfl, Nat.le_of_ble_eq_true rfl⟩ rfl rfl (Nat.le_of_ble_eq_true rfl) dX6_burn_2 ?_
  refine j_aload_n C (q := 0) dX6_burn_5 rfl rfl ?_
  refine fg_X6_19 C (i := 0) kA_0 dX6_burn_6 ?_
  refine j_aload_n C (q := 0) dX6_burn_9 rfl rfl ?_
  refine fg_X6_12 C (i := 0) kA_0 dX6_burn_10 ?_
  obtain ⟨t25, e26, h⟩ := bv_some h
  refine j_callV_v C (i := 20) (As := [.ref (B + 1)]) (rest := []) (c_X1_save l G B dy 1 kA_1 _ e26) (shp1 G B _ kA_20) (kd_lt kA_20 (by decide)) rfl tw_510 tw_511 tw_512 ti_1 tw_513 hd_X1_save ⟨Nat.le_of_ble_eq_true rfl, Nat.le_of_ble_eq_true rfl⟩ ⟨Nat.le_of_ble_eq_true rfl, Nat.le_of_ble_eq_true rfl⟩ rfl rfl (Nat.le_of_ble_eq_true rfl) dX6_burn_13 ?_
  refine j_aload_n C (q := 0) dX6_burn_16 rfl rfl ?_
  refine fg_X6_12 C (i := 0) kA_0 dX6_burn_17 ?_
  refine fg_X6_139 C (i := 1) kA_1 dX6_burn_20 ?_
  refine j_iload_n C (q := 1) dX6_burn_23 rfl rfl ?_
  obtain ⟨x27, t28, e29, h⟩ := bd_some h
  refine j_callV_i C (i := 12) (As := [.int x1]) (rest := []) (c_X4_at l G B dy 12 kA_12 x1 _ e29) (shp4 G B _ kA_12) (kd_lt kA_12 (by decide)) rfl tw_322 tw_323 tw_324 ti_4 tw_325 hd_X4_at ⟨Nat.le_of_ble_eq_true rfl, Nat.le_of_ble_eq_true rfl⟩ ⟨Nat.le_of_ble_eq_true rfl, Nat.le_of_ble_eq_true rfl⟩ rfl rfl (Nat.le_of_ble_eq_true rfl) dX6_burn_24 ?_
  refine j_istore_n C [(0, .ref (B + 0)), (1, .int x1), (2, .int x27)] [1, 2, 0] dX6_burn_27 rfl (by decide) rfl ?_
  refine j_aload_n C (q := 0) dX6_burn_28 rfl rfl ?_
  refine fg_X6_12 C (i := 0) kA_0 dX6_burn_29 ?_
  refine j_iload_n C (q := 1) dX6_burn_32 rfl rfl ?_
  obtain ⟨t31, e32, h⟩ := bv_some h
  refine j_callV_v C (i := 1) (As := [.int x1]) (rest := []) (c_X5_dropStick l G B dy 1 kA_1 x1 _ e32) (shp5 G B _ kA_1) (kd_lt kA_1 (by decide)) rfl tw_580 tw_581 tw_582 ti_5 tw_583 hd_X5_dropStick ⟨Nat.le_of_ble_eq_true rfl, Nat.le_of_ble_eq_true rfl⟩ ⟨Nat.le_of_ble_eq_true rfl, Nat.le_of_ble_eq_true rfl⟩ rfl rfl (Nat.le_of_ble_eq_true rfl) dX6_burn_33 ?_
  refine j_iload_n C (q := 2) dX6_burn_36 rfl rfl ?_
  exact j_iret C hr hlk h ⟨Nat.le_of_ble_eq_true rfl, Nat.le_of_ble_eq_true rfl⟩ dX6_burn_37
set_option maxRecDepth 100000 in
set_option maxHeartbeats 4000000 in
theorem c_X6_set (l : Launch) (G : GG) (B dy : Nat) (x1 : Int32) (t0 : St) {r : Int32} {t9 : St} (h : f_X6_set x1 t0 = some (r, t9)) : Ct l G B dy yX6_set cX6_set 3 (some .int) 4 86 0 0 [.ref (B + 0), .int x1] t0 (PostI G B r t9) := by
  refine Ct_of (by decide +kernel) [(0, .ref (B + 0)), (1, .int x1)] (Nat.le_of_ble_eq_true rfl) rfl ?_
  intro p e s m args below meth c C hr hlk
  refine j_iload_n C (q := 1) dX6_set_0 rfl rfl ?_
  refine j_bipush C (v := 50) dX6_set_1 (by decide) ?_
  refine j_sipush C (v := 400) dX6_set_3 (by decide) ?_
  obtain ⟨t22, e23, h⟩ := bv_some h
  refine j_callS_v C (i := 0) (As := [.int x1, .int 50, .int 400]) (rest := []) (c_X6_needWithin l G B dy x1 50 400 _ e23) tw_299 tw_300 ti_6 tw_301 ⟨rfl, hd_X6_needWithin⟩ ⟨Nat.le_of_ble_eq_true rfl, Nat.le_of_ble_eq_true rfl⟩ ⟨Nat.le_of_ble_eq_true rfl, Nat.le_of_ble_eq_true rfl⟩ rfl rfl (Nat.le_of_ble_eq_true rfl) dX6_set_6 ?_
  refine j_aload_n C (q := 0) dX6_set_9 rfl rfl ?_
  refine fg_X6_19 C (i := 0) kA_0 dX6_set_10 ?_
  refine j_aload_n C (q := 0) dX6_set_13 rfl rfl ?_
  refine fg_X6_12 C (i := 0) kA_0 dX6_set_14 ?_
  obtain ⟨t25, e26, h⟩ := bv_some h
  refine j_callV_v C (i := 20) (As := [.ref (B + 1)]) (rest := []) (c_X1_save l G B dy 1 kA_1 _ e26) (shp1 G B _ kA_20) (kd_lt kA_20 (by decide)) rfl tw_510 tw_511 tw_512 ti_1 tw_513 hd_X1_save ⟨Nat.le_of_ble_eq_true rfl, Nat.le_of_ble_eq_true rfl⟩ ⟨Nat.le_of_ble_eq_true rfl, Nat.le_of_ble_eq_true rfl⟩ rfl rfl (Nat.le_of_ble_eq_true rfl) dX6_set_17 ?_
  refine j_aload_n C (q := 0) dX6_set_20 rfl rfl ?_
  refine fg_X6_12 C (i := 0) kA_0 dX6_set_21 ?_
  refine fg_X6_145 C (i := 1) kA_1 dX6_set_24 ?_
  refine j_topi (fun x27 ex27 => ?_)
  have h := lt_at h ex27
  refine j_istore_n C [(0, .ref (B + 0)), (1, .int x1), (2, .int x27)] [1, 2, 0] dX6_set_27 rfl (by decide) rfl ?_
  refine j_aload_n C (q := 0) dX6_set_28 rfl rfl ?_
  refine fg_X6_12 C (i := 0) kA_0 dX6_set_29 ?_
  refine j_iload_n C (q := 1) dX6_set_32 rfl rfl ?_
  refine fp_X6_145 C (i := 1) kA_1 dX6_set_33 ?_
  refine j_tops (fun t28 et28 => ?_)
  have h := lt_at h et28
  refine j_iload_n C (q := 2) dX6_set_36 rfl rfl ?_
  exact j_iret C hr hlk h ⟨Nat.le_of_ble_eq_true rfl, Nat.le_of_ble_eq_true rfl⟩ dX6_set_37
set_option maxRecDepth 100000 in
set_option maxHeartbeats 4000000 in
theorem c_X6_append (l : Launch) (G : GG) (B dy : Nat) (x1 : Int32) (t0 : St) {r : Int32} {t9 : St} (h : f_X6_append x1 t0 = some (r, t9)) : Ct l G B dy yX6_append cX6_append 2 (some .int) 1 22 0 0 [.ref (B + 0), .int x1] t0 (PostI G B r t9) := by
  refine Ct_of (by decide +kernel) [(0, .ref (B + 0)), (1, .int x1)] (Nat.le_of_ble_eq_true rfl) rfl ?_
  intro p e s m args below meth c C hr hlk
  refine j_iload_n C (q := 1) dX6_append_0 rfl rfl ?_
  refine j_bipush C (v := 33) dX6_append_1 (by decide) ?_
  refine j_bipush C (v := 126) dX6_append_3 (by decide) ?_
  obtain ⟨t22, e23, h⟩ := bv_some h
  refine j_callS_v C (i := 0) (As := [.int x1, .int 33, .int 126]) (rest := []) (c_X6_needWithin l G B dy x1 33 126 _ e23) tw_299 tw_300 ti_6 tw_301 ⟨rfl, hd_X6_needWithin⟩ ⟨Nat.le_of_ble_eq_true rfl, Nat.le_of_ble_eq_true rfl⟩ ⟨Nat.le_of_ble_eq_true rfl, Nat.le_of_ble_eq_true rfl⟩ rfl rfl (Nat.le_of_ble_eq_true rfl) dX6_append_5 ?_
  refine j_aload_n C (q := 0) dX6_append_8 rfl rfl ?_
  refine fg_X6_64 C (i := 0) kA_0 dX6_append_9 ?_
  refine j_bipush C (v := 60) dX6_append_12 (by decide) ?_
  refine j_icmp_lt C (tgt := 27) dX6_append_14 (by decide) (fun c24 => ?_) (fun c24 => ?_)
  · have h := ite_t h c24
    refine j_aload_n C (q := 0) dX6_append_27 rfl rfl ?_
    refine fg_X6_28 C (i := 0) kA_0 dX6_append_28 ?_
    refine j_aload_n C (q := 0) dX6_append_31 rfl rfl ?_
    refine fg_X6_64 C (i := 0) kA_0 dX6_append_32 ?_
    refine j_iload_n C (q := 1) dX6_append_35 rfl rfl ?_
    obtain ⟨t26, e27, h⟩ := bv_some h
    refine j_callV_v C (i := 136) (As := [.int (t22.1 0 8), .int x1]) (rest := []) (c_X4_put l G B dy 136 kA_136 (t22.1 0 8) x1 _ e27) (shp4 G B _ kA_136) (kd_lt kA_136 (by decide)) rfl tw_437 tw_376 tw_377 ti_4 tw_378 hd_X4_put ⟨Nat.le_of_ble_eq_true rfl, Nat.le_of_ble_eq_true rfl⟩ ⟨Nat.le_of_ble_eq_true rfl, Nat.le_of_ble_eq_true rfl⟩ rfl rfl (Nat.le_of_ble_eq_true rfl) dX6_append_36 ?_
    refine j_aload_n C (q := 0) dX6_append_39 rfl rfl ?_
    refine j_dup C dX6_append_40 rfl ?_
    refine fg_X6_64 C (i := 0) kA_0 dX6_append_41 ?_
    refine j_iconst C (v := 1) dX6_append_44 (by decide) ?_
    refine j_iadd C dX6_append_45 ?_
    refine fp_X6_64 C (i := 0) kA_0 dX6_append_46 ?_
    refine j_tops (fun t28 et28 => ?_)
    have h := lt_at h et28
    refine j_aload_n C (q := 0) dX6_append_49 rfl rfl ?_
    refine fg_X6_64 C (i := 0) kA_0 dX6_append_50 ?_
    exact j_iret C hr hlk h ⟨Nat.le_of_ble_eq_true rfl, Nat.le_of_ble_eq_true rfl⟩ dX6_append_53
  · have h := ite_f h c24
    exact (no_some h).elim
set_option maxRecDepth 100000 in
set_option maxHeartbeats 4000000 in
theorem c_X6_undo (l : Launch) (G : GG) (B dy : Nat) (t0 : St) {r : Int32} {t9 : St} (h : f_X6_undo t0 = some (r, t9)) : Ct l G B dy yX6_undo cX6_undo 1 (some .int) 4 86 0 0 [.ref (B + 0)] t0 (PostI G B r t9) := by
  refine Ct_of (by decide +kernel) [(0, .ref (B + 0))] (Nat.le_of_ble_eq_true rfl) rfl ?_
  intro p e s m args below meth c C hr hlk
  refine j_aload_n C (q := 0) dX6_undo_0 rfl rfl ?_
  refine fg_X6_19 C (i := 0) kA_0 dX6_undo_1 ?_
  obtain ⟨x21, t22, e23, h⟩ := bd_some h
  refine j_callV_i C (i := 20) (As := []) (rest := []) (c_X1_isEmpty l G B dy _ e23) (shp1 G B _ kA_20) (kd_lt kA_20 (by decide)) rfl tw_682 tw_683 tw_684 ti_1 tw_685 hd_X1_isEmpty ⟨Nat.le_of_ble_eq_true rfl, Nat.le_of_ble_eq_true rfl⟩ ⟨Nat.le_of_ble_eq_true rfl, Nat.le_of_ble_eq_true rfl⟩ rfl rfl (Nat.le_of_ble_eq_true rfl) dX6_undo_4 ?_
  refine j_if_eq C (tgt := 20) dX6_undo_7 (by decide) (fun c24 => ?_) (fun c24 => ?_)
  · have h := ite_t h c24
    refine j_aload_n C (q := 0) dX6_undo_20 rfl rfl ?_
    refine fg_X6_19 C (i := 0) kA_0 dX6_undo_21 ?_
    refine j_aload_n C (q := 0) dX6_undo_24 rfl rfl ?_
    refine fg_X6_12 C (i := 0) kA_0 dX6_undo_25 ?_
    obtain ⟨t26, e27, h⟩ := bv_some h
    refine j_callV_v C (i := 20) (As := [.ref (B + 1)]) (rest := []) (c_X1_restoreInto l G B dy 1 kA_1 _ e27) (shp1 G B _ kA_20) (kd_lt kA_20 (by decide)) rfl tw_687 tw_688 tw_689 ti_1 tw_690 hd_X1_restoreInto ⟨Nat.le_of_ble_eq_true rfl, Nat.le_of_ble_eq_true rfl⟩ ⟨Nat.le_of_ble_eq_true rfl, Nat.le_of_ble_eq_true rfl⟩ rfl rfl (Nat.le_of_ble_eq_true rfl) dX6_undo_28 ?_
    refine j_aload_n C (q := 0) dX6_undo_31 rfl rfl ?_
    refine fg_X6_19 C (i := 0) kA_0 dX6_undo_32 ?_
    obtain ⟨x28, t29, e30, h⟩ := bd_some h
    refine j_callV_i C (i := 20) (As := []) (rest := []) (c_X1_size l G B dy _ e30) (shp1 G B _ kA_20) (kd_lt kA_20 (by decide)) rfl tw_400 tw_401 tw_402 ti_1 tw_403 hd_X1_size ⟨Nat.le_of_ble_eq_true rfl, Nat.le_of_ble_eq_true rfl⟩ ⟨Nat.le_of_ble_eq_true rfl, Nat.le_of_ble_eq_true rfl⟩ rfl rfl (Nat.le_of_ble_eq_true rfl) dX6_undo_35 ?_
    exact j_iret C hr hlk h ⟨Nat.le_of_ble_eq_true rfl, Nat.le_of_ble_eq_true rfl⟩ dX6_undo_38
  · have h := ite_f h c24
    exact (no_some h).elim
set_option maxRecDepth 100000 in
set_option maxHeartbeats 4000000 in
theorem c_X6_lowestFeastOn (l : Launch) (G : GG) (B dy : Nat) (x1 : Int32) (x2 : Int32) (t0 : St) {r : Int32} {t9 : St} (h : f_X6_lowestFeastOn x1 x2 t0 = some (r, t9)) : Ct l G B dy yX6_lowestFeastOn cX6_lowestFeastOn 4 (some .int) 5 117 0 0 [.ref (B + 0), .int x1, .int x2] t0 (PostI G B r t9) := by
  refine Ct_of (by decide +kernel) [(0, .ref (B + 0)), (1, .int x1), (2, .int x2)] (Nat.le_of_ble_eq_true rfl) rfl ?_
  intro p e s m args below meth c C hr hlk
  have J14 : ∀ (n14 : Nat) (y3 : Int32) (t0 : St), f_X6_lowestFeastOn_l14 n14 x2 y3 t0 = some (r, t9) → WW G B p l e (RM 5 117 0 0) s m args below meth c 0 0 (MQ below (PostI G B r t9) args s 0 0 (Ab B)) 4 14 [(0, .ref (B + 0)), (2, .int x2), (3, .int y3)] [] t0 := by
    intro n14
    induction n14 with
    | zero => intro y3 t0 h; exact (no_some h).elim
    | succ n14 ih14 =>
      try clear h
      intro y3 t0 h
      have h : f_X6_lowestFeastOn_b14 (f_X6_lowestFeastOn_l14 n14) x2 y3 t0 = some (r, t9) := h
      refine j_iload_n C (q := 2) dX6_lowestFeastOn_14 rfl rfl ?_
      refine j_aload_n C (q := 0) dX6_lowestFeastOn_15 rfl rfl ?_
      refine fg_X6_12 C (i := 0) kA_0 dX6_lowestFeastOn_16 ?_
      refine fg_X6_87 C (i := 1) kA_1 dX6_lowestFeastOn_19 ?_
      refine j_icmp_ge C (tgt := 45) dX6_lowestFeastOn_22 (by decide) (fun c21 => ?_) (fun c21 => ?_)
      · have h := ite_t h c21
        refine j_iconst C (v := (-1)) dX6_lowestFeastOn_45 (by decide) ?_
        exact j_iret C hr hlk h ⟨Nat.le_of_ble_eq_true rfl, Nat.le_of_ble_eq_true rfl⟩ dX6_lowestFeastOn_46
      · have h := ite_f h c21
        refine j_aload_n C (q := 0) dX6_lowestFeastOn_25 rfl rfl ?_
        refine fg_X6_49 C (i := 0) kA_0 dX6_lowestFeastOn_26 ?_
        refine j_iload_n C (q := 2) dX6_lowestFeastOn_29 rfl rfl ?_
        obtain ⟨x22, t23, e24, h⟩ := bd_some h
        refine j_callV_i C (i := 144) (As := [.int y3]) (rest := []) (c_X0_settledNotch l G B dy 144 kA_144 y3 _ e24) (shp0 G B _ kA_144) (kd_lt kA_144 (by decide)) rfl tw_628 tw_629 tw_630 ti_0 tw_631 hd_X0_settledNotch ⟨Nat.le_of_ble_eq_true rfl, Nat.le_of_ble_eq_true rfl⟩ ⟨Nat.le_of_ble_eq_true rfl, Nat.le_of_ble_eq_true rfl⟩ rfl rfl (Nat.le_of_ble_eq_true rfl) dX6_lowestFeastOn_30 ?_
        refine j_iload_n C (q := 1) dX6_lowestFeastOn_33 rfl rfl ?_
        refine j_icmp_ne C (tgt := 39) dX6_lowestFeastOn_34 (by decide) (fun c25 => ?_) (fun c25 => ?_)
        · have h := ite_t h c25
          refine j_iload_n C (q := 2) dX6_lowestFeastOn_37 rfl rfl ?_
          exact j_iret C hr hlk h ⟨Nat.le_of_ble_eq_true rfl, Nat.le_of_ble_eq_true rfl⟩ dX6_lowestFeastOn_38
        · have h := ite_f h c25
          obtain ⟨x26, ex26⟩ : ∃ y : Int32, y = (y3 + 1) := ⟨_, rfl⟩
          have h := lt_at h ex26
          refine j_iinc C (q := 2) [(0, .ref (B + 0)), (2, .int x2), (3, .int x26)] [1, 2, 0] dX6_lowestFeastOn_39 rfl (by rw [ex26]; rfl) (by decide) rfl ?_
          refine j_goto C (tgt := 14) dX6_lowestFeastOn_42 (by decide) ?_
          exact ih14 x26 _ h
  refine j_aload_n C (q := 0) dX6_lowestFeastOn_0 rfl rfl ?_
  refine fg_X6_49 C (i := 0) kA_0 dX6_lowestFeastOn_1 ?_
  refine j_aload_n C (q := 0) dX6_lowestFeastOn_4 rfl rfl ?_
  refine fg_X6_12 C (i := 0) kA_0 dX6_lowestFeastOn_5 ?_
  refine j_iload_n C (q := 1) dX6_lowestFeastOn_8 rfl rfl ?_
  obtain ⟨t28, e29, h⟩ := bv_some h
  refine j_callV_v C (i := 144) (As := [.ref (B + 1), .int x1]) (rest := []) (c_X0_gather l G B dy 144 kA_144 1 kA_1 x1 _ e29) (shp0 G B _ kA_144) (kd_lt kA_144 (by decide)) rfl tw_618 tw_619 tw_620 ti_0 tw_621 hd_X0_gather ⟨Nat.le_of_ble_eq_true rfl, Nat.le_of_ble_eq_true rfl⟩ ⟨Nat.le_of_ble_eq_true rfl, Nat.le_of_ble_eq_true rfl⟩ rfl rfl (Nat.le_of_ble_eq_true rfl) dX6_lowestFeastOn_9 ?_
  refine j_iconst C (v := 0) dX6_lowestFeastOn_12 (by decide) ?_
  refine j_istore_n C [(0, .ref (B + 0)), (1, .int x1), (2, .int x2), (3, .int 0)] [1, 2, 3, 0] dX6_lowestFeastOn_13 rfl (by decide) rfl ?_
  refine j_sub [0, 2, 3] rfl ?_
  exact J14 FU 0 _ h
set_option maxRecDepth 100000 in
set_option maxHeartbeats 4000000 in
theorem c_X6_day (l : Launch) (G : GG) (B dy : Nat) (x1 : Int32) (x2 : Int32) (x3 : Int32) (t0 : St) {r : Int32} {t9 : St} (h : f_X6_day x1 x2 x3 t0 = some (r, t9)) : Ct l G B dy yX6_day cX6_day 4 (some .int) 6 140 0 0 [.ref (B + 0), .int x1, .int x2, .int x3] t0 (PostI G B r t9) := by
  refine Ct_of (by decide +kernel) [(0, .ref (B + 0)), (1, .int x1), (2, .int x2), (3, .int x3)] (Nat.le_of_ble_eq_true rfl) rfl ?_
  intro p e s m args below meth c C hr hlk
  refine j_iload_n C (q := 1) dX6_day_0 rfl rfl ?_
  obtain ⟨t22, e23, h⟩ := bv_some h
  refine j_callS_v C (i := 0) (As := [.int x1]) (rest := []) (c_X6_needYear l G B dy x1 _ e23) tw_565 tw_566 ti_6 tw_567 ⟨rfl, hd_X6_needYear⟩ ⟨Nat.le_of_ble_eq_true rfl, Nat.le_of_ble_eq_true rfl⟩ ⟨Nat.le_of_ble_eq_true rfl, Nat.le_of_ble_eq_true rfl⟩ rfl rfl (Nat.le_of_ble_eq_true rfl) dX6_day_1 ?_
  refine j_iload_n C (q := 2) dX6_day_4 rfl rfl ?_
  refine j_iconst C (v := 0) dX6_day_5 (by decide) ?_
  refine j_sipush C (v := 365) dX6_day_6 (by decide) ?_
  obtain ⟨t25, e26, h⟩ := bv_some h
  refine j_callS_v C (i := 0) (As := [.int x2, .int 0, .int 365]) (rest := []) (c_X6_needWithin l G B dy x2 0 365 _ e26) tw_299 tw_300 ti_6 tw_301 ⟨rfl, hd_X6_needWithin⟩ ⟨Nat.le_of_ble_eq_true rfl, Nat.le_of_ble_eq_true rfl⟩ ⟨Nat.le_of_ble_eq_true rfl, Nat.le_of_ble_eq_true rfl⟩ rfl rfl (Nat.le_of_ble_eq_true rfl) dX6_day_9 ?_
  refine j_iload_n C (q := 3) dX6_day_12 rfl rfl ?_
  refine j_iconst C (v := 0) dX6_day_13 (by decide) ?_
  refine j_iconst C (v := 2) dX6_day_14 (by decide) ?_
  obtain ⟨t28, e29, h⟩ := bv_some h
  refine j_callS_v C (i := 0) (As := [.int x3, .int 0, .int 2]) (rest := []) (c_X6_needWithin l G B dy x3 0 2 _ e29) tw_299 tw_300 ti_6 tw_301 ⟨rfl, hd_X6_needWithin⟩ ⟨Nat.le_of_ble_eq_true rfl, Nat.le_of_ble_eq_true rfl⟩ ⟨Nat.le_of_ble_eq_true rfl, Nat.le_of_ble_eq_true rfl⟩ rfl rfl (Nat.le_of_ble_eq_true rfl) dX6_day_15 ?_
  refine j_iload_n C (q := 2) dX6_day_18 rfl rfl ?_
  refine j_iload_n C (q := 1) dX6_day_19 rfl rfl ?_
  obtain ⟨x30, t31, e32, h⟩ := bd_some h
  refine j_callS_i C (i := 0) (As := [.int x1]) (rest := [.int x2]) (c_X6_daysIn l G B dy x1 _ e32) tw_610 tw_344 ti_6 tw_345 ⟨rfl, hd_X6_daysIn⟩ ⟨Nat.le_of_ble_eq_true rfl, Nat.le_of_ble_eq_true rfl⟩ ⟨Nat.le_of_ble_eq_true rfl, Nat.le_of_ble_eq_true rfl⟩ rfl rfl (Nat.le_of_ble_eq_true rfl) dX6_day_20 ?_
  refine j_icmp_lt C (tgt := 28) dX6_day_23 (by decide) (fun c33 => ?_) (fun c33 => ?_)
  · have h := ite_t h c33
    refine j_iload_n C (q := 3) dX6_day_28 rfl rfl ?_
    by_cases c34 : x3 = 0
    · have h := ite_t h c34
      refine j_lookup C (off := 27) (tgt := 56) dX6_day_29 (by decide) (sw_off c34 rfl) (by decide) ?_
      refine j_iload_n C (q := 1) dX6_day_56 rfl rfl ?_
      obtain ⟨x35, t36, e37, h⟩ := bd_some h
      refine j_callS_i C (i := 0) (As := [.int x1]) (rest := []) (c_X6_newYearWeekday l G B dy x1 _ e37) tw_611 tw_350 ti_6 tw_351 ⟨rfl, hd_X6_newYearWeekday⟩ ⟨Nat.le_of_ble_eq_true rfl, Nat.le_of_ble_eq_true rfl⟩ ⟨Nat.le_of_ble_eq_true rfl, Nat.le_of_ble_eq_true rfl⟩ rfl rfl (Nat.le_of_ble_eq_true rfl) dX6_day_57 ?_
      refine j_iload_n C (q := 2) dX6_day_60 rfl rfl ?_
      refine j_iadd C dX6_day_61 ?_
      refine j_bipush C (v := 7) dX6_day_62 (by decide) ?_
      refine j_irem C dX6_day_64 (by decide) ?_
      exact j_iret C hr hlk h ⟨Nat.le_of_ble_eq_true rfl, Nat.le_of_ble_eq_true rfl⟩ dX6_day_65
    · have h := ite_f h c34
      by_cases c38 : x3 = 1
      · have h := ite_t h c38
        refine j_lookup C (off := 37) (tgt := 66) dX6_day_29 (by decide) (sw_off c38 rfl) (by decide) ?_
        refine j_iload_n C (q := 1) dX6_day_66 rfl rfl ?_
        refine j_aload_n C (q := 0) dX6_day_67 rfl rfl ?_
        refine fg_X6_12 C (i := 0) kA_0 dX6_day_68 ?_
        refine fg_X6_116 C (i := 1) kA_1 dX6_day_71 ?_
        refine j_iconst C (v := 0) dX6_day_74 (by decide) ?_
        obtain ⟨x39, t40, e41, h⟩ := bd_some h
        refine j_callV_i C (i := 10) (As := [.int 0]) (rest := [.int x1]) (c_X4_at l G B dy 10 kA_10 0 _ e41) (shp4 G B _ kA_10) (kd_lt kA_10 (by decide)) rfl tw_322 tw_323 tw_324 ti_4 tw_325 hd_X4_at ⟨Nat.le_of_ble_eq_true rfl, Nat.le_of_ble_eq_true rfl⟩ ⟨Nat.le_of_ble_eq_true rfl, Nat.le_of_ble_eq_true rfl⟩ rfl rfl (Nat.le_of_ble_eq_true rfl) dX6_day_75 ?_
        refine j_aload_n C (q := 0) dX6_day_78 rfl rfl ?_
        refine fg_X6_12 C (i := 0) kA_0 dX6_day_79 ?_
        refine fg_X6_145 C (i := 1) kA_1 dX6_day_82 ?_
        obtain ⟨x42, t43, e44, h⟩ := bd_some h
        refine j_callS_i C (i := 0) (As := [.int x1, .int x39, .int (t40.1 1 6)]) (rest := []) (c_X6_moonShift l G B dy x1 x39 (t40.1 1 6) _ e44) tw_612 tw_353 ti_6 tw_354 ⟨rfl, hd_X6_moonShift⟩ ⟨Nat.le_of_ble_eq_true rfl, Nat.le_of_ble_eq_true rfl⟩ ⟨Nat.le_of_ble_eq_true rfl, Nat.le_of_ble_eq_true rfl⟩ rfl rfl (Nat.le_of_ble_eq_true rfl) dX6_day_85 ?_
        refine j_iload_n C (q := 2) dX6_day_88 rfl rfl ?_
        obtain ⟨x45, t46, e47, h⟩ := bd_some h
        refine j_callS_i C (i := 0) (As := [.int x42, .int x2]) (rest := []) (c_X6_moonAge l G B dy x42 x2 _ e47) tw_613 tw_369 ti_6 tw_370 ⟨rfl, hd_X6_moonAge⟩ ⟨Nat.le_of_ble_eq_true rfl, Nat.le_of_ble_eq_true rfl⟩ ⟨Nat.le_of_ble_eq_true rfl, Nat.le_of_ble_eq_true rfl⟩ rfl rfl (Nat.le_of_ble_eq_true rfl) dX6_day_89 ?_
        exact j_iret C hr hlk h ⟨Nat.le_of_ble_eq_true rfl, Nat.le_of_ble_eq_true rfl⟩ dX6_day_92
      · have h := ite_f h c38
        refine j_lookup C (off := 64) (tgt := 93) dX6_day_29 (by decide) ((lv_osw c34 (by decide)).trans ((lv_osw c38 (by decide)).trans rfl)) (by decide) ?_
        refine j_aload_n C (q := 0) dX6_day_93 rfl rfl ?_
        refine j_iload_n C (q := 1) dX6_day_94 rfl rfl ?_
        refine j_iload_n C (q := 2) dX6_day_95 rfl rfl ?_
        obtain ⟨x48, t49, e50, h⟩ := bd_some h
        refine j_callV_i C (i := 0) (As := [.int x1, .int x2]) (rest := []) (c_X6_lowestFeastOn l G B dy x1 x2 _ e50) (shp6 G B _ kA_0) (kd_lt kA_0 (by decide)) rfl tw_614 tw_616 tp_29 ti_6 tw_617 hd_X6_lowestFeastOn ⟨Nat.le_of_ble_eq_true rfl, Nat.le_of_ble_eq_true rfl⟩ ⟨Nat.le_of_ble_eq_true rfl, Nat.le_of_ble_eq_true rfl⟩ rfl rfl (Nat.le_of_ble_eq_true rfl) dX6_day_96 ?_
        exact j_iret C hr hlk h ⟨Nat.le_of_ble_eq_true rfl, Nat.le_of_ble_eq_true rfl⟩ dX6_day_99
  · have h := ite_f h c33
    refine j_iconst C (v := (-1)) dX6_day_26 (by decide) ?_
    exact j_iret C hr hlk h ⟨Nat.le_of_ble_eq_true rfl, Nat.le_of_ble_eq_true rfl⟩ dX6_day_27
set_option maxRecDepth 100000 in
set_option maxHeartbeats 4000000 in
theorem c_X6_feastProperty (l : Launch) (G : GG) (B dy : Nat) (x1 : Int32) (x2 : Int32) (t0 : St) {r : Int32} {t9 : St} (h : f_X6_feastProperty x1 x2 t0 = some (r, t9)) : Ct l G B dy yX6_feastProperty cX6_feastProperty 3 (some .int) 1 21 0 0 [.ref (B + 0), .int x1, .int x2] t0 (PostI G B r t9) := by
  refine Ct_of (by decide +kernel) [(0, .ref (B + 0)), (1, .int x1), (2, .int x2)] (Nat.le_of_ble_eq_true rfl) rfl ?_
  intro p e s m args below meth c C hr hlk
  refine j_iload_n C (q := 2) dX6_feastProperty_0 rfl rfl ?_
  by_cases c21 : x2 = 0
  · have h := ite_t h c21
    refine j_tableIn C (tgt := 28) dX6_feastProperty_1 (by rw [c21]; decide) (by rw [c21]; decide) (by rw [c21]; rfl) (by decide) ?_
    refine j_aload_n C (q := 0) dX6_feastProperty_28 rfl rfl ?_
    refine fg_X6_12 C (i := 0) kA_0 dX6_feastProperty_29 ?_
    refine fg_X6_278 C (i := 1) kA_1 dX6_feastProperty_32 ?_
    refine j_iload_n C (q := 1) dX6_feastProperty_35 rfl rfl ?_
    obtain ⟨x22, t23, e24, h⟩ := bd_some h
    refine j_callV_i C (i := 2) (As := [.int x1]) (rest := []) (c_X4_at l G B dy 2 kA_2 x1 _ e24) (shp4 G B _ kA_2) (kd_lt kA_2 (by decide)) rfl tw_322 tw_323 tw_324 ti_4 tw_325 hd_X4_at ⟨Nat.le_of_ble_eq_true rfl, Nat.le_of_ble_eq_true rfl⟩ ⟨Nat.le_of_ble_eq_true rfl, Nat.le_of_ble_eq_true rfl⟩ rfl rfl (Nat.le_of_ble_eq_true rfl) dX6_feastProperty_36 ?_
    exact j_iret C hr hlk h ⟨Nat.le_of_ble_eq_true rfl, Nat.le_of_ble_eq_true rfl⟩ dX6_feastProperty_39
  · have h := ite_f h c21
    by_cases c25 : x2 = 1
    · have h := ite_t h c25
      refine j_tableIn C (tgt := 40) dX6_feastProperty_1 (by rw [c25]; decide) (by rw [c25]; decide) (by rw [c25]; rfl) (by decide) ?_
      refine j_aload_n C (q := 0) dX6_feastProperty_40 rfl rfl ?_
      refine fg_X6_12 C (i := 0) kA_0 dX6_feastProperty_41 ?_
      refine fg_X6_102 C (i := 1) kA_1 dX6_feastProperty_44 ?_
      refine j_iload_n C (q := 1) dX6_feastProperty_47 rfl rfl ?_
      obtain ⟨x26, t27, e28, h⟩ := bd_some h
      refine j_callV_i C (i := 4) (As := [.int x1]) (rest := []) (c_X4_at l G B dy 4 kA_4 x1 _ e28) (shp4 G B _ kA_4) (kd_lt kA_4 (by decide)) rfl tw_322 tw_323 tw_324 ti_4 tw_325 hd_X4_at ⟨Nat.le_of_ble_eq_true rfl, Nat.le_of_ble_eq_true rfl⟩ ⟨Nat.le_of_ble_eq_true rfl, Nat.le_of_ble_eq_true rfl⟩ rfl rfl (Nat.le_of_ble_eq_true rfl) dX6_feastProperty_48 ?_
      exact j_iret C hr hlk h ⟨Nat.le_of_ble_eq_true rfl, Nat.le_of_ble_eq_true rfl⟩ dX6_feastProperty_51
    · have h := ite_f h c25
      by_cases c29 : x2 = 2
      · have h := ite_t h c29
        refine j_tableIn C (tgt := 52) dX6_feastProperty_1 (by rw [c29]; decide) (by rw [c29]; decide) (by rw [c29]; rfl) (by decide) ?_
        refine j_aload_n C (q := 0) dX6_feastProperty_52 rfl rfl ?_
        refine fg_X6_12 C (i := 0) kA_0 dX6_feastProperty_53 ?_
        refine fg_X6_278 C (i := 1) kA_1 dX6_feastProperty_56 ?_
        refine j_iload_n C (q := 1) dX6_feastProperty_59 rfl rfl ?_
        obtain ⟨x30, t31, e32, h⟩ := bd_some h
        refine j_callV_i C (i := 2) (As := [.int x1]) (rest := []) (c_X4_at l G B dy 2 kA_2 x1 _ e32) (shp4 G B _ kA_2) (kd_lt kA_2 (by decide)) rfl tw_322 tw_323 tw_324 ti_4 tw_325 hd_X4_at ⟨Nat.le_of_ble_eq_true rfl, Nat.le_of_ble_eq_true rfl⟩ ⟨Nat.le_of_ble_eq_true rfl, Nat.le_of_ble_eq_true rfl⟩ rfl rfl (Nat.le_of_ble_eq_true rfl) dX6_feastProperty_60 ?_
        refine j_iconst C (v := 3) dX6_feastProperty_63 (by decide) ?_
        refine j_icmp_ne C (tgt := 84) dX6_feastProperty_64 (by decide) (fun c33 => ?_) (fun c33 => ?_)
        · have h := ite_t h c33
          refine j_aload_n C (q := 0) dX6_feastProperty_67 rfl rfl ?_
          refine fg_X6_12 C (i := 0) kA_0 dX6_feastProperty_68 ?_
          refine fg_X6_281 C (i := 1) kA_1 dX6_feastProperty_71 ?_
          refine j_iload_n C (q := 1) dX6_feastProperty_74 rfl rfl ?_
          obtain ⟨x37, t38, e39, h⟩ := bd_some h
          refine j_callV_i C (i := 6) (As := [.int x1]) (rest := []) (c_X4_at l G B dy 6 kA_6 x1 _ e39) (shp4 G B _ kA_6) (kd_lt kA_6 (by decide)) rfl tw_322 tw_323 tw_324 ti_4 tw_325 hd_X4_at ⟨Nat.le_of_ble_eq_true rfl, Nat.le_of_ble_eq_true rfl⟩ ⟨Nat.le_of_ble_eq_true rfl, Nat.le_of_ble_eq_true rfl⟩ rfl rfl (Nat.le_of_ble_eq_true rfl) dX6_feastProperty_75 ?_
          refine j_bipush C (v := 90) dX6_feastProperty_78 (by decide) ?_
          refine j_iadd C dX6_feastProperty_80 ?_
          refine j_goto C (tgt := 95) dX6_feastProperty_81 (by decide) ?_
          exact j_iret C hr hlk h ⟨Nat.le_of_ble_eq_true rfl, Nat.le_of_ble_eq_true rfl⟩ dX6_feastProperty_95
        · have h := ite_f h c33
          refine j_aload_n C (q := 0) dX6_feastProperty_84 rfl rfl ?_
          refine fg_X6_12 C (i := 0) kA_0 dX6_feastProperty_85 ?_
          refine fg_X6_281 C (i := 1) kA_1 dX6_feastProperty_88 ?_
          refine j_iload_n C (q := 1) dX6_feastProperty_91 rfl rfl ?_
          obtain ⟨x34, t35, e36, h⟩ := bd_some h
          refine j_callV_i C (i := 6) (As := [.int x1]) (rest := []) (c_X4_at l G B dy 6 kA_6 x1 _ e36) (shp4 G B _ kA_6) (kd_lt kA_6 (by decide)) rfl tw_322 tw_323 tw_324 ti_4 tw_325 hd_X4_at ⟨Nat.le_of_ble_eq_true rfl, Nat.le_of_ble_eq_true rfl⟩ ⟨Nat.le_of_ble_eq_true rfl, Nat.le_of_ble_eq_true rfl⟩ rfl rfl (Nat.le_of_ble_eq_true rfl) dX6_feastProperty_92 ?_
          exact j_iret C hr hlk h ⟨Nat.le_of_ble_eq_true rfl, Nat.le_of_ble_eq_true rfl⟩ dX6_feastProperty_95
      · have h := ite_f h c29
        have nc21 := lv_neT c21 (show (0 : Int32).toInt = 0 by decide)
        have nc25 := lv_neT c25 (show (1 : Int32).toInt = 1 by decide)
        have nc29 := lv_neT c29 (show (2 : Int32).toInt = 2 by decide)
        refine j_tableOut C (x := x2) (tgt := 96) dX6_feastProperty_1 (by omega) (by decide) ?_
        refine j_aload_n C (q := 0) dX6_feastProperty_96 rfl rfl ?_
        refine fg_X6_12 C (i := 0) kA_0 dX6_feastProperty_97 ?_
        refine fg_X6_284 C (i := 1) kA_1 dX6_feastProperty_100 ?_
        refine j_iload_n C (q := 1) dX6_feastProperty_103 rfl rfl ?_
        obtain ⟨x40, t41, e42, h⟩ := bd_some h
        refine j_callV_i C (i := 8) (As := [.int x1]) (rest := []) (c_X4_at l G B dy 8 kA_8 x1 _ e42) (shp4 G B _ kA_8) (kd_lt kA_8 (by decide)) rfl tw_322 tw_323 tw_324 ti_4 tw_325 hd_X4_at ⟨Nat.le_of_ble_eq_true rfl, Nat.le_of_ble_eq_true rfl⟩ ⟨Nat.le_of_ble_eq_true rfl, Nat.le_of_ble_eq_true rfl⟩ rfl rfl (Nat.le_of_ble_eq_true rfl) dX6_feastProperty_104 ?_
        exact j_iret C hr hlk h ⟨Nat.le_of_ble_eq_true rfl, Nat.le_of_ble_eq_true rfl⟩ dX6_feastProperty_107
set_option maxRecDepth 100000 in
set_option maxHeartbeats 4000000 in
theorem c_X6_feast (l : Launch) (G : GG) (B dy : Nat) (x1 : Int32) (x2 : Int32) (t0 : St) {r : Int32} {t9 : St} (h : f_X6_feast x1 x2 t0 = some (r, t9)) : Ct l G B dy yX6_feast cX6_feast 3 (some .int) 2 43 0 0 [.ref (B + 0), .int x1, .int x2] t0 (PostI G B r t9) := by
  refine Ct_of (by decide +kernel) [(0, .ref (B + 0)), (1, .int x1), (2, .int x2)] (Nat.le_of_ble_eq_true rfl) rfl ?_
  intro p e s m args below meth c C hr hlk
  refine j_aload_n C (q := 0) dX6_feast_0 rfl rfl ?_
  refine j_iload_n C (q := 1) dX6_feast_1 rfl rfl ?_
  obtain ⟨t22, e23, h⟩ := bv_some h
  refine j_callV_v C (i := 0) (As := [.int x1]) (rest := []) (c_X6_needFeast l G B dy x1 _ e23) (shp6 G B _ kA_0) (kd_lt kA_0 (by decide)) rfl tw_549 tw_551 tp_26 ti_6 tw_552 hd_X6_needFeast ⟨Nat.le_of_ble_eq_true rfl, Nat.le_of_ble_eq_true rfl⟩ ⟨Nat.le_of_ble_eq_true rfl, Nat.le_of_ble_eq_true rfl⟩ rfl rfl (Nat.le_of_ble_eq_true rfl) dX6_feast_2 ?_
  refine j_iload_n C (q := 2) dX6_feast_5 rfl rfl ?_
  refine j_iconst C (v := 0) dX6_feast_6 (by decide) ?_
  refine j_iconst C (v := 3) dX6_feast_7 (by decide) ?_
  obtain ⟨t25, e26, h⟩ := bv_some h
  refine j_callS_v C (i := 0) (As := [.int x2, .int 0, .int 3]) (rest := []) (c_X6_needWithin l G B dy x2 0 3 _ e26) tw_299 tw_300 ti_6 tw_301 ⟨rfl, hd_X6_needWithin⟩ ⟨Nat.le_of_ble_eq_true rfl, Nat.le_of_ble_eq_true rfl⟩ ⟨Nat.le_of_ble_eq_true rfl, Nat.le_of_ble_eq_true rfl⟩ rfl rfl (Nat.le_of_ble_eq_true rfl) dX6_feast_8 ?_
  refine j_aload_n C (q := 0) dX6_feast_11 rfl rfl ?_
  refine j_iload_n C (q := 1) dX6_feast_12 rfl rfl ?_
  refine j_iload_n C (q := 2) dX6_feast_13 rfl rfl ?_
  obtain ⟨x27, t28, e29, h⟩ := bd_some h
  refine j_callV_i C (i := 0) (As := [.int x1, .int x2]) (rest := []) (c_X6_feastProperty l G B dy x1 x2 _ e29) (shp6 G B _ kA_0) (kd_lt kA_0 (by decide)) rfl tw_599 tw_601 tp_28 ti_6 tw_602 hd_X6_feastProperty ⟨Nat.le_of_ble_eq_true rfl, Nat.le_of_ble_eq_true rfl⟩ ⟨Nat.le_of_ble_eq_true rfl, Nat.le_of_ble_eq_true rfl⟩ rfl rfl (Nat.le_of_ble_eq_true rfl) dX6_feast_14 ?_
  exact j_iret C hr hlk h ⟨Nat.le_of_ble_eq_true rfl, Nat.le_of_ble_eq_true rfl⟩ dX6_feast_17
set_option maxRecDepth 100000 in
set_option maxHeartbeats 4000000 in
theorem c_X6_when (l : Launch) (G : GG) (B dy : Nat) (x1 : Int32) (x2 : Int32) (x3 : Int32) (x4 : Int32) (t0 : St) {r : Int32} {t9 : St} (h : f_X6_when x1 x2 x3 x4 t0 = some (r, t9)) : Ct l G B dy yX6_when cX6_when 5 (some .int) 4 94 0 0 [.ref (B + 0), .int x1, .int x2, .int x3, .int x4] t0 (PostI G B r t9) := by
  refine Ct_of (by decide +kernel) [(0, .ref (B + 0)), (1, .int x1), (2, .int x2), (3, .int x3), (4, .int x4)] (Nat.le_of_ble_eq_true rfl) rfl ?_
  intro p e s m args below meth c C hr hlk
  refine j_aload_n C (q := 0) dX6_when_0 rfl rfl ?_
  refine j_iload_n C (q := 1) dX6_when_1 rfl rfl ?_
  obtain ⟨t22, e23, h⟩ := bv_some h
  refine j_callV_v C (i := 0) (As := [.int x1]) (rest := []) (c_X6_needFeast l G B dy x1 _ e23) (shp6 G B _ kA_0) (kd_lt kA_0 (by decide)) rfl tw_549 tw_551 tp_26 ti_6 tw_552 hd_X6_needFeast ⟨Nat.le_of_ble_eq_true rfl, Nat.le_of_ble_eq_true rfl⟩ ⟨Nat.le_of_ble_eq_true rfl, Nat.le_of_ble_eq_true rfl⟩ rfl rfl (Nat.le_of_ble_eq_true rfl) dX6_when_2 ?_
  refine j_iload_n C (q := 2) dX6_when_5 rfl rfl ?_
  obtain ⟨t25, e26, h⟩ := bv_some h
  refine j_callS_v C (i := 0) (As := [.int x2]) (rest := []) (c_X6_needYear l G B dy x2 _ e26) tw_565 tw_566 ti_6 tw_567 ⟨rfl, hd_X6_needYear⟩ ⟨Nat.le_of_ble_eq_true rfl, Nat.le_of_ble_eq_true rfl⟩ ⟨Nat.le_of_ble_eq_true rfl, Nat.le_of_ble_eq_true rfl⟩ rfl rfl (Nat.le_of_ble_eq_true rfl) dX6_when_6 ?_
  refine j_iload_n C (q := 3) dX6_when_9 rfl rfl ?_
  obtain ⟨t28, e29, h⟩ := bv_some h
  refine j_callS_v C (i := 0) (As := [.int x3]) (rest := []) (c_X6_needCarver l G B dy x3 _ e29) tw_558 tw_559 ti_6 tw_560 ⟨rfl, hd_X6_needCarver⟩ ⟨Nat.le_of_ble_eq_true rfl, Nat.le_of_ble_eq_true rfl⟩ ⟨Nat.le_of_ble_eq_true rfl, Nat.le_of_ble_eq_true rfl⟩ rfl rfl (Nat.le_of_ble_eq_true rfl) dX6_when_10 ?_
  refine j_aload_n C (q := 0) dX6_when_13 rfl rfl ?_
  refine fg_X6_42 C (i := 0) kA_0 dX6_when_14 ?_
  refine j_aload_n C (q := 0) dX6_when_17 rfl rfl ?_
  refine fg_X6_12 C (i := 0) kA_0 dX6_when_18 ?_
  refine j_iload_n C (q := 2) dX6_when_21 rfl rfl ?_
  refine j_aload_n C (q := 0) dX6_when_22 rfl rfl ?_
  refine fg_X6_12 C (i := 0) kA_0 dX6_when_23 ?_
  refine fg_X6_116 C (i := 1) kA_1 dX6_when_26 ?_
  refine j_iload_n C (q := 3) dX6_when_29 rfl rfl ?_
  obtain ⟨x30, t31, e32, h⟩ := bd_some h
  refine j_callV_i C (i := 10) (As := [.int x3]) (rest := [.int x2, .ref (B + 1), .ref (B + 139)]) (c_X4_at l G B dy 10 kA_10 x3 _ e32) (shp4 G B _ kA_10) (kd_lt kA_10 (by decide)) rfl tw_322 tw_323 tw_324 ti_4 tw_325 hd_X4_at ⟨Nat.le_of_ble_eq_true rfl, Nat.le_of_ble_eq_true rfl⟩ ⟨Nat.le_of_ble_eq_true rfl, Nat.le_of_ble_eq_true rfl⟩ rfl rfl (Nat.le_of_ble_eq_true rfl) dX6_when_30 ?_
  obtain ⟨t34, e35, h⟩ := bv_some h
  refine j_callV_v C (i := 139) (As := [.ref (B + 1), .int x2, .int x30]) (rest := []) (c_X3_reckon l G B dy 139 kA_139 1 kA_1 x2 x30 _ e35) (shp3 G B _ kA_139) (kd_lt kA_139 (by decide)) rfl tw_339 tw_340 tw_341 ti_3 tw_342 hd_X3_reckon ⟨Nat.le_of_ble_eq_true rfl, Nat.le_of_ble_eq_true rfl⟩ ⟨Nat.le_of_ble_eq_true rfl, Nat.le_of_ble_eq_true rfl⟩ rfl rfl (Nat.le_of_ble_eq_true rfl) dX6_when_33 ?_
  refine j_iload C (q := 4) dX6_when_36 rfl ?_
  refine j_if_eq C (tgt := 55) dX6_when_38 (by decide) (fun c36 => ?_) (fun c36 => ?_)
  · have h := ite_t h c36
    refine j_aload_n C (q := 0) dX6_when_55 rfl rfl ?_
    refine fg_X6_42 C (i := 0) kA_0 dX6_when_56 ?_
    refine fg_X6_126 C (i := 139) kA_139 dX6_when_59 ?_
    refine j_iload_n C (q := 1) dX6_when_62 rfl rfl ?_
    obtain ⟨x37, t38, e39, h⟩ := bd_some h
    refine j_callV_i C (i := 142) (As := [.int x1]) (rest := []) (c_X4_at l G B dy 142 kA_142 x1 _ e39) (shp4 G B _ kA_142) (kd_lt kA_142 (by decide)) rfl tw_322 tw_323 tw_324 ti_4 tw_325 hd_X4_at ⟨Nat.le_of_ble_eq_true rfl, Nat.le_of_ble_eq_true rfl⟩ ⟨Nat.le_of_ble_eq_true rfl, Nat.le_of_ble_eq_true rfl⟩ rfl rfl (Nat.le_of_ble_eq_true rfl) dX6_when_63 ?_
    exact j_iret C hr hlk h ⟨Nat.le_of_ble_eq_true rfl, Nat.le_of_ble_eq_true rfl⟩ dX6_when_66
  · have h := ite_f h c36
    refine j_aload_n C (q := 0) dX6_when_41 rfl rfl ?_
    refine fg_X6_42 C (i := 0) kA_0 dX6_when_42 ?_
    refine fg_X6_184 C (i := 139) kA_139 dX6_when_45 ?_
    refine j_iload_n C (q := 1) dX6_when_48 rfl rfl ?_
    obtain ⟨x40, t41, e42, h⟩ := bd_some h
    refine j_callV_i C (i := 140) (As := [.int x1]) (rest := []) (c_X4_at l G B dy 140 kA_140 x1 _ e42) (shp4 G B _ kA_140) (kd_lt kA_140 (by decide)) rfl tw_322 tw_323 tw_324 ti_4 tw_325 hd_X4_at ⟨Nat.le_of_ble_eq_true rfl, Nat.le_of_ble_eq_true rfl⟩ ⟨Nat.le_of_ble_eq_true rfl, Nat.le_of_ble_eq_true rfl⟩ rfl rfl (Nat.le_of_ble_eq_true rfl) dX6_when_49 ?_
    refine j_goto C (tgt := 66) dX6_when_52 (by decide) ?_
    exact j_iret C hr hlk h ⟨Nat.le_of_ble_eq_true rfl, Nat.le_of_ble_eq_true rfl⟩ dX6_when_66
set_option maxRecDepth 100000 in
set_option maxHeartbeats 4000000 in
theorem c_X6_settled (l : Launch) (G : GG) (B dy : Nat) (x1 : Int32) (x2 : Int32) (t0 : St) {r : Int32} {t9 : St} (h : f_X6_settled x1 x2 t0 = some (r, t9)) : Ct l G B dy yX6_settled cX6_settled 3 (some .int) 5 117 0 0 [.ref (B + 0), .int x1, .int x2] t0 (PostI G B r t9) := by
  refine Ct_of (by decide +kernel) [(0, .ref (B + 0)), (1, .int x1), (2, .int x2)] (Nat.le_of_ble_eq_true rfl) rfl ?_
  intro p e s m args below meth c C hr hlk
  refine j_aload_n C (q := 0) dX6_settled_0 rfl rfl ?_
  refine j_iload_n C (q := 1) dX6_settled_1 rfl rfl ?_
  obtain ⟨t22, e23, h⟩ := bv_some h
  refine j_callV_v C (i := 0) (As := [.int x1]) (rest := []) (c_X6_needFeast l G B dy x1 _ e23) (shp6 G B _ kA_0) (kd_lt kA_0 (by decide)) rfl tw_549 tw_551 tp_26 ti_6 tw_552 hd_X6_needFeast ⟨Nat.le_of_ble_eq_true rfl, Nat.le_of_ble_eq_true rfl⟩ ⟨Nat.le_of_ble_eq_true rfl, Nat.le_of_ble_eq_true rfl⟩ rfl rfl (Nat.le_of_ble_eq_true rfl) dX6_settled_2 ?_
  refine j_iload_n C (q := 2) dX6_settled_5 rfl rfl ?_
  obtain ⟨t25, e26, h⟩ := bv_some h
  refine j_callS_v C (i := 0) (As := [.int x2]) (rest := []) (c_X6_needYear l G B dy x2 _ e26) tw_565 tw_566 ti_6 tw_567 ⟨rfl, hd_X6_needYear⟩ ⟨Nat.le_of_ble_eq_true rfl, Nat.le_of_ble_eq_true rfl⟩ ⟨Nat.le_of_ble_eq_true rfl, Nat.le_of_ble_eq_true rfl⟩ rfl rfl (Nat.le_of_ble_eq_true rfl) dX6_settled_6 ?_
  refine j_aload_n C (q := 0) dX6_settled_9 rfl rfl ?_
  refine fg_X6_49 C (i := 0) kA_0 dX6_settled_10 ?_
  refine j_aload_n C (q := 0) dX6_settled_13 rfl rfl ?_
  refine fg_X6_12 C (i := 0) kA_0 dX6_settled_14 ?_
  refine j_iload_n C (q := 2) dX6_settled_17 rfl rfl ?_
  obtain ⟨t28, e29, h⟩ := bv_some h
  refine j_callV_v C (i := 144) (As := [.ref (B + 1), .int x2]) (rest := []) (c_X0_gather l G B dy 144 kA_144 1 kA_1 x2 _ e29) (shp0 G B _ kA_144) (kd_lt kA_144 (by decide)) rfl tw_618 tw_619 tw_620 ti_0 tw_621 hd_X0_gather ⟨Nat.le_of_ble_eq_true rfl, Nat.le_of_ble_eq_true rfl⟩ ⟨Nat.le_of_ble_eq_true rfl, Nat.le_of_ble_eq_true rfl⟩ rfl rfl (Nat.le_of_ble_eq_true rfl) dX6_settled_18 ?_
  refine j_aload_n C (q := 0) dX6_settled_21 rfl rfl ?_
  refine fg_X6_49 C (i := 0) kA_0 dX6_settled_22 ?_
  refine j_iload_n C (q := 1) dX6_settled_25 rfl rfl ?_
  obtain ⟨x30, t31, e32, h⟩ := bd_some h
  refine j_callV_i C (i := 144) (As := [.int x1]) (rest := []) (c_X0_settledNotch l G B dy 144 kA_144 x1 _ e32) (shp0 G B _ kA_144) (kd_lt kA_144 (by decide)) rfl tw_628 tw_629 tw_630 ti_0 tw_631 hd_X0_settledNotch ⟨Nat.le_of_ble_eq_true rfl, Nat.le_of_ble_eq_true rfl⟩ ⟨Nat.le_of_ble_eq_true rfl, Nat.le_of_ble_eq_true rfl⟩ rfl rfl (Nat.le_of_ble_eq_true rfl) dX6_settled_26 ?_
  exact j_iret C hr hlk h ⟨Nat.le_of_ble_eq_true rfl, Nat.le_of_ble_eq_true rfl⟩ dX6_settled_29
set_option maxRecDepth 100000 in
set_option maxHeartbeats 4000000 in
theorem c_X6_quarrels (l : Launch) (G : GG) (B dy : Nat) (x1 : Int32) (t0 : St) {r : Int32} {t9 : St} (h : f_X6_quarrels x1 t0 = some (r, t9)) : Ct l G B dy yX6_quarrels cX6_quarrels 2 (some .int) 5 117 0 0 [.ref (B + 0), .int x1] t0 (PostI G B r t9) := by
  refine Ct_of (by decide +kernel) [(0, .ref (B + 0)), (1, .int x1)] (Nat.le_of_ble_eq_true rfl) rfl ?_
  intro p e s m args below meth c C hr hlk
  refine j_iload_n C (q := 1) dX6_quarrels_0 rfl rfl ?_
  obtain ⟨t22, e23, h⟩ := bv_some h
  refine j_callS_v C (i := 0) (As := [.int x1]) (rest := []) (c_X6_needYear l G B dy x1 _ e23) tw_565 tw_566 ti_6 tw_567 ⟨rfl, hd_X6_needYear⟩ ⟨Nat.le_of_ble_eq_true rfl, Nat.le_of_ble_eq_true rfl⟩ ⟨Nat.le_of_ble_eq_true rfl, Nat.le_of_ble_eq_true rfl⟩ rfl rfl (Nat.le_of_ble_eq_true rfl) dX6_quarrels_1 ?_
  refine j_aload_n C (q := 0) dX6_quarrels_4 rfl rfl ?_
  refine fg_X6_49 C (i := 0) kA_0 dX6_quarrels_5 ?_
  refine j_aload_n C (q := 0) dX6_quarrels_8 rfl rfl ?_
  refine fg_X6_12 C (i := 0) kA_0 dX6_quarrels_9 ?_
  refine j_iload_n C (q := 1) dX6_quarrels_12 rfl rfl ?_
  obtain ⟨t25, e26, h⟩ := bv_some h
  refine j_callV_v C (i := 144) (As := [.ref (B + 1), .int x1]) (rest := []) (c_X0_gather l G B dy 144 kA_144 1 kA_1 x1 _ e26) (shp0 G B _ kA_144) (kd_lt kA_144 (by decide)) rfl tw_618 tw_619 tw_620 ti_0 tw_621 hd_X0_gather ⟨Nat.le_of_ble_eq_true rfl, Nat.le_of_ble_eq_true rfl⟩ ⟨Nat.le_of_ble_eq_true rfl, Nat.le_of_ble_eq_true rfl⟩ rfl rfl (Nat.le_of_ble_eq_true rfl) dX6_quarrels_13 ?_
  refine j_aload_n C (q := 0) dX6_quarrels_16 rfl rfl ?_
  refine fg_X6_49 C (i := 0) kA_0 dX6_quarrels_17 ?_
  refine j_aload_n C (q := 0) dX6_quarrels_20 rfl rfl ?_
  refine fg_X6_12 C (i := 0) kA_0 dX6_quarrels_21 ?_
  refine fg_X6_87 C (i := 1) kA_1 dX6_quarrels_24 ?_
  obtain ⟨x27, t28, e29, h⟩ := bd_some h
  refine j_callV_i C (i := 144) (As := [.int (t25.1 1 0)]) (rest := []) (c_X0_quarrelCount l G B dy 144 kA_144 (t25.1 1 0) _ e29) (shp0 G B _ kA_144) (kd_lt kA_144 (by decide)) rfl tw_651 tw_652 tw_653 ti_0 tw_654 hd_X0_quarrelCount ⟨Nat.le_of_ble_eq_true rfl, Nat.le_of_ble_eq_true rfl⟩ ⟨Nat.le_of_ble_eq_true rfl, Nat.le_of_ble_eq_true rfl⟩ rfl rfl (Nat.le_of_ble_eq_true rfl) dX6_quarrels_27 ?_
  exact j_iret C hr hlk h ⟨Nat.le_of_ble_eq_true rfl, Nat.le_of_ble_eq_true rfl⟩ dX6_quarrels_30
set_option maxRecDepth 100000 in
set_option maxHeartbeats 4000000 in
theorem c_X6_staleFeasts (l : Launch) (G : GG) (B dy : Nat) (x1 : Int32) (x2 : Int32) (t0 : St) {r : Int32} {t9 : St} (h : f_X6_staleFeasts x1 x2 t0 = some (r, t9)) : Ct l G B dy yX6_staleFeasts cX6_staleFeasts 8 (some .int) 4 94 0 0 [.ref (B + 0), .int x1, .int x2] t0 (PostI G B r t9) := by
  refine Ct_of (by decide +kernel) [(0, .ref (B + 0)), (1, .int x1), (2, .int x2)] (Nat.le_of_ble_eq_true rfl) rfl ?_
  intro p e s m args below meth c C hr hlk
  have J5 : ∀ (n5 : Nat) (y3 : Int32) (y4 : Int32) (t0 : St), f_X6_staleFeasts_l5 n5 x2 y3 y4 t0 = some (r, t9) → WW G B p l e (RM 4 94 0 0) s m args below meth c 0 0 (MQ below (PostI G B r t9) args s 0 0 (Ab B)) 8 5 [(0, .ref (B + 0)), (2, .int x2), (3, .int y3), (4, .int y4)] [] t0 := by
    intro n5
    induction n5 with
    | zero => intro y3 y4 t0 h; exact (no_some h).elim
    | succ n5 ih5 =>
      try clear h
      have J73 : ∀ (n73 : Nat) (y3 : Int32) (y4 : Int32) (y5 : Int32) (y6 : Int32) (t0 : St), f_X6_staleFeasts_l73 (f_X6_staleFeasts_l5 n5) n73 x2 y3 y4 y5 y6 t0 = some (r, t9) → WW G B p l e (RM 4 94 0 0) s m args below meth c 0 0 (MQ below (PostI G B r t9) args s 0 0 (Ab B)) 8 73 [(0, .ref (B + 0)), (2, .int x2), (3, .int y3), (4, .int y4), (5, .int y5), (6, .int y6)] [] t0 := by
        intro n73
        induction n73 with
        | zero => intro y3 y4 y5 y6 t0 h; exact (no_some h).elim
        | succ n73 ih73 =>
          try clear h
          have J97 : ∀ (y3 : Int32) (y4 : Int32) (y5 : Int32) (y6 : Int32) (w0 : Int32) (t0 : St), f_X6_staleFeasts_b97 (f_X6_staleFeasts_l5 n5) (f_X6_staleFeasts_l73 (f_X6_staleFeasts_l5 n5) n73) x2 y3 y4 y5 y6 w0 t0 = some (r, t9) → WW G B p l e (RM 4 94 0 0) s m args below meth c 0 0 (MQ below (PostI G B r t9) args s 0 0 (Ab B)) 8 97 [(0, .ref (B + 0)), (2, .int x2), (3, .int y3), (4, .int y4), (5, .int y5), (6, .int y6)] [.int w0] t0 := by
            intro y3 y4 y5 y6 w0 t0 h
            refine j_istore C [(0, .ref (B + 0)), (2, .int x2), (3, .int y3), (4, .int y4), (5, .int y5), (6, .int y6), (7, .int w0)] [1, 2, 3, 4, 5, 6, 0] dX6_staleFeasts_97 (by decide) rfl ?_
            refine j_iload C (q := 6) dX6_staleFeasts_99 rfl ?_
            refine j_if_ne C (tgt := 130) dX6_staleFeasts_101 (by decide) (fun c21 => ?_) (fun c21 => ?_)
            · have h := ite_t h c21
              refine j_aload_n C (q := 0) dX6_staleFeasts_104 rfl rfl ?_
              refine fg_X6_42 C (i := 0) kA_0 dX6_staleFeasts_105 ?_
              refine fg_X6_126 C (i := 139) kA_139 dX6_staleFeasts_108 ?_
              refine j_iload C (q := 5) dX6_staleFeasts_111 rfl ?_
              obtain ⟨x24, t25, e26, h⟩ := bd_some h
              refine j_callV_i C (i := 142) (As := [.int y6]) (rest := []) (c_X4_at l G B dy 142 kA_142 y6 _ e26) (shp4 G B _ kA_142) (kd_lt kA_142 (by decide)) rfl tw_322 tw_323 tw_324 ti_4 tw_325 hd_X4_at ⟨Nat.le_of_ble_eq_true rfl, Nat.le_of_ble_eq_true rfl⟩ ⟨Nat.le_of_ble_eq_true rfl, Nat.le_of_ble_eq_true rfl⟩ rfl rfl (Nat.le_of_ble_eq_true rfl) dX6_staleFeasts_113 ?_
              refine j_aload_n C (q := 0) dX6_staleFeasts_116 rfl rfl ?_
              refine fg_X6_12 C (i := 0) kA_0 dX6_staleFeasts_117 ?_
              refine j_iload C (q := 3) dX6_staleFeasts_120 rfl ?_
              refine j_iload C (q := 5) dX6_staleFeasts_122 rfl ?_
              obtain ⟨x27, t28, e29, h⟩ := bd_some h
              refine j_callV_i C (i := 1) (As := [.int y4, .int y6]) (rest := [.int x24]) (c_X5_stickNotch l G B dy 1 kA_1 y4 y6 _ e29) (shp5 G B _ kA_1) (kd_lt kA_1 (by decide)) rfl tw_391 tw_331 tw_332 ti_5 tw_333 hd_X5_stickNotch ⟨Nat.le_of_ble_eq_true rfl, Nat.le_of_ble_eq_true rfl⟩ ⟨Nat.le_of_ble_eq_true rfl, Nat.le_of_ble_eq_true rfl⟩ rfl rfl (Nat.le_of_ble_eq_true rfl) dX6_staleFeasts_124 ?_
              refine j_icmp_eq C (tgt := 133) dX6_staleFeasts_127 (by decide) (fun c30 => ?_) (fun c30 => ?_)
              · have h := ite_t h c30
                obtain ⟨x31, ex31⟩ : ∃ y : Int32, y = (y6 + 1) := ⟨_, rfl⟩
                have h := lt_at h ex31
                refine j_iinc C (q := 5) [(0, .ref (B + 0)), (2, .int x2), (3, .int y3), (4, .int y4), (5, .int y5), (6, .int x31), (7, .int w0)] [1, 2, 3, 4, 5, 0, 6] dX6_staleFeasts_133 rfl (by rw [ex31]; rfl) (by decide) rfl ?_
                refine j_goto C (tgt := 73) dX6_staleFeasts_136 (by decide) ?_
                refine j_sub [0, 1, 2, 3, 4, 5] rfl ?_
                exact ih73 y3 y4 y5 x31 _ h
              · have h := ite_f h c30
                obtain ⟨x32, ex32⟩ : ∃ y : Int32, y = (y3 + 1) := ⟨_, rfl⟩
                have h := lt_at h ex32
                refine j_iinc C (q := 2) [(0, .ref (B + 0)), (2, .int x2), (3, .int x32), (4, .int y4), (5, .int y5), (6, .int y6), (7, .int w0)] [1, 2, 0, 3, 4, 5, 6] dX6_staleFeasts_130 rfl (by rw [ex32]; rfl) (by decide) rfl ?_
                obtain ⟨x33, ex33⟩ : ∃ y : Int32, y = (y6 + 1) := ⟨_, rfl⟩
                have h := lt_at h ex33
                refine j_iinc C (q := 5) [(0, .ref (B + 0)), (2, .int x2), (3, .int x32), (4, .int y4), (5, .int y5), (6, .int x33), (7, .int w0)] [1, 2, 3, 4, 5, 0, 6] dX6_staleFeasts_133 rfl (by rw [ex33]; rfl) (by decide) rfl ?_
                refine j_goto C (tgt := 73) dX6_staleFeasts_136 (by decide) ?_
                refine j_sub [0, 1, 2, 3, 4, 5] rfl ?_
                exact ih73 x32 y4 y5 x33 _ h
            · have h := ite_f h c21
              obtain ⟨x22, ex22⟩ : ∃ y : Int32, y = (y3 + 1) := ⟨_, rfl⟩
              have h := lt_at h ex22
              refine j_iinc C (q := 2) [(0, .ref (B + 0)), (2, .int x2), (3, .int x22), (4, .int y4), (5, .int y5), (6, .int y6), (7, .int w0)] [1, 2, 0, 3, 4, 5, 6] dX6_staleFeasts_130 rfl (by rw [ex22]; rfl) (by decide) rfl ?_
              obtain ⟨x23, ex23⟩ : ∃ y : Int32, y = (y6 + 1) := ⟨_, rfl⟩
              have h := lt_at h ex23
              refine j_iinc C (q := 5) [(0, .ref (B + 0)), (2, .int x2), (3, .int x22), (4, .int y4), (5, .int y5), (6, .int x23), (7, .int w0)] [1, 2, 3, 4, 5, 0, 6] dX6_staleFeasts_133 rfl (by rw [ex23]; rfl) (by decide) rfl ?_
              refine j_goto C (tgt := 73) dX6_staleFeasts_136 (by decide) ?_
              refine j_sub [0, 1, 2, 3, 4, 5] rfl ?_
              exact ih73 x22 y4 y5 x23 _ h
          intro y3 y4 y5 y6 t0 h
          have h : f_X6_staleFeasts_b73 (f_X6_staleFeasts_l5 n5) (f_X6_staleFeasts_l73 (f_X6_staleFeasts_l5 n5) n73) x2 y3 y4 y5 y6 t0 = some (r, t9) := h
          refine j_iload C (q := 5) dX6_staleFeasts_73 rfl ?_
          refine j_iload C (q := 4) dX6_staleFeasts_75 rfl ?_
          refine j_icmp_ge C (tgt := 139) dX6_staleFeasts_77 (by decide) (fun c34 => ?_) (fun c34 => ?_)
          · have h := ite_t h c34
            obtain ⟨x35, ex35⟩ : ∃ y : Int32, y = (y4 + 1) := ⟨_, rfl⟩
            have h := lt_at h ex35
            refine j_iinc C (q := 3) [(0, .ref (B + 0)), (2, .int x2), (3, .int y3), (4, .int x35), (5, .int y5), (6, .int y6)] [1, 2, 3, 0, 4, 5] dX6_staleFeasts_139 rfl (by rw [ex35]; rfl) (by decide) rfl ?_
            refine j_goto C (tgt := 5) dX6_staleFeasts_142 (by decide) ?_
            refine j_sub [0, 1, 2, 3] rfl ?_
            exact ih5 y3 x35 _ h
          · have h := ite_f h c34
            refine j_iload C (q := 5) dX6_staleFeasts_80 rfl ?_
            refine j_aload_n C (q := 0) dX6_staleFeasts_82 rfl rfl ?_
            refine fg_X6_12 C (i := 0) kA_0 dX6_staleFeasts_83 ?_
            refine fg_X6_87 C (i := 1) kA_1 dX6_staleFeasts_86 ?_
            refine j_icmp_lt C (tgt := 96) dX6_staleFeasts_89 (by decide) (fun c36 => ?_) (fun c36 => ?_)
            · have h := ite_t h c36
              refine j_iconst C (v := 0) dX6_staleFeasts_96 (by decide) ?_
              exact J97 y3 y4 y5 y6 0 _ h
            · have h := ite_f h c36
              refine j_iconst C (v := 1) dX6_staleFeasts_92 (by decide) ?_
              refine j_goto C (tgt := 97) dX6_staleFeasts_93 (by decide) ?_
              exact J97 y3 y4 y5 y6 1 _ h
      intro y3 y4 t0 h
      have h : f_X6_staleFeasts_b5 (f_X6_staleFeasts_l5 n5) x2 y3 y4 t0 = some (r, t9) := h
      refine j_iload C (q := 3) dX6_staleFeasts_5 rfl ?_
      refine j_iload_n C (q := 1) dX6_staleFeasts_7 rfl rfl ?_
      refine j_icmp_ge C (tgt := 145) dX6_staleFeasts_8 (by decide) (fun c37 => ?_) (fun c37 => ?_)
      · have h := ite_t h c37
        refine j_iload_n C (q := 2) dX6_staleFeasts_145 rfl rfl ?_
        exact j_iret C hr hlk h ⟨Nat.le_of_ble_eq_true rfl, Nat.le_of_ble_eq_true rfl⟩ dX6_staleFeasts_146
      · have h := ite_f h c37
        refine j_aload_n C (q := 0) dX6_staleFeasts_11 rfl rfl ?_
        refine fg_X6_42 C (i := 0) kA_0 dX6_staleFeasts_12 ?_
        refine j_aload_n C (q := 0) dX6_staleFeasts_15 rfl rfl ?_
        refine fg_X6_12 C (i := 0) kA_0 dX6_staleFeasts_16 ?_
        refine j_aload_n C (q := 0) dX6_staleFeasts_19 rfl rfl ?_
        refine fg_X6_12 C (i := 0) kA_0 dX6_staleFeasts_20 ?_
        refine fg_X6_139 C (i := 1) kA_1 dX6_staleFeasts_23 ?_
        refine j_iload C (q := 3) dX6_staleFeasts_26 rfl ?_
        obtain ⟨x38, t39, e40, h⟩ := bd_some h
        refine j_callV_i C (i := 12) (As := [.int y4]) (rest := [.ref (B + 1), .ref (B + 139)]) (c_X4_at l G B dy 12 kA_12 y4 _ e40) (shp4 G B _ kA_12) (kd_lt kA_12 (by decide)) rfl tw_322 tw_323 tw_324 ti_4 tw_325 hd_X4_at ⟨Nat.le_of_ble_eq_true rfl, Nat.le_of_ble_eq_true rfl⟩ ⟨Nat.le_of_ble_eq_true rfl, Nat.le_of_ble_eq_true rfl⟩ rfl rfl (Nat.le_of_ble_eq_true rfl) dX6_staleFeasts_28 ?_
        refine j_aload_n C (q := 0) dX6_staleFeasts_31 rfl rfl ?_
        refine fg_X6_12 C (i := 0) kA_0 dX6_staleFeasts_32 ?_
        refine fg_X6_116 C (i := 1) kA_1 dX6_staleFeasts_35 ?_
        refine j_aload_n C (q := 0) dX6_staleFeasts_38 rfl rfl ?_
        refine fg_X6_12 C (i := 0) kA_0 dX6_staleFeasts_39 ?_
        refine fg_X6_287 C (i := 1) kA_1 dX6_staleFeasts_42 ?_
        refine j_iload C (q := 3) dX6_staleFeasts_45 rfl ?_
        obtain ⟨x41, t42, e43, h⟩ := bd_some h
        refine j_callV_i C (i := 14) (As := [.int y4]) (rest := [.ref (B + 10), .int x38, .ref (B + 1), .ref (B + 139)]) (c_X4_at l G B dy 14 kA_14 y4 _ e43) (shp4 G B _ kA_14) (kd_lt kA_14 (by decide)) rfl tw_322 tw_323 tw_324 ti_4 tw_325 hd_X4_at ⟨Nat.le_of_ble_eq_true rfl, Nat.le_of_ble_eq_true rfl⟩ ⟨Nat.le_of_ble_eq_true rfl, Nat.le_of_ble_eq_true rfl⟩ rfl rfl (Nat.le_of_ble_eq_true rfl) dX6_staleFeasts_47 ?_
        obtain ⟨x44, t45, e46, h⟩ := bd_some h
        refine j_callV_i C (i := 10) (As := [.int x41]) (rest := [.int x38, .ref (B + 1), .ref (B + 139)]) (c_X4_at l G B dy 10 kA_10 x41 _ e46) (shp4 G B _ kA_10) (kd_lt kA_10 (by decide)) rfl tw_322 tw_323 tw_324 ti_4 tw_325 hd_X4_at ⟨Nat.le_of_ble_eq_true rfl, Nat.le_of_ble_eq_true rfl⟩ ⟨Nat.le_of_ble_eq_true rfl, Nat.le_of_ble_eq_true rfl⟩ rfl rfl (Nat.le_of_ble_eq_true rfl) dX6_staleFeasts_50 ?_
        obtain ⟨t48, e49, h⟩ := bv_some h
        refine j_callV_v C (i := 139) (As := [.ref (B + 1), .int x38, .int x44]) (rest := []) (c_X3_reckon l G B dy 139 kA_139 1 kA_1 x38 x44 _ e49) (shp3 G B _ kA_139) (kd_lt kA_139 (by decide)) rfl tw_339 tw_340 tw_341 ti_3 tw_342 hd_X3_reckon ⟨Nat.le_of_ble_eq_true rfl, Nat.le_of_ble_eq_true rfl⟩ ⟨Nat.le_of_ble_eq_true rfl, Nat.le_of_ble_eq_true rfl⟩ rfl rfl (Nat.le_of_ble_eq_true rfl) dX6_staleFeasts_53 ?_
        refine j_aload_n C (q := 0) dX6_staleFeasts_56 rfl rfl ?_
        refine fg_X6_12 C (i := 0) kA_0 dX6_staleFeasts_57 ?_
        refine fg_X6_296 C (i := 1) kA_1 dX6_staleFeasts_60 ?_
        refine j_iload C (q := 3) dX6_staleFeasts_63 rfl ?_
        obtain ⟨x50, t51, e52, h⟩ := bd_some h
        refine j_callV_i C (i := 16) (As := [.int y4]) (rest := []) (c_X4_at l G B dy 16 kA_16 y4 _ e52) (shp4 G B _ kA_16) (kd_lt kA_16 (by decide)) rfl tw_322 tw_323 tw_324 ti_4 tw_325 hd_X4_at ⟨Nat.le_of_ble_eq_true rfl, Nat.le_of_ble_eq_true rfl⟩ ⟨Nat.le_of_ble_eq_true rfl, Nat.le_of_ble_eq_true rfl⟩ rfl rfl (Nat.le_of_ble_eq_true rfl) dX6_staleFeasts_65 ?_
        refine j_istore C [(0, .ref (B + 0)), (2, .int x2), (3, .int y3), (4, .int y4), (5, .int x50)] [1, 2, 3, 4, 0] dX6_staleFeasts_68 (by decide) rfl ?_
        refine j_iconst C (v := 0) dX6_staleFeasts_70 (by decide) ?_
        refine j_istore C [(0, .ref (B + 0)), (2, .int x2), (3, .int y3), (4, .int y4), (5, .int x50), (6, .int 0)] [1, 2, 3, 4, 5, 0] dX6_staleFeasts_71 (by decide) rfl ?_
        exact J73 FU y3 y4 x50 0 _ h
  refine j_iconst C (v := 0) dX6_staleFeasts_0 (by decide) ?_
  refine j_istore_n C [(0, .ref (B + 0)), (1, .int x1), (2, .int x2), (3, .int 0)] [1, 2, 3, 0] dX6_staleFeasts_1 rfl (by decide) rfl ?_
  refine j_iload_n C (q := 1) dX6_staleFeasts_2 rfl rfl ?_
  refine j_istore C [(0, .ref (B + 0)), (1, .int x1), (2, .int x2), (3, .int 0), (4, .int x1)] [1, 2, 3, 4, 0] dX6_staleFeasts_3 (by decide) rfl ?_
  refine j_sub [0, 2, 3, 4] rfl ?_
  exact J5 FU 0 x1 _ h
set_option maxRecDepth 100000 in
set_option maxHeartbeats 4000000 in
theorem c_X6_stickProperty (l : Launch) (G : GG) (B dy : Nat) (x1 : Int32) (x2 : Int32) (t0 : St) {r : Int32} {t9 : St} (h : f_X6_stickProperty x1 x2 t0 = some (r, t9)) : Ct l G B dy yX6_stickProperty cX6_stickProperty 3 (some .int) 5 121 0 0 [.ref (B + 0), .int x1, .int x2] t0 (PostI G B r t9) := by
  refine Ct_of (by decide +kernel) [(0, .ref (B + 0)), (1, .int x1), (2, .int x2)] (Nat.le_of_ble_eq_true rfl) rfl ?_
  intro p e s m args below meth c C hr hlk
  refine j_iload_n C (q := 2) dX6_stickProperty_0 rfl rfl ?_
  by_cases c21 : x2 = 0
  · have h := ite_t h c21
    refine j_tableIn C (tgt := 32) dX6_stickProperty_1 (by rw [c21]; decide) (by rw [c21]; decide) (by rw [c21]; rfl) (by decide) ?_
    refine j_aload_n C (q := 0) dX6_stickProperty_32 rfl rfl ?_
    refine fg_X6_12 C (i := 0) kA_0 dX6_stickProperty_33 ?_
    refine fg_X6_139 C (i := 1) kA_1 dX6_stickProperty_36 ?_
    refine j_iload_n C (q := 1) dX6_stickProperty_39 rfl rfl ?_
    obtain ⟨x22, t23, e24, h⟩ := bd_some h
    refine j_callV_i C (i := 12) (As := [.int x1]) (rest := []) (c_X4_at l G B dy 12 kA_12 x1 _ e24) (shp4 G B _ kA_12) (kd_lt kA_12 (by decide)) rfl tw_322 tw_323 tw_324 ti_4 tw_325 hd_X4_at ⟨Nat.le_of_ble_eq_true rfl, Nat.le_of_ble_eq_true rfl⟩ ⟨Nat.le_of_ble_eq_true rfl, Nat.le_of_ble_eq_true rfl⟩ rfl rfl (Nat.le_of_ble_eq_true rfl) dX6_stickProperty_40 ?_
    exact j_iret C hr hlk h ⟨Nat.le_of_ble_eq_true rfl, Nat.le_of_ble_eq_true rfl⟩ dX6_stickProperty_43
  · have h := ite_f h c21
    by_cases c25 : x2 = 1
    · have h := ite_t h c25
      refine j_tableIn C (tgt := 44) dX6_stickProperty_1 (by rw [c25]; decide) (by rw [c25]; decide) (by rw [c25]; rfl) (by decide) ?_
      refine j_aload_n C (q := 0) dX6_stickProperty_44 rfl rfl ?_
      refine fg_X6_12 C (i := 0) kA_0 dX6_stickProperty_45 ?_
      refine fg_X6_287 C (i := 1) kA_1 dX6_stickProperty_48 ?_
      refine j_iload_n C (q := 1) dX6_stickProperty_51 rfl rfl ?_
      obtain ⟨x26, t27, e28, h⟩ := bd_some h
      refine j_callV_i C (i := 14) (As := [.int x1]) (rest := []) (c_X4_at l G B dy 14 kA_14 x1 _ e28) (shp4 G B _ kA_14) (kd_lt kA_14 (by decide)) rfl tw_322 tw_323 tw_324 ti_4 tw_325 hd_X4_at ⟨Nat.le_of_ble_eq_true rfl, Nat.le_of_ble_eq_true rfl⟩ ⟨Nat.le_of_ble_eq_true rfl, Nat.le_of_ble_eq_true rfl⟩ rfl rfl (Nat.le_of_ble_eq_true rfl) dX6_stickProperty_52 ?_
      exact j_iret C hr hlk h ⟨Nat.le_of_ble_eq_true rfl, Nat.le_of_ble_eq_true rfl⟩ dX6_stickProperty_55
    · have h := ite_f h c25
      by_cases c29 : x2 = 2
      · have h := ite_t h c29
        refine j_tableIn C (tgt := 56) dX6_stickProperty_1 (by rw [c29]; decide) (by rw [c29]; decide) (by rw [c29]; rfl) (by decide) ?_
        refine j_aload_n C (q := 0) dX6_stickProperty_56 rfl rfl ?_
        refine fg_X6_12 C (i := 0) kA_0 dX6_stickProperty_57 ?_
        refine j_iload_n C (q := 1) dX6_stickProperty_60 rfl rfl ?_
        obtain ⟨x30, t31, e32, h⟩ := bd_some h
        refine j_callV_i C (i := 1) (As := [.int x1]) (rest := []) (c_X5_notchesOfStick l G B dy 1 kA_1 x1 _ e32) (shp5 G B _ kA_1) (kd_lt kA_1 (by decide)) rfl tw_326 tw_327 tw_328 ti_5 tw_329 hd_X5_notchesOfStick ⟨Nat.le_of_ble_eq_true rfl, Nat.le_of_ble_eq_true rfl⟩ ⟨Nat.le_of_ble_eq_true rfl, Nat.le_of_ble_eq_true rfl⟩ rfl rfl (Nat.le_of_ble_eq_true rfl) dX6_stickProperty_61 ?_
        exact j_iret C hr hlk h ⟨Nat.le_of_ble_eq_true rfl, Nat.le_of_ble_eq_true rfl⟩ dX6_stickProperty_64
      · have h := ite_f h c29
        by_cases c33 : x2 = 3
        · have h := ite_t h c33
          refine j_tableIn C (tgt := 65) dX6_stickProperty_1 (by rw [c33]; decide) (by rw [c33]; decide) (by rw [c33]; rfl) (by decide) ?_
          refine j_aload_n C (q := 0) dX6_stickProperty_65 rfl rfl ?_
          refine j_iload_n C (q := 1) dX6_stickProperty_66 rfl rfl ?_
          refine j_iload_n C (q := 1) dX6_stickProperty_67 rfl rfl ?_
          refine j_iconst C (v := 1) dX6_stickProperty_68 (by decide) ?_
          refine j_iadd C dX6_stickProperty_69 ?_
          obtain ⟨x34, t35, e36, h⟩ := bd_some h
          refine j_callV_i C (i := 0) (As := [.int x1, .int (x1 + 1)]) (rest := []) (c_X6_staleFeasts l G B dy x1 (x1 + 1) _ e36) (shp6 G B _ kA_0) (kd_lt kA_0 (by decide)) rfl tw_335 tw_337 tp_3 ti_6 tw_338 hd_X6_staleFeasts ⟨Nat.le_of_ble_eq_true rfl, Nat.le_of_ble_eq_true rfl⟩ ⟨Nat.le_of_ble_eq_true rfl, Nat.le_of_ble_eq_true rfl⟩ rfl rfl (Nat.le_of_ble_eq_true rfl) dX6_stickProperty_70 ?_
          exact j_iret C hr hlk h ⟨Nat.le_of_ble_eq_true rfl, Nat.le_of_ble_eq_true rfl⟩ dX6_stickProperty_73
        · have h := ite_f h c33
          have nc21 := lv_neT c21 (show (0 : Int32).toInt = 0 by decide)
          have nc25 := lv_neT c25 (show (1 : Int32).toInt = 1 by decide)
          have nc29 := lv_neT c29 (show (2 : Int32).toInt = 2 by decide)
          have nc33 := lv_neT c33 (show (3 : Int32).toInt = 3 by decide)
          refine j_tableOut C (x := x2) (tgt := 74) dX6_stickProperty_1 (by omega) (by decide) ?_
          refine j_aload_n C (q := 0) dX6_stickProperty_74 rfl rfl ?_
          refine fg_X6_12 C (i := 0) kA_0 dX6_stickProperty_75 ?_
          refine j_iload_n C (q := 1) dX6_stickProperty_78 rfl rfl ?_
          refine j_iload_n C (q := 2) dX6_stickProperty_79 rfl rfl ?_
          refine j_iconst C (v := 4) dX6_stickProperty_80 (by decide) ?_
          refine j_isub C dX6_stickProperty_81 ?_
          obtain ⟨x37, t38, e39, h⟩ := bd_some h
          refine j_callV_i C (i := 1) (As := [.int x1, .int (x2 - 4)]) (rest := []) (c_X5_stickNotch l G B dy 1 kA_1 x1 (x2 - 4) _ e39) (shp5 G B _ kA_1) (kd_lt kA_1 (by decide)) rfl tw_391 tw_331 tw_332 ti_5 tw_333 hd_X5_stickNotch ⟨Nat.le_of_ble_eq_true rfl, Nat.le_of_ble_eq_true rfl⟩ ⟨Nat.le_of_ble_eq_true rfl, Nat.le_of_ble_eq_true rfl⟩ rfl rfl (Nat.le_of_ble_eq_true rfl) dX6_stickProperty_82 ?_
          exact j_iret C hr hlk h ⟨Nat.le_of_ble_eq_true rfl, Nat.le_of_ble_eq_true rfl⟩ dX6_stickProperty_85
set_option maxRecDepth 100000 in
set_option maxHeartbeats 4000000 in
theorem c_X6_stick (l : Launch) (G : GG) (B dy : Nat) (x1 : Int32) (x2 : Int32) (t0 : St) {r : Int32} {t9 : St} (h : f_X6_stick x1 x2 t0 = some (r, t9)) : Ct l G B dy yX6_stick cX6_stick 3 (some .int) 6 143 0 0 [.ref (B + 0), .int x1, .int x2] t0 (PostI G B r t9) := by
  refine Ct_of (by decide +kernel) [(0, .ref (B + 0)), (1, .int x1), (2, .int x2)] (Nat.le_of_ble_eq_true rfl) rfl ?_
  intro p e s m args below meth c C hr hlk
  refine j_aload_n C (q := 0) dX6_stick_0 rfl rfl ?_
  refine j_iload_n C (q := 1) dX6_stick_1 rfl rfl ?_
  obtain ⟨t22, e23, h⟩ := bv_some h
  refine j_callV_v C (i := 0) (As := [.int x1]) (rest := []) (c_X6_needStick l G B dy x1 _ e23) (shp6 G B _ kA_0) (kd_lt kA_0 (by decide)) rfl tw_227 tw_229 tp_0 ti_6 tw_230 hd_X6_needStick ⟨Nat.le_of_ble_eq_true rfl, Nat.le_of_ble_eq_true rfl⟩ ⟨Nat.le_of_ble_eq_true rfl, Nat.le_of_ble_eq_true rfl⟩ rfl rfl (Nat.le_of_ble_eq_true rfl) dX6_stick_2 ?_
  refine j_iload_n C (q := 2) dX6_stick_5 rfl rfl ?_
  refine j_iconst C (v := 0) dX6_stick_6 (by decide) ?_
  refine j_bipush C (v := 13) dX6_stick_7 (by decide) ?_
  obtain ⟨t25, e26, h⟩ := bv_some h
  refine j_callS_v C (i := 0) (As := [.int x2, .int 0, .int 13]) (rest := []) (c_X6_needWithin l G B dy x2 0 13 _ e26) tw_299 tw_300 ti_6 tw_301 ⟨rfl, hd_X6_needWithin⟩ ⟨Nat.le_of_ble_eq_true rfl, Nat.le_of_ble_eq_true rfl⟩ ⟨Nat.le_of_ble_eq_true rfl, Nat.le_of_ble_eq_true rfl⟩ rfl rfl (Nat.le_of_ble_eq_true rfl) dX6_stick_9 ?_
  refine j_aload_n C (q := 0) dX6_stick_12 rfl rfl ?_
  refine j_iload_n C (q := 1) dX6_stick_13 rfl rfl ?_
  refine j_iload_n C (q := 2) dX6_stick_14 rfl rfl ?_
  obtain ⟨x27, t28, e29, h⟩ := bd_some h
  refine j_callV_i C (i := 0) (As := [.int x1, .int x2]) (rest := []) (c_X6_stickProperty l G B dy x1 x2 _ e29) (shp6 G B _ kA_0) (kd_lt kA_0 (by decide)) rfl tw_318 tw_320 tp_2 ti_6 tw_321 hd_X6_stickProperty ⟨Nat.le_of_ble_eq_true rfl, Nat.le_of_ble_eq_true rfl⟩ ⟨Nat.le_of_ble_eq_true rfl, Nat.le_of_ble_eq_true rfl⟩ rfl rfl (Nat.le_of_ble_eq_true rfl) dX6_stick_15 ?_
  exact j_iret C hr hlk h ⟨Nat.le_of_ble_eq_true rfl, Nat.le_of_ble_eq_true rfl⟩ dX6_stick_18
set_option maxRecDepth 100000 in
set_option maxHeartbeats 4000000 in
theorem c_X6_numberOf (l : Launch) (G : GG) (B dy : Nat) (x1 : Int32) (t0 : St) {r : Int32} {t9 : St} (h : f_X6_numberOf x1 t0 = some (r, t9)) : Ct l G B dy yX6_numberOf cX6_numberOf 2 (some .int) 5 121 0 0 [.ref (B + 0), .int x1] t0 (PostI G B r t9) := by
  refine Ct_of (by decide +kernel) [(0, .ref (B + 0)), (1, .int x1)] (Nat.le_of_ble_eq_true rfl) rfl ?_
  intro p e s m args below meth c C hr hlk
  refine j_iload_n C (q := 1) dX6_numberOf_0 rfl rfl ?_
  by_cases c21 : x1 = 0
  · have h := ite_t h c21
    refine j_tableIn C (tgt := 48) dX6_numberOf_1 (by rw [c21]; decide) (by rw [c21]; decide) (by rw [c21]; rfl) (by decide) ?_
    refine j_aload_n C (q := 0) dX6_numberOf_48 rfl rfl ?_
    refine fg_X6_12 C (i := 0) kA_0 dX6_numberOf_49 ?_
    refine fg_X6_87 C (i := 1) kA_1 dX6_numberOf_52 ?_
    exact j_iret C hr hlk h ⟨Nat.le_of_ble_eq_true rfl, Nat.le_of_ble_eq_true rfl⟩ dX6_numberOf_55
  · have h := ite_f h c21
    by_cases c22 : x1 = 1
    · have h := ite_t h c22
      refine j_tableIn C (tgt := 56) dX6_numberOf_1 (by rw [c22]; decide) (by rw [c22]; decide) (by rw [c22]; rfl) (by decide) ?_
      refine j_aload_n C (q := 0) dX6_numberOf_56 rfl rfl ?_
      refine fg_X6_12 C (i := 0) kA_0 dX6_numberOf_57 ?_
      refine fg_X6_236 C (i := 1) kA_1 dX6_numberOf_60 ?_
      exact j_iret C hr hlk h ⟨Nat.le_of_ble_eq_true rfl, Nat.le_of_ble_eq_true rfl⟩ dX6_numberOf_63
    · have h := ite_f h c22
      by_cases c23 : x1 = 2
      · have h := ite_t h c23
        refine j_tableIn C (tgt := 93) dX6_numberOf_1 (by rw [c23]; decide) (by rw [c23]; decide) (by rw [c23]; rfl) (by decide) ?_
        refine j_aload_n C (q := 0) dX6_numberOf_93 rfl rfl ?_
        refine fg_X6_12 C (i := 0) kA_0 dX6_numberOf_94 ?_
        refine fg_X6_116 C (i := 1) kA_1 dX6_numberOf_97 ?_
        refine j_iload_n C (q := 1) dX6_numberOf_100 rfl rfl ?_
        refine j_iconst C (v := 2) dX6_numberOf_101 (by decide) ?_
        refine j_isub C dX6_numberOf_102 ?_
        obtain ⟨x24, t25, e26, h⟩ := bd_some h
        refine j_callV_i C (i := 10) (As := [.int (x1 - 2)]) (rest := []) (c_X4_at l G B dy 10 kA_10 (x1 - 2) _ e26) (shp4 G B _ kA_10) (kd_lt kA_10 (by decide)) rfl tw_322 tw_323 tw_324 ti_4 tw_325 hd_X4_at ⟨Nat.le_of_ble_eq_true rfl, Nat.le_of_ble_eq_true rfl⟩ ⟨Nat.le_of_ble_eq_true rfl, Nat.le_of_ble_eq_true rfl⟩ rfl rfl (Nat.le_of_ble_eq_true rfl) dX6_numberOf_103 ?_
        refine j_iconst C (v := 5) dX6_numberOf_106 (by decide) ?_
        refine j_iadd C dX6_numberOf_107 ?_
        exact j_iret C hr hlk h ⟨Nat.le_of_ble_eq_true rfl, Nat.le_of_ble_eq_true rfl⟩ dX6_numberOf_108
      · have h := ite_f h c23
        by_cases c27 : x1 = 3
        · have h := ite_t h c27
          refine j_tableIn C (tgt := 93) dX6_numberOf_1 (by rw [c27]; decide) (by rw [c27]; decide) (by rw [c27]; rfl) (by decide) ?_
          refine j_aload_n C (q := 0) dX6_numberOf_93 rfl rfl ?_
          refine fg_X6_12 C (i := 0) kA_0 dX6_numberOf_94 ?_
          refine fg_X6_116 C (i := 1) kA_1 dX6_numberOf_97 ?_
          refine j_iload_n C (q := 1) dX6_numberOf_100 rfl rfl ?_
          refine j_iconst C (v := 2) dX6_numberOf_101 (by decide) ?_
          refine j_isub C dX6_numberOf_102 ?_
          obtain ⟨x28, t29, e30, h⟩ := bd_some h
          refine j_callV_i C (i := 10) (As := [.int (x1 - 2)]) (rest := []) (c_X4_at l G B dy 10 kA_10 (x1 - 2) _ e30) (shp4 G B _ kA_10) (kd_lt kA_10 (by decide)) rfl tw_322 tw_323 tw_324 ti_4 tw_325 hd_X4_at ⟨Nat.le_of_ble_eq_true rfl, Nat.le_of_ble_eq_true rfl⟩ ⟨Nat.le_of_ble_eq_true rfl, Nat.le_of_ble_eq_true rfl⟩ rfl rfl (Nat.le_of_ble_eq_true rfl) dX6_numberOf_103 ?_
          refine j_iconst C (v := 5) dX6_numberOf_106 (by decide) ?_
          refine j_iadd C dX6_numberOf_107 ?_
          exact j_iret C hr hlk h ⟨Nat.le_of_ble_eq_true rfl, Nat.le_of_ble_eq_true rfl⟩ dX6_numberOf_108
        · have h := ite_f h c27
          by_cases c31 : x1 = 4
          · have h := ite_t h c31
            refine j_tableIn C (tgt := 93) dX6_numberOf_1 (by rw [c31]; decide) (by rw [c31]; decide) (by rw [c31]; rfl) (by decide) ?_
            refine j_aload_n C (q := 0) dX6_numberOf_93 rfl rfl ?_
            refine fg_X6_12 C (i := 0) kA_0 dX6_numberOf_94 ?_
            refine fg_X6_116 C (i := 1) kA_1 dX6_numberOf_97 ?_
            refine j_iload_n C (q := 1) dX6_numberOf_100 rfl rfl ?_
            refine j_iconst C (v := 2) dX6_numberOf_101 (by decide) ?_
            refine j_isub C dX6_numberOf_102 ?_
            obtain ⟨x32, t33, e34, h⟩ := bd_some h
            refine j_callV_i C (i := 10) (As := [.int (x1 - 2)]) (rest := []) (c_X4_at l G B dy 10 kA_10 (x1 - 2) _ e34) (shp4 G B _ kA_10) (kd_lt kA_10 (by decide)) rfl tw_322 tw_323 tw_324 ti_4 tw_325 hd_X4_at ⟨Nat.le_of_ble_eq_true rfl, Nat.le_of_ble_eq_true rfl⟩ ⟨Nat.le_of_ble_eq_true rfl, Nat.le_of_ble_eq_true rfl⟩ rfl rfl (Nat.le_of_ble_eq_true rfl) dX6_numberOf_103 ?_
            refine j_iconst C (v := 5) dX6_numberOf_106 (by decide) ?_
            refine j_iadd C dX6_numberOf_107 ?_
            exact j_iret C hr hlk h ⟨Nat.le_of_ble_eq_true rfl, Nat.le_of_ble_eq_true rfl⟩ dX6_numberOf_108
          · have h := ite_f h c31
            by_cases c35 : x1 = 5
            · have h := ite_t h c35
              refine j_tableIn C (tgt := 64) dX6_numberOf_1 (by rw [c35]; decide) (by rw [c35]; decide) (by rw [c35]; rfl) (by decide) ?_
              refine j_aload_n C (q := 0) dX6_numberOf_64 rfl rfl ?_
              refine fg_X6_12 C (i := 0) kA_0 dX6_numberOf_65 ?_
              refine fg_X6_145 C (i := 1) kA_1 dX6_numberOf_68 ?_
              exact j_iret C hr hlk h ⟨Nat.le_of_ble_eq_true rfl, Nat.le_of_ble_eq_true rfl⟩ dX6_numberOf_71
            · have h := ite_f h c35
              by_cases c36 : x1 = 6
              · have h := ite_t h c36
                refine j_tableIn C (tgt := 72) dX6_numberOf_1 (by rw [c36]; decide) (by rw [c36]; decide) (by rw [c36]; rfl) (by decide) ?_
                refine j_aload_n C (q := 0) dX6_numberOf_72 rfl rfl ?_
                refine j_iconst C (v := 0) dX6_numberOf_73 (by decide) ?_
                refine j_aload_n C (q := 0) dX6_numberOf_74 rfl rfl ?_
                refine fg_X6_12 C (i := 0) kA_0 dX6_numberOf_75 ?_
                refine fg_X6_236 C (i := 1) kA_1 dX6_numberOf_78 ?_
                obtain ⟨x37, t38, e39, h⟩ := bd_some h
                refine j_callV_i C (i := 0) (As := [.int 0, .int (t0.1 1 7)]) (rest := []) (c_X6_staleFeasts l G B dy 0 (t0.1 1 7) _ e39) (shp6 G B _ kA_0) (kd_lt kA_0 (by decide)) rfl tw_335 tw_337 tp_3 ti_6 tw_338 hd_X6_staleFeasts ⟨Nat.le_of_ble_eq_true rfl, Nat.le_of_ble_eq_true rfl⟩ ⟨Nat.le_of_ble_eq_true rfl, Nat.le_of_ble_eq_true rfl⟩ rfl rfl (Nat.le_of_ble_eq_true rfl) dX6_numberOf_81 ?_
                exact j_iret C hr hlk h ⟨Nat.le_of_ble_eq_true rfl, Nat.le_of_ble_eq_true rfl⟩ dX6_numberOf_84
              · have h := ite_f h c36
                by_cases c40 : x1 = 7
                · have h := ite_t h c40
                  refine j_tableIn C (tgt := 85) dX6_numberOf_1 (by rw [c40]; decide) (by rw [c40]; decide) (by rw [c40]; rfl) (by decide) ?_
                  refine j_aload_n C (q := 0) dX6_numberOf_85 rfl rfl ?_
                  refine fg_X6_19 C (i := 0) kA_0 dX6_numberOf_86 ?_
                  obtain ⟨x41, t42, e43, h⟩ := bd_some h
                  refine j_callV_i C (i := 20) (As := []) (rest := []) (c_X1_size l G B dy _ e43) (shp1 G B _ kA_20) (kd_lt kA_20 (by decide)) rfl tw_400 tw_401 tw_402 ti_1 tw_403 hd_X1_size ⟨Nat.le_of_ble_eq_true rfl, Nat.le_of_ble_eq_true rfl⟩ ⟨Nat.le_of_ble_eq_true rfl, Nat.le_of_ble_eq_true rfl⟩ rfl rfl (Nat.le_of_ble_eq_true rfl) dX6_numberOf_89 ?_
                  exact j_iret C hr hlk h ⟨Nat.le_of_ble_eq_true rfl, Nat.le_of_ble_eq_true rfl⟩ dX6_numberOf_92
                · have h := ite_f h c40
                  have nc21 := lv_neT c21 (show (0 : Int32).toInt = 0 by decide)
                  have nc22 := lv_neT c22 (show (1 : Int32).toInt = 1 by decide)
                  have nc23 := lv_neT c23 (show (2 : Int32).toInt = 2 by decide)
                  have nc27 := lv_neT c27 (show (3 : Int32).toInt = 3 by decide)
                  have nc31 := lv_neT c31 (show (4 : Int32).toInt = 4 by decide)
                  have nc35 := lv_neT c35 (show (5 : Int32).toInt = 5 by decide)
                  have nc36 := lv_neT c36 (show (6 : Int32).toInt = 6 by decide)
                  have nc40 := lv_neT c40 (show (7 : Int32).toInt = 7 by decide)
                  refine j_tableOut C (x := x1) (tgt := 93) dX6_numberOf_1 (by omega) (by decide) ?_
                  refine j_aload_n C (q := 0) dX6_numberOf_93 rfl rfl ?_
                  refine fg_X6_12 C (i := 0) kA_0 dX6_numberOf_94 ?_
                  refine fg_X6_116 C (i := 1) kA_1 dX6_numberOf_97 ?_
                  refine j_iload_n C (q := 1) dX6_numberOf_100 rfl rfl ?_
                  refine j_iconst C (v := 2) dX6_numberOf_101 (by decide) ?_
                  refine j_isub C dX6_numberOf_102 ?_
                  obtain ⟨x44, t45, e46, h⟩ := bd_some h
                  refine j_callV_i C (i := 10) (As := [.int (x1 - 2)]) (rest := []) (c_X4_at l G B dy 10 kA_10 (x1 - 2) _ e46) (shp4 G B _ kA_10) (kd_lt kA_10 (by decide)) rfl tw_322 tw_323 tw_324 ti_4 tw_325 hd_X4_at ⟨Nat.le_of_ble_eq_true rfl, Nat.le_of_ble_eq_true rfl⟩ ⟨Nat.le_of_ble_eq_true rfl, Nat.le_of_ble_eq_true rfl⟩ rfl rfl (Nat.le_of_ble_eq_true rfl) dX6_numberOf_103 ?_
                  refine j_iconst C (v := 5) dX6_numberOf_106 (by decide) ?_
                  refine j_iadd C dX6_numberOf_107 ?_
                  exact j_iret C hr hlk h ⟨Nat.le_of_ble_eq_true rfl, Nat.le_of_ble_eq_true rfl⟩ dX6_numberOf_108
set_option maxRecDepth 100000 in
set_option maxHeartbeats 4000000 in
theorem c_X6_count (l : Launch) (G : GG) (B dy : Nat) (x1 : Int32) (t0 : St) {r : Int32} {t9 : St} (h : f_X6_count x1 t0 = some (r, t9)) : Ct l G B dy yX6_count cX6_count 2 (some .int) 6 142 0 0 [.ref (B + 0), .int x1] t0 (PostI G B r t9) := by
  refine Ct_of (by decide +kernel) [(0, .ref (B + 0)), (1, .int x1)] (Nat.le_of_ble_eq_true rfl) rfl ?_
  intro p e s m args below meth c C hr hlk
  refine j_iload_n C (q := 1) dX6_count_0 rfl rfl ?_
  refine j_iconst C (v := 0) dX6_count_1 (by decide) ?_
  refine j_bipush C (v := 7) dX6_count_2 (by decide) ?_
  obtain ⟨t22, e23, h⟩ := bv_some h
  refine j_callS_v C (i := 0) (As := [.int x1, .int 0, .int 7]) (rest := []) (c_X6_needWithin l G B dy x1 0 7 _ e23) tw_299 tw_300 ti_6 tw_301 ⟨rfl, hd_X6_needWithin⟩ ⟨Nat.le_of_ble_eq_true rfl, Nat.le_of_ble_eq_true rfl⟩ ⟨Nat.le_of_ble_eq_true rfl, Nat.le_of_ble_eq_true rfl⟩ rfl rfl (Nat.le_of_ble_eq_true rfl) dX6_count_4 ?_
  refine j_aload_n C (q := 0) dX6_count_7 rfl rfl ?_
  refine j_iload_n C (q := 1) dX6_count_8 rfl rfl ?_
  obtain ⟨x24, t25, e26, h⟩ := bd_some h
  refine j_callV_i C (i := 0) (As := [.int x1]) (rest := []) (c_X6_numberOf l G B dy x1 _ e26) (shp6 G B _ kA_0) (kd_lt kA_0 (by decide)) rfl tw_396 tw_398 tp_10 ti_6 tw_399 hd_X6_numberOf ⟨Nat.le_of_ble_eq_true rfl, Nat.le_of_ble_eq_true rfl⟩ ⟨Nat.le_of_ble_eq_true rfl, Nat.le_of_ble_eq_true rfl⟩ rfl rfl (Nat.le_of_ble_eq_true rfl) dX6_count_9 ?_
  exact j_iret C hr hlk h ⟨Nat.le_of_ble_eq_true rfl, Nat.le_of_ble_eq_true rfl⟩ dX6_count_12
set_option maxRecDepth 100000 in
set_option maxHeartbeats 4000000 in
theorem c_X6_outermost (l : Launch) (G : GG) (B dy : Nat) (x1 : Int32) (x2 : Int32) (x3 : Int32) (x4 : Int32) (t0 : St) {r : Int32} {t9 : St} (h : f_X6_outermost x1 x2 x3 x4 t0 = some (r, t9)) : Ct l G B dy yX6_outermost cX6_outermost 8 (some .int) 5 117 0 0 [.ref (B + 0), .int x1, .int x2, .int x3, .int x4] t0 (PostI G B r t9) := by
  refine Ct_of (by decide +kernel) [(0, .ref (B + 0)), (1, .int x1), (2, .int x2), (3, .int x3), (4, .int x4)] (Nat.le_of_ble_eq_true rfl) rfl ?_
  intro p e s m args below meth c C hr hlk
  have J6 : ∀ (n6 : Nat) (y5 : Int32) (y6 : Int32) (t0 : St), f_X6_outermost_l6 n6 x1 x2 x3 x4 y5 y6 t0 = some (r, t9) → WW G B p l e (RM 5 117 0 0) s m args below meth c 0 0 (MQ below (PostI G B r t9) args s 0 0 (Ab B)) 8 6 [(0, .ref (B + 0)), (1, .int x1), (2, .int x2), (3, .int x3), (4, .int x4), (5, .int y5), (6, .int y6)] [] t0 := by
    intro n6
    induction n6 with
    | zero => intro y5 y6 t0 h; exact (no_some h).elim
    | succ n6 ih6 =>
      try clear h
      intro y5 y6 t0 h
      have h : f_X6_outermost_b6 (f_X6_outermost_l6 n6) x1 x2 x3 x4 y5 y6 t0 = some (r, t9) := h
      refine j_iload C (q := 6) dX6_outermost_6 rfl ?_
      refine j_iload_n C (q := 2) dX6_outermost_8 rfl rfl ?_
      refine j_iload_n C (q := 3) dX6_outermost_9 rfl rfl ?_
      refine j_iadd C dX6_outermost_10 ?_
      refine j_icmp_ge C (tgt := 89) dX6_outermost_11 (by decide) (fun c21 => ?_) (fun c21 => ?_)
      · have h := ite_t h c21
        refine j_iload C (q := 5) dX6_outermost_89 rfl ?_
        exact j_iret C hr hlk h ⟨Nat.le_of_ble_eq_true rfl, Nat.le_of_ble_eq_true rfl⟩ dX6_outermost_91
      · have h := ite_f h c21
        refine j_iload C (q := 6) dX6_outermost_14 rfl ?_
        refine j_sipush C (v := 999) dX6_outermost_16 (by decide) ?_
        refine j_icmp_gt C (tgt := 89) dX6_outermost_19 (by decide) (fun c22 => ?_) (fun c22 => ?_)
        · have h := ite_t h c22
          refine j_iload C (q := 5) dX6_outermost_89 rfl ?_
          exact j_iret C hr hlk h ⟨Nat.le_of_ble_eq_true rfl, Nat.le_of_ble_eq_true rfl⟩ dX6_outermost_91
        · have h := ite_f h c22
          refine j_aload_n C (q := 0) dX6_outermost_22 rfl rfl ?_
          refine fg_X6_49 C (i := 0) kA_0 dX6_outermost_23 ?_
          refine j_aload_n C (q := 0) dX6_outermost_26 rfl rfl ?_
          refine fg_X6_12 C (i := 0) kA_0 dX6_outermost_27 ?_
          refine j_iload C (q := 6) dX6_outermost_30 rfl ?_
          obtain ⟨t24, e25, h⟩ := bv_some h
          refine j_callV_v C (i := 144) (As := [.ref (B + 1), .int y6]) (rest := []) (c_X0_gather l G B dy 144 kA_144 1 kA_1 y6 _ e25) (shp0 G B _ kA_144) (kd_lt kA_144 (by decide)) rfl tw_618 tw_619 tw_620 ti_0 tw_621 hd_X0_gather ⟨Nat.le_of_ble_eq_true rfl, Nat.le_of_ble_eq_true rfl⟩ ⟨Nat.le_of_ble_eq_true rfl, Nat.le_of_ble_eq_true rfl⟩ rfl rfl (Nat.le_of_ble_eq_true rfl) dX6_outermost_32 ?_
          refine j_aload_n C (q := 0) dX6_outermost_35 rfl rfl ?_
          refine fg_X6_49 C (i := 0) kA_0 dX6_outermost_36 ?_
          refine j_iload_n C (q := 1) dX6_outermost_39 rfl rfl ?_
          obtain ⟨x26, t27, e28, h⟩ := bd_some h
          refine j_callV_i C (i := 144) (As := [.int x1]) (rest := []) (c_X0_settledNotch l G B dy 144 kA_144 x1 _ e28) (shp0 G B _ kA_144) (kd_lt kA_144 (by decide)) rfl tw_628 tw_629 tw_630 ti_0 tw_631 hd_X0_settledNotch ⟨Nat.le_of_ble_eq_true rfl, Nat.le_of_ble_eq_true rfl⟩ ⟨Nat.le_of_ble_eq_true rfl, Nat.le_of_ble_eq_true rfl⟩ rfl rfl (Nat.le_of_ble_eq_true rfl) dX6_outermost_40 ?_
          refine j_istore C [(0, .ref (B + 0)), (1, .int x1), (2, .int x2), (3, .int x3), (4, .int x4), (5, .int y5), (6, .int y6), (7, .int x26)] [1, 2, 3, 4, 5, 6, 7, 0] dX6_outermost_43 (by decide) rfl ?_
          refine j_iload C (q := 7) dX6_outermost_45 rfl ?_
          refine j_iconst C (v := (-1)) dX6_outermost_47 (by decide) ?_
          refine j_icmp_eq C (tgt := 83) dX6_outermost_48 (by decide) (fun c29 => ?_) (fun c29 => ?_)
          · have h := ite_t h c29
            obtain ⟨x30, ex30⟩ : ∃ y : Int32, y = (y6 + 1) := ⟨_, rfl⟩
            have h := lt_at h ex30
            refine j_iinc C (q := 6) [(0, .ref (B + 0)), (1, .int x1), (2, .int x2), (3, .int x3), (4, .int x4), (5, .int y5), (6, .int x30), (7, .int x26)] [1, 2, 3, 4, 5, 6, 0, 7] dX6_outermost_83 rfl (by rw [ex30]; rfl) (by decide) rfl ?_
            refine j_goto C (tgt := 6) dX6_outermost_86 (by decide) ?_
            refine j_sub [0, 1, 2, 3, 4, 5, 6] rfl ?_
            exact ih6 y5 x30 _ h
          · have h := ite_f h c29
            refine j_iload C (q := 5) dX6_outermost_51 rfl ?_
            refine j_iconst C (v := (-1)) dX6_outermost_53 (by decide) ?_
            refine j_icmp_eq C (tgt := 79) dX6_outermost_54 (by decide) (fun c31 => ?_) (fun c31 => ?_)
            · have h := ite_t h c31
              refine j_iload C (q := 7) dX6_outermost_79 rfl ?_
              refine j_istore C [(0, .ref (B + 0)), (1, .int x1), (2, .int x2), (3, .int x3), (4, .int x4), (5, .int x26), (6, .int y6), (7, .int x26)] [1, 2, 3, 4, 5, 0, 6, 7] dX6_outermost_81 (by decide) rfl ?_
              obtain ⟨x32, ex32⟩ : ∃ y : Int32, y = (y6 + 1) := ⟨_, rfl⟩
              have h := lt_at h ex32
              refine j_iinc C (q := 6) [(0, .ref (B + 0)), (1, .int x1), (2, .int x2), (3, .int x3), (4, .int x4), (5, .int x26), (6, .int x32), (7, .int x26)] [1, 2, 3, 4, 5, 6, 0, 7] dX6_outermost_83 rfl (by rw [ex32]; rfl) (by decide) rfl ?_
              refine j_goto C (tgt := 6) dX6_outermost_86 (by decide) ?_
              refine j_sub [0, 1, 2, 3, 4, 5, 6] rfl ?_
              exact ih6 x26 x32 _ h
            · have h := ite_f h c31
              refine j_iload C (q := 4) dX6_outermost_57 rfl ?_
              refine j_if_eq C (tgt := 72) dX6_outermost_59 (by decide) (fun c33 => ?_) (fun c33 => ?_)
              · have h := ite_t h c33
                refine j_iload C (q := 7) dX6_outermost_72 rfl ?_
                refine j_iload C (q := 5) dX6_outermost_74 rfl ?_
                refine j_icmp_ge C (tgt := 83) dX6_outermost_76 (by decide) (fun c34 => ?_) (fun c34 => ?_)
                · have h := ite_t h c34
                  obtain ⟨x35, ex35⟩ : ∃ y : Int32, y = (y6 + 1) := ⟨_, rfl⟩
                  have h := lt_at h ex35
                  refine j_iinc C (q := 6) [(0, .ref (B + 0)), (1, .int x1), (2, .int x2), (3, .int x3), (4, .int x4), (5, .int y5), (6, .int x35), (7, .int x26)] [1, 2, 3, 4, 5, 6, 0, 7] dX6_outermost_83 rfl (by rw [ex35]; rfl) (by decide) rfl ?_
                  refine j_goto C (tgt := 6) dX6_outermost_86 (by decide) ?_
                  refine j_sub [0, 1, 2, 3, 4, 5, 6] rfl ?_
                  exact ih6 y5 x35 _ h
                · have h := ite_f h c34
                  refine j_iload C (q := 7) dX6_outermost_79 rfl ?_
                  refine j_istore C [(0, .ref (B + 0)), (1, .int x1), (2, .int x2), (3, .int x3), (4, .int x4), (5, .int x26), (6, .int y6), (7, .int x26)] [1, 2, 3, 4, 5, 0, 6, 7] dX6_outermost_81 (by decide) rfl ?_
                  obtain ⟨x36, ex36⟩ : ∃ y : Int32, y = (y6 + 1) := ⟨_, rfl⟩
                  have h := lt_at h ex36
                  refine j_iinc C (q := 6) [(0, .ref (B + 0)), (1, .int x1), (2, .int x2), (3, .int x3), (4, .int x4), (5, .int x26), (6, .int x36), (7, .int x26)] [1, 2, 3, 4, 5, 6, 0, 7] dX6_outermost_83 rfl (by rw [ex36]; rfl) (by decide) rfl ?_
                  refine j_goto C (tgt := 6) dX6_outermost_86 (by decide) ?_
                  refine j_sub [0, 1, 2, 3, 4, 5, 6] rfl ?_
                  exact ih6 x26 x36 _ h
              · have h := ite_f h c33
                refine j_iload C (q := 7) dX6_outermost_62 rfl ?_
                refine j_iload C (q := 5) dX6_outermost_64 rfl ?_
                refine j_icmp_le C (tgt := 83) dX6_outermost_66 (by decide) (fun c37 => ?_) (fun c37 => ?_)
                · have h := ite_t h c37
                  obtain ⟨x38, ex38⟩ : ∃ y : Int32, y = (y6 + 1) := ⟨_, rfl⟩
                  have h := lt_at h ex38
                  refine j_iinc C (q := 6) [(0, .ref (B + 0)), (1, .int x1), (2, .int x2), (3, .int x3), (4, .int x4), (5, .int y5), (6, .int x38), (7, .int x26)] [1, 2, 3, 4, 5, 6, 0, 7] dX6_outermost_83 rfl (by rw [ex38]; rfl) (by decide) rfl ?_
                  refine j_goto C (tgt := 6) dX6_outermost_86 (by decide) ?_
                  refine j_sub [0, 1, 2, 3, 4, 5, 6] rfl ?_
                  exact ih6 y5 x38 _ h
                · have h := ite_f h c37
                  refine j_goto C (tgt := 79) dX6_outermost_69 (by decide) ?_
                  refine j_iload C (q := 7) dX6_outermost_79 rfl ?_
                  refine j_istore C [(0, .ref (B + 0)), (1, .int x1), (2, .int x2), (3, .int x3), (4, .int x4), (5, .int x26), (6, .int y6), (7, .int x26)] [1, 2, 3, 4, 5, 0, 6, 7] dX6_outermost_81 (by decide) rfl ?_
                  obtain ⟨x39, ex39⟩ : ∃ y : Int32, y = (y6 + 1) := ⟨_, rfl⟩
                  have h := lt_at h ex39
                  refine j_iinc C (q := 6) [(0, .ref (B + 0)), (1, .int x1), (2, .int x2), (3, .int x3), (4, .int x4), (5, .int x26), (6, .int x39), (7, .int x26)] [1, 2, 3, 4, 5, 6, 0, 7] dX6_outermost_83 rfl (by rw [ex39]; rfl) (by decide) rfl ?_
                  refine j_goto C (tgt := 6) dX6_outermost_86 (by decide) ?_
                  refine j_sub [0, 1, 2, 3, 4, 5, 6] rfl ?_
                  exact ih6 x26 x39 _ h
  refine j_iconst C (v := (-1)) dX6_outermost_0 (by decide) ?_
  refine j_istore C [(0, .ref (B + 0)), (1, .int x1), (2, .int x2), (3, .int x3), (4, .int x4), (5, .int (-1))] [1, 2, 3, 4, 5, 0] dX6_outermost_1 (by decide) rfl ?_
  refine j_iload_n C (q := 2) dX6_outermost_3 rfl rfl ?_
  refine j_istore C [(0, .ref (B + 0)), (1, .int x1), (2, .int x2), (3, .int x3), (4, .int x4), (5, .int (-1)), (6, .int x2)] [1, 2, 3, 4, 5, 6, 0] dX6_outermost_4 (by decide) rfl ?_
  exact J6 FU (-1) x2 _ h
set_option maxRecDepth 100000 in
set_option maxHeartbeats 4000000 in
theorem c_X6_range (l : Launch) (G : GG) (B dy : Nat) (x1 : Int32) (x2 : Int32) (x3 : Int32) (x4 : Int32) (t0 : St) {r : Int32} {t9 : St} (h : f_X6_range x1 x2 x3 x4 t0 = some (r, t9)) : Ct l G B dy yX6_range cX6_range 5 (some .int) 6 144 0 0 [.ref (B + 0), .int x1, .int x2, .int x3, .int x4] t0 (PostI G B r t9) := by
  refine Ct_of (by decide +kernel) [(0, .ref (B + 0)), (1, .int x1), (2, .int x2), (3, .int x3), (4, .int x4)] (Nat.le_of_ble_eq_true rfl) rfl ?_
  intro p e s m args below meth c C hr hlk
  refine j_aload_n C (q := 0) dX6_range_0 rfl rfl ?_
  refine j_iload_n C (q := 1) dX6_range_1 rfl rfl ?_
  obtain ⟨t22, e23, h⟩ := bv_some h
  refine j_callV_v C (i := 0) (As := [.int x1]) (rest := []) (c_X6_needFeast l G B dy x1 _ e23) (shp6 G B _ kA_0) (kd_lt kA_0 (by decide)) rfl tw_549 tw_551 tp_26 ti_6 tw_552 hd_X6_needFeast ⟨Nat.le_of_ble_eq_true rfl, Nat.le_of_ble_eq_true rfl⟩ ⟨Nat.le_of_ble_eq_true rfl, Nat.le_of_ble_eq_true rfl⟩ rfl rfl (Nat.le_of_ble_eq_true rfl) dX6_range_2 ?_
  refine j_iload_n C (q := 2) dX6_range_5 rfl rfl ?_
  obtain ⟨t25, e26, h⟩ := bv_some h
  refine j_callS_v C (i := 0) (As := [.int x2]) (rest := []) (c_X6_needYear l G B dy x2 _ e26) tw_565 tw_566 ti_6 tw_567 ⟨rfl, hd_X6_needYear⟩ ⟨Nat.le_of_ble_eq_true rfl, Nat.le_of_ble_eq_true rfl⟩ ⟨Nat.le_of_ble_eq_true rfl, Nat.le_of_ble_eq_true rfl⟩ rfl rfl (Nat.le_of_ble_eq_true rfl) dX6_range_6 ?_
  refine j_iload_n C (q := 3) dX6_range_9 rfl rfl ?_
  refine j_iconst C (v := 1) dX6_range_10 (by decide) ?_
  refine j_bipush C (v := 40) dX6_range_11 (by decide) ?_
  obtain ⟨t28, e29, h⟩ := bv_some h
  refine j_callS_v C (i := 0) (As := [.int x3, .int 1, .int 40]) (rest := []) (c_X6_needWithin l G B dy x3 1 40 _ e29) tw_299 tw_300 ti_6 tw_301 ⟨rfl, hd_X6_needWithin⟩ ⟨Nat.le_of_ble_eq_true rfl, Nat.le_of_ble_eq_true rfl⟩ ⟨Nat.le_of_ble_eq_true rfl, Nat.le_of_ble_eq_true rfl⟩ rfl rfl (Nat.le_of_ble_eq_true rfl) dX6_range_13 ?_
  refine j_aload_n C (q := 0) dX6_range_16 rfl rfl ?_
  refine j_iload_n C (q := 1) dX6_range_17 rfl rfl ?_
  refine j_iload_n C (q := 2) dX6_range_18 rfl rfl ?_
  refine j_iload_n C (q := 3) dX6_range_19 rfl rfl ?_
  refine j_iload C (q := 4) dX6_range_20 rfl ?_
  obtain ⟨x30, t31, e32, h⟩ := bd_some h
  refine j_callV_i C (i := 0) (As := [.int x1, .int x2, .int x3, .int x4]) (rest := []) (c_X6_outermost l G B dy x1 x2 x3 x4 _ e32) (shp6 G B _ kA_0) (kd_lt kA_0 (by decide)) rfl tw_711 tw_713 tp_33 ti_6 tw_714 hd_X6_outermost ⟨Nat.le_of_ble_eq_true rfl, Nat.le_of_ble_eq_true rfl⟩ ⟨Nat.le_of_ble_eq_true rfl, Nat.le_of_ble_eq_true rfl⟩ rfl rfl (Nat.le_of_ble_eq_true rfl) dX6_range_22 ?_
  exact j_iret C hr hlk h ⟨Nat.le_of_ble_eq_true rfl, Nat.le_of_ble_eq_true rfl⟩ dX6_range_25
set_option maxRecDepth 100000 in
set_option maxHeartbeats 4000000 in
theorem c_X6_nextAlike (l : Launch) (G : GG) (B dy : Nat) (x1 : Int32) (t0 : St) {r : Int32} {t9 : St} (h : f_X6_nextAlike x1 t0 = some (r, t9)) : Ct l G B dy yX6_nextAlike cX6_nextAlike 3 (some .int) 5 117 0 0 [.ref (B + 0), .int x1] t0 (PostI G B r t9) := by
  refine Ct_of (by decide +kernel) [(0, .ref (B + 0)), (1, .int x1)] (Nat.le_of_ble_eq_true rfl) rfl ?_
  intro p e s m args below meth c C hr hlk
  have J16 : ∀ (n16 : Nat) (y2 : Int32) (t0 : St), f_X6_nextAlike_l16 n16 x1 y2 t0 = some (r, t9) → WW G B p l e (RM 5 117 0 0) s m args below meth c 0 0 (MQ below (PostI G B r t9) args s 0 0 (Ab B)) 3 16 [(0, .ref (B + 0)), (1, .int x1), (2, .int y2)] [] t0 := by
    intro n16
    induction n16 with
    | zero => intro y2 t0 h; exact (no_some h).elim
    | succ n16 ih16 =>
      try clear h
      intro y2 t0 h
      have h : f_X6_nextAlike_b16 (f_X6_nextAlike_l16 n16) x1 y2 t0 = some (r, t9) := h
      refine j_iload_n C (q := 2) dX6_nextAlike_16 rfl rfl ?_
      refine j_iload_n C (q := 1) dX6_nextAlike_17 rfl rfl ?_
      refine j_bipush C (v := 100) dX6_nextAlike_18 (by decide) ?_
      refine j_iadd C dX6_nextAlike_20 ?_
      refine j_icmp_gt C (tgt := 94) dX6_nextAlike_21 (by decide) (fun c21 => ?_) (fun c21 => ?_)
      · have h := ite_t h c21
        refine j_iconst C (v := (-1)) dX6_nextAlike_94 (by decide) ?_
        exact j_iret C hr hlk h ⟨Nat.le_of_ble_eq_true rfl, Nat.le_of_ble_eq_true rfl⟩ dX6_nextAlike_95
      · have h := ite_f h c21
        refine j_iload_n C (q := 2) dX6_nextAlike_24 rfl rfl ?_
        refine j_sipush C (v := 999) dX6_nextAlike_25 (by decide) ?_
        refine j_icmp_gt C (tgt := 94) dX6_nextAlike_28 (by decide) (fun c22 => ?_) (fun c22 => ?_)
        · have h := ite_t h c22
          refine j_iconst C (v := (-1)) dX6_nextAlike_94 (by decide) ?_
          exact j_iret C hr hlk h ⟨Nat.le_of_ble_eq_true rfl, Nat.le_of_ble_eq_true rfl⟩ dX6_nextAlike_95
        · have h := ite_f h c22
          refine j_iload_n C (q := 2) dX6_nextAlike_31 rfl rfl ?_
          obtain ⟨x23, t24, e25, h⟩ := bd_some h
          refine j_callS_i C (i := 0) (As := [.int y2]) (rest := []) (c_X6_daysIn l G B dy y2 _ e25) tw_610 tw_344 ti_6 tw_345 ⟨rfl, hd_X6_daysIn⟩ ⟨Nat.le_of_ble_eq_true rfl, Nat.le_of_ble_eq_true rfl⟩ ⟨Nat.le_of_ble_eq_true rfl, Nat.le_of_ble_eq_true rfl⟩ rfl rfl (Nat.le_of_ble_eq_true rfl) dX6_nextAlike_32 ?_
          refine j_iload_n C (q := 1) dX6_nextAlike_35 rfl rfl ?_
          obtain ⟨x26, t27, e28, h⟩ := bd_some h
          refine j_callS_i C (i := 0) (As := [.int x1]) (rest := [.int x23]) (c_X6_daysIn l G B dy x1 _ e28) tw_610 tw_344 ti_6 tw_345 ⟨rfl, hd_X6_daysIn⟩ ⟨Nat.le_of_ble_eq_true rfl, Nat.le_of_ble_eq_true rfl⟩ ⟨Nat.le_of_ble_eq_true rfl, Nat.le_of_ble_eq_true rfl⟩ rfl rfl (Nat.le_of_ble_eq_true rfl) dX6_nextAlike_36 ?_
          refine j_icmp_ne C (tgt := 88) dX6_nextAlike_39 (by decide) (fun c29 => ?_) (fun c29 => ?_)
          · have h := ite_t h c29
            refine j_iload_n C (q := 2) dX6_nextAlike_42 rfl rfl ?_
            obtain ⟨x31, t32, e33, h⟩ := bd_some h
            refine j_callS_i C (i := 0) (As := [.int y2]) (rest := []) (c_X6_newYearWeekday l G B dy y2 _ e33) tw_611 tw_350 ti_6 tw_351 ⟨rfl, hd_X6_newYearWeekday⟩ ⟨Nat.le_of_ble_eq_true rfl, Nat.le_of_ble_eq_true rfl⟩ ⟨Nat.le_of_ble_eq_true rfl, Nat.le_of_ble_eq_true rfl⟩ rfl rfl (Nat.le_of_ble_eq_true rfl) dX6_nextAlike_43 ?_
            refine j_iload_n C (q := 1) dX6_nextAlike_46 rfl rfl ?_
            obtain ⟨x34, t35, e36, h⟩ := bd_some h
            refine j_callS_i C (i := 0) (As := [.int x1]) (rest := [.int x31]) (c_X6_newYearWeekday l G B dy x1 _ e36) tw_611 tw_350 ti_6 tw_351 ⟨rfl, hd_X6_newYearWeekday⟩ ⟨Nat.le_of_ble_eq_true rfl, Nat.le_of_ble_eq_true rfl⟩ ⟨Nat.le_of_ble_eq_true rfl, Nat.le_of_ble_eq_true rfl⟩ rfl rfl (Nat.le_of_ble_eq_true rfl) dX6_nextAlike_47 ?_
            refine j_icmp_ne C (tgt := 88) dX6_nextAlike_50 (by decide) (fun c37 => ?_) (fun c37 => ?_)
            · have h := ite_t h c37
              refine j_aload_n C (q := 0) dX6_nextAlike_53 rfl rfl ?_
              refine fg_X6_53 C (i := 0) kA_0 dX6_nextAlike_54 ?_
              refine j_aload_n C (q := 0) dX6_nextAlike_57 rfl rfl ?_
              refine fg_X6_12 C (i := 0) kA_0 dX6_nextAlike_58 ?_
              refine j_iload_n C (q := 2) dX6_nextAlike_61 rfl rfl ?_
              obtain ⟨t40, e41, h⟩ := bv_some h
              refine j_callV_v C (i := 160) (As := [.ref (B + 1), .int y2]) (rest := []) (c_X0_gather l G B dy 160 kA_160 1 kA_1 y2 _ e41) (shp0 G B _ kA_160) (kd_lt kA_160 (by decide)) rfl tw_618 tw_619 tw_620 ti_0 tw_621 hd_X0_gather ⟨Nat.le_of_ble_eq_true rfl, Nat.le_of_ble_eq_true rfl⟩ ⟨Nat.le_of_ble_eq_true rfl, Nat.le_of_ble_eq_true rfl⟩ rfl rfl (Nat.le_of_ble_eq_true rfl) dX6_nextAlike_62 ?_
              refine j_aload_n C (q := 0) dX6_nextAlike_65 rfl rfl ?_
              refine fg_X6_53 C (i := 0) kA_0 dX6_nextAlike_66 ?_
              refine j_aload_n C (q := 0) dX6_nextAlike_69 rfl rfl ?_
              refine fg_X6_49 C (i := 0) kA_0 dX6_nextAlike_70 ?_
              refine j_aload_n C (q := 0) dX6_nextAlike_73 rfl rfl ?_
              refine fg_X6_12 C (i := 0) kA_0 dX6_nextAlike_74 ?_
              refine fg_X6_87 C (i := 1) kA_1 dX6_nextAlike_77 ?_
              obtain ⟨x42, t43, e44, h⟩ := bd_some h
              refine j_callV_i C (i := 160) (As := [.ref (B + 144), .int (t40.1 1 0)]) (rest := []) (c_X0_settlesLike l G B dy 160 kA_160 144 kA_144 (t40.1 1 0) _ e44) (shp0 G B _ kA_160) (kd_lt kA_160 (by decide)) rfl tw_702 tw_703 tw_704 ti_0 tw_705 hd_X0_settlesLike ⟨Nat.le_of_ble_eq_true rfl, Nat.le_of_ble_eq_true rfl⟩ ⟨Nat.le_of_ble_eq_true rfl, Nat.le_of_ble_eq_true rfl⟩ rfl rfl (Nat.le_of_ble_eq_true rfl) dX6_nextAlike_80 ?_
              refine j_if_eq C (tgt := 88) dX6_nextAlike_83 (by decide) (fun c45 => ?_) (fun c45 => ?_)
              · have h := ite_t h c45
                obtain ⟨x46, ex46⟩ : ∃ y : Int32, y = (y2 + 1) := ⟨_, rfl⟩
                have h := lt_at h ex46
                refine j_iinc C (q := 2) [(0, .ref (B + 0)), (1, .int x1), (2, .int x46)] [1, 2, 0] dX6_nextAlike_88 rfl (by rw [ex46]; rfl) (by decide) rfl ?_
                refine j_goto C (tgt := 16) dX6_nextAlike_91 (by decide) ?_
                exact ih16 x46 _ h
              · have h := ite_f h c45
                refine j_iload_n C (q := 2) dX6_nextAlike_86 rfl rfl ?_
                exact j_iret C hr hlk h ⟨Nat.le_of_ble_eq_true rfl, Nat.le_of_ble_eq_true rfl⟩ dX6_nextAlike_87
            · have h := ite_f h c37
              obtain ⟨x38, ex38⟩ : ∃ y : Int32, y = (y2 + 1) := ⟨_, rfl⟩
              have h := lt_at h ex38
              refine j_iinc C (q := 2) [(0, .ref (B + 0)), (1, .int x1), (2, .int x38)] [1, 2, 0] dX6_nextAlike_88 rfl (by rw [ex38]; rfl) (by decide) rfl ?_
              refine j_goto C (tgt := 16) dX6_nextAlike_91 (by decide) ?_
              exact ih16 x38 _ h
          · have h := ite_f h c29
            obtain ⟨x30, ex30⟩ : ∃ y : Int32, y = (y2 + 1) := ⟨_, rfl⟩
            have h := lt_at h ex30
            refine j_iinc C (q := 2) [(0, .ref (B + 0)), (1, .int x1), (2, .int x30)] [1, 2, 0] dX6_nextAlike_88 rfl (by rw [ex30]; rfl) (by decide) rfl ?_
            refine j_goto C (tgt := 16) dX6_nextAlike_91 (by decide) ?_
            exact ih16 x30 _ h
  refine j_aload_n C (q := 0) dX6_nextAlike_0 rfl rfl ?_
  refine fg_X6_49 C (i := 0) kA_0 dX6_nextAlike_1 ?_
  refine j_aload_n C (q := 0) dX6_nextAlike_4 rfl rfl ?_
  refine fg_X6_12 C (i := 0) kA_0 dX6_nextAlike_5 ?_
  refine j_iload_n C (q := 1) dX6_nextAlike_8 rfl rfl ?_
  obtain ⟨t48, e49, h⟩ := bv_some h
  refine j_callV_v C (i := 144) (As := [.ref (B + 1), .int x1]) (rest := []) (c_X0_gather l G B dy 144 kA_144 1 kA_1 x1 _ e49) (shp0 G B _ kA_144) (kd_lt kA_144 (by decide)) rfl tw_618 tw_619 tw_620 ti_0 tw_621 hd_X0_gather ⟨Nat.le_of_ble_eq_true rfl, Nat.le_of_ble_eq_true rfl⟩ ⟨Nat.le_of_ble_eq_true rfl, Nat.le_of_ble_eq_true rfl⟩ rfl rfl (Nat.le_of_ble_eq_true rfl) dX6_nextAlike_9 ?_
  refine j_iload_n C (q := 1) dX6_nextAlike_12 rfl rfl ?_
  refine j_iconst C (v := 1) dX6_nextAlike_13 (by decide) ?_
  refine j_iadd C dX6_nextAlike_14 ?_
  refine j_topi (fun x50 ex50 => ?_)
  have h := lt_at h ex50
  refine j_istore_n C [(0, .ref (B + 0)), (1, .int x1), (2, .int x50)] [1, 2, 0] dX6_nextAlike_15 rfl (by decide) rfl ?_
  exact J16 FU x50 _ h
set_option maxRecDepth 100000 in
set_option maxHeartbeats 4000000 in
theorem c_X6_alike (l : Launch) (G : GG) (B dy : Nat) (x1 : Int32) (t0 : St) {r : Int32} {t9 : St} (h : f_X6_alike x1 t0 = some (r, t9)) : Ct l G B dy yX6_alike cX6_alike 2 (some .int) 6 139 0 0 [.ref (B + 0), .int x1] t0 (PostI G B r t9) := by
  refine Ct_of (by decide +kernel) [(0, .ref (B + 0)), (1, .int x1)] (Nat.le_of_ble_eq_true rfl) rfl ?_
  intro p e s m args below meth c C hr hlk
  refine j_iload_n C (q := 1) dX6_alike_0 rfl rfl ?_
  obtain ⟨t22, e23, h⟩ := bv_some h
  refine j_callS_v C (i := 0) (As := [.int x1]) (rest := []) (c_X6_needYear l G B dy x1 _ e23) tw_565 tw_566 ti_6 tw_567 ⟨rfl, hd_X6_needYear⟩ ⟨Nat.le_of_ble_eq_true rfl, Nat.le_of_ble_eq_true rfl⟩ ⟨Nat.le_of_ble_eq_true rfl, Nat.le_of_ble_eq_true rfl⟩ rfl rfl (Nat.le_of_ble_eq_true rfl) dX6_alike_1 ?_
  refine j_aload_n C (q := 0) dX6_alike_4 rfl rfl ?_
  refine j_iload_n C (q := 1) dX6_alike_5 rfl rfl ?_
  obtain ⟨x24, t25, e26, h⟩ := bd_some h
  refine j_callV_i C (i := 0) (As := [.int x1]) (rest := []) (c_X6_nextAlike l G B dy x1 _ e26) (shp6 G B _ kA_0) (kd_lt kA_0 (by decide)) rfl tw_698 tw_700 tp_32 ti_6 tw_701 hd_X6_nextAlike ⟨Nat.le_of_ble_eq_true rfl, Nat.le_of_ble_eq_true rfl⟩ ⟨Nat.le_of_ble_eq_true rfl, Nat.le_of_ble_eq_true rfl⟩ rfl rfl (Nat.le_of_ble_eq_true rfl) dX6_alike_6 ?_
  exact j_iret C hr hlk h ⟨Nat.le_of_ble_eq_true rfl, Nat.le_of_ble_eq_true rfl⟩ dX6_alike_9
set_option maxRecDepth 100000 in
set_option maxHeartbeats 4000000 in
theorem c_X6_calmestSlip (l : Launch) (G : GG) (B dy : Nat) (x1 : Int32) (x2 : Int32) (t0 : St) {r : Int32} {t9 : St} (h : f_X6_calmestSlip x1 x2 t0 = some (r, t9)) : Ct l G B dy yX6_calmestSlip cX6_calmestSlip 9 (some .int) 5 117 0 0 [.ref (B + 0), .int x1, .int x2] t0 (PostI G B r t9) := by
  refine Ct_of (by decide +kernel) [(0, .ref (B + 0)), (1, .int x1), (2, .int x2)] (Nat.le_of_ble_eq_true rfl) rfl ?_
  intro p e s m args below meth c C hr hlk
  have J21 : ∀ (n21 : Nat) (y3 : Int32) (y4 : Int32) (y5 : Int32) (t0 : St), f_X6_calmestSlip_l21 n21 x1 x2 y3 y4 y5 t0 = some (r, t9) → WW G B p l e (RM 5 117 0 0) s m args below meth c 0 0 (MQ below (PostI G B r t9) args s 0 0 (Ab B)) 9 21 [(0, .ref (B + 0)), (1, .int x1), (2, .int x2), (3, .int y3), (4, .int y4), (5, .int y5)] [] t0 := by
    intro n21
    induction n21 with
    | zero => intro y3 y4 y5 t0 h; exact (no_some h).elim
    | succ n21 ih21 =>
      try clear h
      have J52 : ∀ (y3 : Int32) (y4 : Int32) (y5 : Int32) (w0 : Int32) (t0 : St), f_X6_calmestSlip_b52 (f_X6_calmestSlip_l21 n21) x1 x2 y3 y4 y5 w0 t0 = some (r, t9) → WW G B p l e (RM 5 117 0 0) s m args below meth c 0 0 (MQ below (PostI G B r t9) args s 0 0 (Ab B)) 9 52 [(0, .ref (B + 0)), (1, .int x1), (2, .int x2), (3, .int y3), (4, .int y4), (5, .int y5)] [.int w0] t0 := by
        intro y3 y4 y5 w0 t0 h
        refine j_istore C [(0, .ref (B + 0)), (1, .int x1), (2, .int x2), (3, .int y3), (4, .int y4), (5, .int y5), (7, .int w0)] [1, 2, 3, 4, 5, 6, 0] dX6_calmestSlip_52 (by decide) rfl ?_
        refine j_aload_n C (q := 0) dX6_calmestSlip_54 rfl rfl ?_
        refine fg_X6_49 C (i := 0) kA_0 dX6_calmestSlip_55 ?_
        refine j_iload_n C (q := 1) dX6_calmestSlip_58 rfl rfl ?_
        obtain ⟨x21, t22, e23, h⟩ := bd_some h
        refine j_callV_q C (i := 144) (As := [.int x1]) (rest := []) (c_X0_by l G B dy 144 kA_144 x1 _ e23) (shp0 G B _ kA_144) (kd_lt kA_144 (by decide)) rfl tw_677 tw_623 tw_624 ti_0 tw_625 hd_X0_by ⟨Nat.le_of_ble_eq_true rfl, Nat.le_of_ble_eq_true rfl⟩ ⟨Nat.le_of_ble_eq_true rfl, Nat.le_of_ble_eq_true rfl⟩ rfl rfl (Nat.le_of_ble_eq_true rfl) dX6_calmestSlip_59 ?_
        cases x21 with
        | none =>
          have h := oc_none h
          exact (no_some h).elim
        | some a24 =>
          have h := oc_some h
          obtain ⟨g25, h⟩ := gd_some h
          refine j_aload_n C (q := 0) dX6_calmestSlip_62 rfl rfl ?_
          refine fg_X6_12 C (i := 0) kA_0 dX6_calmestSlip_63 ?_
          refine j_iload_n C (q := 2) dX6_calmestSlip_66 rfl rfl ?_
          refine j_iload C (q := 6) dX6_calmestSlip_67 rfl ?_
          obtain ⟨t27, e28, h⟩ := bv_some h
          refine j_callV_v C (i := a24) (As := [.ref (B + 1), .int x2, .int w0]) (rest := []) (c_X3_reckon l G B dy a24 (isN_eq g25) 1 kA_1 x2 w0 _ e28) (shp3 G B _ (isN_eq g25)) (kd_lt (isN_eq g25) (by decide)) rfl tw_339 tw_340 tw_341 ti_3 tw_342 hd_X3_reckon ⟨Nat.le_of_ble_eq_true rfl, Nat.le_of_ble_eq_true rfl⟩ ⟨Nat.le_of_ble_eq_true rfl, Nat.le_of_ble_eq_true rfl⟩ rfl rfl (Nat.le_of_ble_eq_true rfl) dX6_calmestSlip_69 ?_
          refine j_aload_n C (q := 0) dX6_calmestSlip_72 rfl rfl ?_
          refine fg_X6_49 C (i := 0) kA_0 dX6_calmestSlip_73 ?_
          refine j_aload_n C (q := 0) dX6_calmestSlip_76 rfl rfl ?_
          refine fg_X6_12 C (i := 0) kA_0 dX6_calmestSlip_77 ?_
          refine fg_X6_87 C (i := 1) kA_1 dX6_calmestSlip_80 ?_
          obtain ⟨x29, t30, e31, h⟩ := bd_some h
          refine j_callV_i C (i := 144) (As := [.int (t27.1 1 0)]) (rest := []) (c_X0_quarrelCount l G B dy 144 kA_144 (t27.1 1 0) _ e31) (shp0 G B _ kA_144) (kd_lt kA_144 (by decide)) rfl tw_651 tw_652 tw_653 ti_0 tw_654 hd_X0_quarrelCount ⟨Nat.le_of_ble_eq_true rfl, Nat.le_of_ble_eq_true rfl⟩ ⟨Nat.le_of_ble_eq_true rfl, Nat.le_of_ble_eq_true rfl⟩ rfl rfl (Nat.le_of_ble_eq_true rfl) dX6_calmestSlip_83 ?_
          refine j_istore C [(0, .ref (B + 0)), (1, .int x1), (2, .int x2), (3, .int y3), (4, .int y4), (5, .int y5), (7, .int w0), (8, .int x29)] [1, 2, 3, 4, 5, 6, 7, 0] dX6_calmestSlip_86 (by decide) rfl ?_
          refine j_iload C (q := 7) dX6_calmestSlip_88 rfl ?_
          refine j_iload C (q := 4) dX6_calmestSlip_90 rfl ?_
          refine j_icmp_ge C (tgt := 102) dX6_calmestSlip_92 (by decide) (fun c32 => ?_) (fun c32 => ?_)
          · have h := ite_t h c32
            obtain ⟨x33, ex33⟩ : ∃ y : Int32, y = (y5 + 1) := ⟨_, rfl⟩
            have h := lt_at h ex33
            refine j_iinc C (q := 5) [(0, .ref (B + 0)), (1, .int x1), (2, .int x2), (3, .int y3), (4, .int y4), (5, .int x33), (7, .int w0), (8, .int x29)] [1, 2, 3, 4, 5, 0, 6, 7] dX6_calmestSlip_102 rfl (by rw [ex33]; rfl) (by decide) rfl ?_
            refine j_goto C (tgt := 21) dX6_calmestSlip_105 (by decide) ?_
            refine j_sub [0, 1, 2, 3, 4, 5] rfl ?_
            exact ih21 y3 y4 x33 _ h
          · have h := ite_f h c32
            refine j_iload C (q := 7) dX6_calmestSlip_95 rfl ?_
            refine j_istore C [(0, .ref (B + 0)), (1, .int x1), (2, .int x2), (3, .int y3), (4, .int x29), (5, .int y5), (7, .int w0), (8, .int x29)] [1, 2, 3, 4, 0, 5, 6, 7] dX6_calmestSlip_97 (by decide) rfl ?_
            refine j_iload C (q := 6) dX6_calmestSlip_99 rfl ?_
            refine j_istore_n C [(0, .ref (B + 0)), (1, .int x1), (2, .int x2), (3, .int w0), (4, .int x29), (5, .int y5), (7, .int w0), (8, .int x29)] [1, 2, 3, 0, 4, 5, 6, 7] dX6_calmestSlip_101 rfl (by decide) rfl ?_
            obtain ⟨x34, ex34⟩ : ∃ y : Int32, y = (y5 + 1) := ⟨_, rfl⟩
            have h := lt_at h ex34
            refine j_iinc C (q := 5) [(0, .ref (B + 0)), (1, .int x1), (2, .int x2), (3, .int w0), (4, .int x29), (5, .int x34), (7, .int w0), (8, .int x29)] [1, 2, 3, 4, 5, 0, 6, 7] dX6_calmestSlip_102 rfl (by rw [ex34]; rfl) (by decide) rfl ?_
            refine j_goto C (tgt := 21) dX6_calmestSlip_105 (by decide) ?_
            refine j_sub [0, 1, 2, 3, 4, 5] rfl ?_
            exact ih21 w0 x29 x34 _ h
      intro y3 y4 y5 t0 h
      have h : f_X6_calmestSlip_b21 (f_X6_calmestSlip_l21 n21) x1 x2 y3 y4 y5 t0 = some (r, t9) := h
      refine j_iload C (q := 5) dX6_calmestSlip_21 rfl ?_
      refine j_bipush C (v := 10) dX6_calmestSlip_23 (by decide) ?_
      refine j_icmp_gt C (tgt := 108) dX6_calmestSlip_25 (by decide) (fun c35 => ?_) (fun c35 => ?_)
      · have h := ite_t h c35
        refine j_iload_n C (q := 3) dX6_calmestSlip_108 rfl rfl ?_
        exact j_iret C hr hlk h ⟨Nat.le_of_ble_eq_true rfl, Nat.le_of_ble_eq_true rfl⟩ dX6_calmestSlip_109
      · have h := ite_f h c35
        refine j_iload C (q := 5) dX6_calmestSlip_28 rfl ?_
        refine j_iconst C (v := 1) dX6_calmestSlip_30 (by decide) ?_
        refine j_iadd C dX6_calmestSlip_31 ?_
        refine j_iconst C (v := 2) dX6_calmestSlip_32 (by decide) ?_
        refine j_idiv C dX6_calmestSlip_33 (by decide) ?_
        refine j_topi (fun x36 ex36 => ?_)
        have h := lt_at h ex36
        refine j_istore C [(0, .ref (B + 0)), (1, .int x1), (2, .int x2), (3, .int y3), (4, .int y4), (5, .int y5), (6, .int x36)] [1, 2, 3, 4, 5, 6, 0] dX6_calmestSlip_34 (by decide) rfl ?_
        refine j_iload C (q := 5) dX6_calmestSlip_36 rfl ?_
        refine j_iconst C (v := 2) dX6_calmestSlip_38 (by decide) ?_
        refine j_irem C dX6_calmestSlip_39 (by decide) ?_
        refine j_iconst C (v := 1) dX6_calmestSlip_40 (by decide) ?_
        refine j_icmp_ne C (tgt := 50) dX6_calmestSlip_41 (by decide) (fun c37 => ?_) (fun c37 => ?_)
        · have h := ite_t h c37
          refine j_iload C (q := 6) dX6_calmestSlip_44 rfl ?_
          refine j_ineg C dX6_calmestSlip_46 ?_
          refine j_goto C (tgt := 52) dX6_calmestSlip_47 (by decide) ?_
          refine j_sub [0, 1, 2, 3, 4, 5] rfl ?_
          exact J52 y3 y4 y5 (-x36) _ h
        · have h := ite_f h c37
          refine j_iload C (q := 6) dX6_calmestSlip_50 rfl ?_
          refine j_sub [0, 1, 2, 3, 4, 5] rfl ?_
          exact J52 y3 y4 y5 x36 _ h
  refine j_aload_n C (q := 0) dX6_calmestSlip_0 rfl rfl ?_
  refine fg_X6_49 C (i := 0) kA_0 dX6_calmestSlip_1 ?_
  refine j_aload_n C (q := 0) dX6_calmestSlip_4 rfl rfl ?_
  refine fg_X6_12 C (i := 0) kA_0 dX6_calmestSlip_5 ?_
  refine j_iload_n C (q := 2) dX6_calmestSlip_8 rfl rfl ?_
  obtain ⟨t39, e40, h⟩ := bv_some h
  refine j_callV_v C (i := 144) (As := [.ref (B + 1), .int x2]) (rest := []) (c_X0_gather l G B dy 144 kA_144 1 kA_1 x2 _ e40) (shp0 G B _ kA_144) (kd_lt kA_144 (by decide)) rfl tw_618 tw_619 tw_620 ti_0 tw_621 hd_X0_gather ⟨Nat.le_of_ble_eq_true rfl, Nat.le_of_ble_eq_true rfl⟩ ⟨Nat.le_of_ble_eq_true rfl, Nat.le_of_ble_eq_true rfl⟩ rfl rfl (Nat.le_of_ble_eq_true rfl) dX6_calmestSlip_9 ?_
  refine j_iconst C (v := 0) dX6_calmestSlip_12 (by decide) ?_
  refine j_istore_n C [(0, .ref (B + 0)), (1, .int x1), (2, .int x2), (3, .int 0)] [1, 2, 3, 0] dX6_calmestSlip_13 rfl (by decide) rfl ?_
  refine j_bipush C (v := 11) dX6_calmestSlip_14 (by decide) ?_
  refine j_istore C [(0, .ref (B + 0)), (1, .int x1), (2, .int x2), (3, .int 0), (4, .int 11)] [1, 2, 3, 4, 0] dX6_calmestSlip_16 (by decide) rfl ?_
  refine j_iconst C (v := 0) dX6_calmestSlip_18 (by decide) ?_
  refine j_istore C [(0, .ref (B + 0)), (1, .int x1), (2, .int x2), (3, .int 0), (4, .int 11), (5, .int 0)] [1, 2, 3, 4, 5, 0] dX6_calmestSlip_19 (by decide) rfl ?_
  exact J21 FU 0 11 0 _ h
set_option maxRecDepth 100000 in
set_option maxHeartbeats 4000000 in
theorem c_X6_peace (l : Launch) (G : GG) (B dy : Nat) (x1 : Int32) (x2 : Int32) (t0 : St) {r : Int32} {t9 : St} (h : f_X6_peace x1 x2 t0 = some (r, t9)) : Ct l G B dy yX6_peace cX6_peace 3 (some .int) 6 145 0 0 [.ref (B + 0), .int x1, .int x2] t0 (PostI G B r t9) := by
  refine Ct_of (by decide +kernel) [(0, .ref (B + 0)), (1, .int x1), (2, .int x2)] (Nat.le_of_ble_eq_true rfl) rfl ?_
  intro p e s m args below meth c C hr hlk
  refine j_iload_n C (q := 1) dX6_peace_0 rfl rfl ?_
  obtain ⟨t22, e23, h⟩ := bv_some h
  refine j_callS_v C (i := 0) (As := [.int x1]) (rest := []) (c_X6_needCarver l G B dy x1 _ e23) tw_558 tw_559 ti_6 tw_560 ⟨rfl, hd_X6_needCarver⟩ ⟨Nat.le_of_ble_eq_true rfl, Nat.le_of_ble_eq_true rfl⟩ ⟨Nat.le_of_ble_eq_true rfl, Nat.le_of_ble_eq_true rfl⟩ rfl rfl (Nat.le_of_ble_eq_true rfl) dX6_peace_1 ?_
  refine j_iload_n C (q := 2) dX6_peace_4 rfl rfl ?_
  obtain ⟨t25, e26, h⟩ := bv_some h
  refine j_callS_v C (i := 0) (As := [.int x2]) (rest := []) (c_X6_needYear l G B dy x2 _ e26) tw_565 tw_566 ti_6 tw_567 ⟨rfl, hd_X6_needYear⟩ ⟨Nat.le_of_ble_eq_true rfl, Nat.le_of_ble_eq_true rfl⟩ ⟨Nat.le_of_ble_eq_true rfl, Nat.le_of_ble_eq_true rfl⟩ rfl rfl (Nat.le_of_ble_eq_true rfl) dX6_peace_5 ?_
  refine j_aload_n C (q := 0) dX6_peace_8 rfl rfl ?_
  refine j_iload_n C (q := 1) dX6_peace_9 rfl rfl ?_
  refine j_iload_n C (q := 2) dX6_peace_10 rfl rfl ?_
  obtain ⟨x27, t28, e29, h⟩ := bd_some h
  refine j_callV_i C (i := 0) (As := [.int x1, .int x2]) (rest := []) (c_X6_calmestSlip l G B dy x1 x2 _ e29) (shp6 G B _ kA_0) (kd_lt kA_0 (by decide)) rfl tw_673 tw_675 tp_31 ti_6 tw_676 hd_X6_calmestSlip ⟨Nat.le_of_ble_eq_true rfl, Nat.le_of_ble_eq_true rfl⟩ ⟨Nat.le_of_ble_eq_true rfl, Nat.le_of_ble_eq_true rfl⟩ rfl rfl (Nat.le_of_ble_eq_true rfl) dX6_peace_11 ?_
  refine j_iconst C (v := 5) dX6_peace_14 (by decide) ?_
  refine j_iadd C dX6_peace_15 ?_
  exact j_iret C hr hlk h ⟨Nat.le_of_ble_eq_true rfl, Nat.le_of_ble_eq_true rfl⟩ dX6_peace_16
set_option maxRecDepth 100000 in
set_option maxHeartbeats 4000000 in
theorem c_X6_moved (l : Launch) (G : GG) (B dy : Nat) (x1 : Int32) (x2 : Int32) (t0 : St) {r : Int32} {t9 : St} (h : f_X6_moved x1 x2 t0 = some (r, t9)) : Ct l G B dy yX6_moved cX6_moved 3 (some .int) 4 94 0 0 [.ref (B + 0), .int x1, .int x2] t0 (PostI G B r t9) := by
  refine Ct_of (by decide +kernel) [(0, .ref (B + 0)), (1, .int x1), (2, .int x2)] (Nat.le_of_ble_eq_true rfl) rfl ?_
  intro p e s m args below meth c C hr hlk
  refine j_iload_n C (q := 1) dX6_moved_0 rfl rfl ?_
  obtain ⟨t22, e23, h⟩ := bv_some h
  refine j_callS_v C (i := 0) (As := [.int x1]) (rest := []) (c_X6_needYear l G B dy x1 _ e23) tw_565 tw_566 ti_6 tw_567 ⟨rfl, hd_X6_needYear⟩ ⟨Nat.le_of_ble_eq_true rfl, Nat.le_of_ble_eq_true rfl⟩ ⟨Nat.le_of_ble_eq_true rfl, Nat.le_of_ble_eq_true rfl⟩ rfl rfl (Nat.le_of_ble_eq_true rfl) dX6_moved_1 ?_
  refine j_iload_n C (q := 2) dX6_moved_4 rfl rfl ?_
  obtain ⟨t25, e26, h⟩ := bv_some h
  refine j_callS_v C (i := 0) (As := [.int x2]) (rest := []) (c_X6_needCarver l G B dy x2 _ e26) tw_558 tw_559 ti_6 tw_560 ⟨rfl, hd_X6_needCarver⟩ ⟨Nat.le_of_ble_eq_true rfl, Nat.le_of_ble_eq_true rfl⟩ ⟨Nat.le_of_ble_eq_true rfl, Nat.le_of_ble_eq_true rfl⟩ rfl rfl (Nat.le_of_ble_eq_true rfl) dX6_moved_5 ?_
  refine j_aload_n C (q := 0) dX6_moved_8 rfl rfl ?_
  refine fg_X6_42 C (i := 0) kA_0 dX6_moved_9 ?_
  refine j_aload_n C (q := 0) dX6_moved_12 rfl rfl ?_
  refine fg_X6_12 C (i := 0) kA_0 dX6_moved_13 ?_
  refine j_iload_n C (q := 1) dX6_moved_16 rfl rfl ?_
  refine j_aload_n C (q := 0) dX6_moved_17 rfl rfl ?_
  refine fg_X6_12 C (i := 0) kA_0 dX6_moved_18 ?_
  refine fg_X6_116 C (i := 1) kA_1 dX6_moved_21 ?_
  refine j_iload_n C (q := 2) dX6_moved_24 rfl rfl ?_
  obtain ⟨x27, t28, e29, h⟩ := bd_some h
  refine j_callV_i C (i := 10) (As := [.int x2]) (rest := [.int x1, .ref (B + 1), .ref (B + 139)]) (c_X4_at l G B dy 10 kA_10 x2 _ e29) (shp4 G B _ kA_10) (kd_lt kA_10 (by decide)) rfl tw_322 tw_323 tw_324 ti_4 tw_325 hd_X4_at ⟨Nat.le_of_ble_eq_true rfl, Nat.le_of_ble_eq_true rfl⟩ ⟨Nat.le_of_ble_eq_true rfl, Nat.le_of_ble_eq_true rfl⟩ rfl rfl (Nat.le_of_ble_eq_true rfl) dX6_moved_25 ?_
  obtain ⟨t31, e32, h⟩ := bv_some h
  refine j_callV_v C (i := 139) (As := [.ref (B + 1), .int x1, .int x27]) (rest := []) (c_X3_reckon l G B dy 139 kA_139 1 kA_1 x1 x27 _ e32) (shp3 G B _ kA_139) (kd_lt kA_139 (by decide)) rfl tw_339 tw_340 tw_341 ti_3 tw_342 hd_X3_reckon ⟨Nat.le_of_ble_eq_true rfl, Nat.le_of_ble_eq_true rfl⟩ ⟨Nat.le_of_ble_eq_true rfl, Nat.le_of_ble_eq_true rfl⟩ rfl rfl (Nat.le_of_ble_eq_true rfl) dX6_moved_28 ?_
  refine j_aload_n C (q := 0) dX6_moved_31 rfl rfl ?_
  refine fg_X6_42 C (i := 0) kA_0 dX6_moved_32 ?_
  refine j_aload_n C (q := 0) dX6_moved_35 rfl rfl ?_
  refine fg_X6_12 C (i := 0) kA_0 dX6_moved_36 ?_
  refine fg_X6_87 C (i := 1) kA_1 dX6_moved_39 ?_
  obtain ⟨x33, t34, e35, h⟩ := bd_some h
  refine j_callV_i C (i := 139) (As := [.int (t31.1 1 0)]) (rest := []) (c_X3_movedCount l G B dy 139 kA_139 (t31.1 1 0) _ e35) (shp3 G B _ kA_139) (kd_lt kA_139 (by decide)) rfl tw_636 tw_637 tw_638 ti_3 tw_639 hd_X3_movedCount ⟨Nat.le_of_ble_eq_true rfl, Nat.le_of_ble_eq_true rfl⟩ ⟨Nat.le_of_ble_eq_true rfl, Nat.le_of_ble_eq_true rfl⟩ rfl rfl (Nat.le_of_ble_eq_true rfl) dX6_moved_42 ?_
  exact j_iret C hr hlk h ⟨Nat.le_of_ble_eq_true rfl, Nat.le_of_ble_eq_true rfl⟩ dX6_moved_45
set_option maxRecDepth 100000 in
set_option maxHeartbeats 4000000 in
theorem c_X6_freshPart (l : Launch) (G : GG) (B dy : Nat) (t0 : St) {r : UInt64} {t9 : St} (h : f_X6_freshPart t0 = some (r, t9)) : Ct l G B dy yX6_freshPart cX6_freshPart 3 (some .double) 5 121 0 0 [.ref (B + 0)] t0 (PostD G B r t9) := by
  refine Ct_of (by decide +kernel) [(0, .ref (B + 0))] (Nat.le_of_ble_eq_true rfl) rfl ?_
  intro p e s m args below meth c C hr hlk
  have J4 : ∀ (n4 : Nat) (y1 : Int32) (y2 : Int32) (t0 : St), f_X6_freshPart_l4 n4 y1 y2 t0 = some (r, t9) → WW G B p l e (RM 5 121 0 0) s m args below meth c 0 0 (MQ below (PostD G B r t9) args s 0 0 (Ab B)) 3 4 [(0, .ref (B + 0)), (1, .int y1), (2, .int y2)] [] t0 := by
    intro n4
    induction n4 with
    | zero => intro y1 y2 t0 h; exact (no_some h).elim
    | succ n4 ih4 =>
      try clear h
      intro y1 y2 t0 h
      have h : f_X6_freshPart_b4 (f_X6_freshPart_l4 n4) y1 y2 t0 = some (r, t9) := h
      refine j_iload_n C (q := 2) dX6_freshPart_4 rfl rfl ?_
      refine j_aload_n C (q := 0) dX6_freshPart_5 rfl rfl ?_
      refine fg_X6_12 C (i := 0) kA_0 dX6_freshPart_6 ?_
      refine fg_X6_236 C (i := 1) kA_1 dX6_freshPart_9 ?_
      refine j_icmp_ge C (tgt := 35) dX6_freshPart_12 (by decide) (fun c21 => ?_) (fun c21 => ?_)
      · have h := ite_t h c21
        refine j_iload_n C (q := 1) dX6_freshPart_35 rfl rfl ?_
        refine j_if_gt C (tgt := 41) dX6_freshPart_36 (by decide) (fun c22 => ?_) (fun c22 => ?_)
        · have h := ite_t h c22
          refine j_iload_n C (q := 1) dX6_freshPart_41 rfl rfl ?_
          refine j_aload_n C (q := 0) dX6_freshPart_42 rfl rfl ?_
          refine j_iconst C (v := 0) dX6_freshPart_43 (by decide) ?_
          refine j_aload_n C (q := 0) dX6_freshPart_44 rfl rfl ?_
          refine fg_X6_12 C (i := 0) kA_0 dX6_freshPart_45 ?_
          refine fg_X6_236 C (i := 1) kA_1 dX6_freshPart_48 ?_
          obtain ⟨x23, t24, e25, h⟩ := bd_some h
          refine j_callV_i C (i := 0) (As := [.int 0, .int (t0.1 1 7)]) (rest := [.int y1]) (c_X6_staleFeasts l G B dy 0 (t0.1 1 7) _ e25) (shp6 G B _ kA_0) (kd_lt kA_0 (by decide)) rfl tw_335 tw_337 tp_3 ti_6 tw_338 hd_X6_staleFeasts ⟨Nat.le_of_ble_eq_true rfl, Nat.le_of_ble_eq_true rfl⟩ ⟨Nat.le_of_ble_eq_true rfl, Nat.le_of_ble_eq_true rfl⟩ rfl rfl (Nat.le_of_ble_eq_true rfl) dX6_freshPart_51 ?_
          refine j_isub C dX6_freshPart_54 ?_
          refine j_topi (fun x26 ex26 => ?_)
          have h := lt_at h ex26
          refine j_istore_n C [(0, .ref (B + 0)), (1, .int y1), (2, .int x26)] [1, 2, 0] dX6_freshPart_55 rfl (by decide) rfl ?_
          refine j_iload_n C (q := 2) dX6_freshPart_56 rfl rfl ?_
          refine j_i2d C dX6_freshPart_57 ?_
          refine j_iload_n C (q := 1) dX6_freshPart_58 rfl rfl ?_
          refine j_i2d C dX6_freshPart_59 ?_
          obtain ⟨g27, h⟩ := gd_some h
          refine j_ddiv C dX6_freshPart_60 (okd_n g27) ?_
          exact j_dret C hr hlk h ⟨Nat.le_of_ble_eq_true rfl, Nat.le_of_ble_eq_true rfl⟩ dX6_freshPart_61
        · have h := ite_f h c22
          refine j_dconst1 C dX6_freshPart_39 ?_
          exact j_dret C hr hlk h ⟨Nat.le_of_ble_eq_true rfl, Nat.le_of_ble_eq_true rfl⟩ dX6_freshPart_40
      · have h := ite_f h c21
        refine j_iload_n C (q := 1) dX6_freshPart_15 rfl rfl ?_
        refine j_aload_n C (q := 0) dX6_freshPart_16 rfl rfl ?_
        refine fg_X6_12 C (i := 0) kA_0 dX6_freshPart_17 ?_
        refine fg_X6_296 C (i := 1) kA_1 dX6_freshPart_20 ?_
        refine j_iload_n C (q := 2) dX6_freshPart_23 rfl rfl ?_
        obtain ⟨x28, t29, e30, h⟩ := bd_some h
        refine j_callV_i C (i := 16) (As := [.int y2]) (rest := [.int y1]) (c_X4_at l G B dy 16 kA_16 y2 _ e30) (shp4 G B _ kA_16) (kd_lt kA_16 (by decide)) rfl tw_322 tw_323 tw_324 ti_4 tw_325 hd_X4_at ⟨Nat.le_of_ble_eq_true rfl, Nat.le_of_ble_eq_true rfl⟩ ⟨Nat.le_of_ble_eq_true rfl, Nat.le_of_ble_eq_true rfl⟩ rfl rfl (Nat.le_of_ble_eq_true rfl) dX6_freshPart_24 ?_
        refine j_iadd C dX6_freshPart_27 ?_
        refine j_topi (fun x31 ex31 => ?_)
        have h := lt_at h ex31
        refine j_istore_n C [(0, .ref (B + 0)), (1, .int x31), (2, .int y2)] [1, 0, 2] dX6_freshPart_28 rfl (by decide) rfl ?_
        obtain ⟨x32, ex32⟩ : ∃ y : Int32, y = (y2 + 1) := ⟨_, rfl⟩
        have h := lt_at h ex32
        refine j_iinc C (q := 2) [(0, .ref (B + 0)), (1, .int x31), (2, .int x32)] [1, 2, 0] dX6_freshPart_29 rfl (by rw [ex32]; rfl) (by decide) rfl ?_
        refine j_goto C (tgt := 4) dX6_freshPart_32 (by decide) ?_
        exact ih4 x31 x32 _ h
  refine j_iconst C (v := 0) dX6_freshPart_0 (by decide) ?_
  refine j_istore_n C [(0, .ref (B + 0)), (1, .int 0)] [1, 0] dX6_freshPart_1 rfl (by decide) rfl ?_
  refine j_iconst C (v := 0) dX6_freshPart_2 (by decide) ?_
  refine j_istore_n C [(0, .ref (B + 0)), (1, .int 0), (2, .int 0)] [1, 2, 0] dX6_freshPart_3 rfl (by decide) rfl ?_
  exact J4 FU 0 0 _ h
set_option maxRecDepth 100000 in
set_option maxHeartbeats 4000000 in
theorem c_X6_freshShare (l : Launch) (G : GG) (B dy : Nat) (t0 : St) {r : UInt64} {t9 : St} (h : f_X6_freshShare t0 = some (r, t9)) : Ct l G B dy yX6_freshShare cX6_freshShare 1 (some .double) 6 143 0 0 [.ref (B + 0)] t0 (PostD G B r t9) := by
  refine Ct_of (by decide +kernel) [(0, .ref (B + 0))] (Nat.le_of_ble_eq_true rfl) rfl ?_
  intro p e s m args below meth c C hr hlk
  refine j_aload_n C (q := 0) dX6_freshShare_0 rfl rfl ?_
  obtain ⟨x21, t22, e23, h⟩ := bd_some h
  refine j_callV_d C (i := 0) (As := []) (rest := []) (c_X6_freshPart l G B dy _ e23) (shp6 G B _ kA_0) (kd_lt kA_0 (by decide)) rfl tw_662 tw_664 tp_30 ti_6 tw_665 hd_X6_freshPart ⟨Nat.le_of_ble_eq_true rfl, Nat.le_of_ble_eq_true rfl⟩ ⟨Nat.le_of_ble_eq_true rfl, Nat.le_of_ble_eq_true rfl⟩ rfl rfl (Nat.le_of_ble_eq_true rfl) dX6_freshShare_1 ?_
  exact j_dret C hr hlk h ⟨Nat.le_of_ble_eq_true rfl, Nat.le_of_ble_eq_true rfl⟩ dX6_freshShare_4
