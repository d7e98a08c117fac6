set_option maxRecDepth 100000 in
set_option maxHeartbeats 400000 in
theorem c_X0_by (l : Launch) (G : GG) (B dy : Nat) (a0 : Nat) (k0 : kd a0 = 0) (x1 : Int32) (t0 : St) {r : Option Nat} {t9 : St} (h : f_X0_by a0 x1 t0 = some (r, t9)) : Ct l G B dy yX0_by cX0_by 2 (some (.object "RunicSticks$Reckoning")) 0 0 0 0 [.ref (B + a0), .int x1] t0 (PostQ G B r t9) := by
  refine Ct_of (by decide +kernel) [(0, .ref (B + a0)), (1, .int x1)] (Nat.le_of_ble_eq_true rfl) rfl ?_
  intro p e s m args below meth c C hr hlk
  refine j_iload_n C (q := 1) dX0_by_0 rfl rfl ?_
  by_cases c21 : x1 = 1
  · have h := ite_t h c21
    refine j_lookup C (off := 27) (tgt := 28) dX0_by_1 (by decide) (sw_off c21 rfl) (by decide) ?_
    refine j_aload_n C (q := 0) dX0_by_28 rfl rfl ?_
    refine fg_X0_18 C (i := a0) k0 dX0_by_29 ?_
    exact j_aret C (i := (a0 + 6)) hr hlk h ⟨Nat.le_of_ble_eq_true rfl, Nat.le_of_ble_eq_true rfl⟩ dX0_by_32
  · have h := ite_f h c21
    by_cases c22 : x1 = 2
    · have h := ite_t h c22
      refine j_lookup C (off := 32) (tgt := 33) dX0_by_1 (by decide) (sw_off c22 rfl) (by decide) ?_
      refine j_aload_n C (q := 0) dX0_by_33 rfl rfl ?_
      refine fg_X0_21 C (i := a0) k0 dX0_by_34 ?_
      exact j_aret C (i := (a0 + 11)) hr hlk h ⟨Nat.le_of_ble_eq_true rfl, Nat.le_of_ble_eq_true rfl⟩ dX0_by_37
    · have h := ite_f h c22
      refine j_lookup C (off := 37) (tgt := 38) dX0_by_1 (by decide) ((lv_osw c21 (by decide)).trans ((lv_osw c22 (by decide)).trans rfl)) (by decide) ?_
      refine j_aload_n C (q := 0) dX0_by_38 rfl rfl ?_
      refine fg_X0_12 C (i := a0) k0 dX0_by_39 ?_
      exact j_aret C (i := (a0 + 1)) hr hlk h ⟨Nat.le_of_ble_eq_true rfl, Nat.le_of_ble_eq_true rfl⟩ dX0_by_42
set_option maxRecDepth 100000 in
set_option maxHeartbeats 400000 in
theorem c_X4_at (l : Launch) (G : GG) (B dy : Nat) (a0 : Nat) (k0 : kd a0 = 4) (x1 : Int32) (t0 : St) {r : Int32} {t9 : St} (h : f_X4_at a0 x1 t0 = some (r, t9)) : Ct l G B dy yX4_at cX4_at 2 (some .int) 0 0 0 0 [.ref (B + a0), .int x1] t0 (PostI G B r t9) := by
  refine Ct_of (by decide +kernel) [(0, .ref (B + a0)), (1, .int x1)] (Nat.le_of_ble_eq_true rfl) rfl ?_
  intro p e s m args below meth c C hr hlk
  refine j_iload_n C (q := 1) dX4_at_0 rfl rfl ?_
  refine j_if_lt C (tgt := 22) dX4_at_1 (by decide) (fun c21 => ?_) (fun c21 => ?_)
  · have h := ite_t h c21
    refine j_iconst C (v := (-1)) dX4_at_22 (by decide) ?_
    exact j_iret C hr hlk h ⟨Nat.le_of_ble_eq_true rfl, Nat.le_of_ble_eq_true rfl⟩ dX4_at_23
  · have h := ite_f h c21
    refine j_iload_n C (q := 1) dX4_at_4 rfl rfl ?_
    refine j_aload_n C (q := 0) dX4_at_5 rfl rfl ?_
    refine fg_X4_9 C (i := a0) k0 dX4_at_6 ?_
    refine j_alen8 C (i := (a0 + 1)) (kR4_1 k0) dX4_at_9 ?_
    refine j_icmp_ge C (tgt := 22) dX4_at_10 (by decide) (fun c22 => ?_) (fun c22 => ?_)
    · have h := ite_t h c22
      refine j_iconst C (v := (-1)) dX4_at_22 (by decide) ?_
      exact j_iret C hr hlk h ⟨Nat.le_of_ble_eq_true rfl, Nat.le_of_ble_eq_true rfl⟩ dX4_at_23
    · have h := ite_f h c22
      refine j_aload_n C (q := 0) dX4_at_13 rfl rfl ?_
      refine fg_X4_9 C (i := a0) k0 dX4_at_14 ?_
      refine j_iload_n C (q := 1) dX4_at_17 rfl rfl ?_
      obtain ⟨g23, h⟩ := gd_some h
      refine j_iald C (i := (a0 + 1)) (kR4_1 k0) (inA g23 rfl) dX4_at_18 ?_
      refine j_goto C (tgt := 23) dX4_at_19 (by decide) ?_
      exact j_iret C hr hlk h ⟨Nat.le_of_ble_eq_true rfl, Nat.le_of_ble_eq_true rfl⟩ dX4_at_23
set_option maxRecDepth 100000 in
set_option maxHeartbeats 400000 in
theorem c_X6_isLeap (l : Launch) (G : GG) (B dy : Nat) (x0 : Int32) (t0 : St) {r : Int32} {t9 : St} (h : f_X6_isLeap x0 t0 = some (r, t9)) : Ct l G B dy yX6_isLeap cX6_isLeap 1 (some .boolean) 0 0 0 0 [.int x0] t0 (PostI G B r t9) := by
  refine Ct_of (by decide +kernel) [(0, .int x0)] (Nat.le_of_ble_eq_true rfl) rfl ?_
  intro p e s m args below meth c C hr hlk
  refine j_iload_n C (q := 0) dX6_isLeap_0 rfl rfl ?_
  refine j_iconst C (v := 4) dX6_isLeap_1 (by decide) ?_
  refine j_irem C dX6_isLeap_2 (by decide) ?_
  refine j_if_ne C (tgt := 10) dX6_isLeap_3 (by decide) (fun c21 => ?_) (fun c21 => ?_)
  · have h := ite_t h c21
    refine j_iconst C (v := 1) dX6_isLeap_6 (by decide) ?_
    refine j_goto C (tgt := 11) dX6_isLeap_7 (by decide) ?_
    exact j_zret C hr hlk (Or.inr rfl) h ⟨Nat.le_of_ble_eq_true rfl, Nat.le_of_ble_eq_true rfl⟩ dX6_isLeap_11
  · have h := ite_f h c21
    refine j_iconst C (v := 0) dX6_isLeap_10 (by decide) ?_
    exact j_zret C hr hlk (Or.inl rfl) h ⟨Nat.le_of_ble_eq_true rfl, Nat.le_of_ble_eq_true rfl⟩ dX6_isLeap_11
set_option maxRecDepth 100000 in
set_option maxHeartbeats 400000 in
theorem c_X6_daysIn (l : Launch) (G : GG) (B dy : Nat) (x0 : Int32) (t0 : St) {r : Int32} {t9 : St} (h : f_X6_daysIn x0 t0 = some (r, t9)) : Ct l G B dy yX6_daysIn cX6_daysIn 1 (some .int) 1 20 0 0 [.int x0] t0 (PostI G B r t9) := by
  refine Ct_of (by decide +kernel) [(0, .int x0)] (Nat.le_of_ble_eq_true rfl) rfl ?_
  intro p e s m args below meth c C hr hlk
  refine j_iload_n C (q := 0) dX6_daysIn_0 rfl rfl ?_
  obtain ⟨x21, t22, e23, h⟩ := bd_some h
  refine j_callS_i C (i := 0) (As := [.int x0]) (rest := []) (c_X6_isLeap l G B dy x0 _ e23) tw_311 tw_312 ti_6 tw_313 ⟨rfl, hd_X6_isLeap⟩ ⟨Nat.le_of_ble_eq_true rfl, Nat.le_of_ble_eq_true rfl⟩ ⟨Nat.le_of_ble_eq_true rfl, Nat.le_of_ble_eq_true rfl⟩ rfl rfl (Nat.le_of_ble_eq_true rfl) dX6_daysIn_1 ?_
  refine j_if_eq C (tgt := 13) dX6_daysIn_4 (by decide) (fun c24 => ?_) (fun c24 => ?_)
  · have h := ite_t h c24
    refine j_sipush C (v := 365) dX6_daysIn_13 (by decide) ?_
    exact j_iret C hr hlk h ⟨Nat.le_of_ble_eq_true rfl, Nat.le_of_ble_eq_true rfl⟩ dX6_daysIn_16
  · have h := ite_f h c24
    refine j_sipush C (v := 366) dX6_daysIn_7 (by decide) ?_
    refine j_goto C (tgt := 16) dX6_daysIn_10 (by decide) ?_
    exact j_iret C hr hlk h ⟨Nat.le_of_ble_eq_true rfl, Nat.le_of_ble_eq_true rfl⟩ dX6_daysIn_16
set_option maxRecDepth 100000 in
set_option maxHeartbeats 400000 in
theorem c_X6_newYearWeekday (l : Launch) (G : GG) (B dy : Nat) (x0 : Int32) (t0 : St) {r : Int32} {t9 : St} (h : f_X6_newYearWeekday x0 t0 = some (r, t9)) : Ct l G B dy yX6_newYearWeekday cX6_newYearWeekday 2 (some .int) 0 0 0 0 [.int x0] t0 (PostI G B r t9) := by
  refine Ct_of (by decide +kernel) [(0, .int x0)] (Nat.le_of_ble_eq_true rfl) rfl ?_
  intro p e s m args below meth c C hr hlk
  refine j_iload_n C (q := 0) dX6_newYearWeekday_0 rfl rfl ?_
  refine j_iconst C (v := 3) dX6_newYearWeekday_1 (by decide) ?_
  refine j_iadd C dX6_newYearWeekday_2 ?_
  refine j_iconst C (v := 4) dX6_newYearWeekday_3 (by decide) ?_
  refine j_idiv C dX6_newYearWeekday_4 (by decide) ?_
  refine j_topi (fun x21 ex21 => ?_)
  have h := lt_at h ex21
  refine j_istore_n C [(0, .int x0), (1, .int x21)] [1, 0] dX6_newYearWeekday_5 rfl (by decide) rfl ?_
  refine j_sipush C (v := 365) dX6_newYearWeekday_6 (by decide) ?_
  refine j_iload_n C (q := 0) dX6_newYearWeekday_9 rfl rfl ?_
  refine j_imul C dX6_newYearWeekday_10 ?_
  refine j_iload_n C (q := 1) dX6_newYearWeekday_11 rfl rfl ?_
  refine j_iadd C dX6_newYearWeekday_12 ?_
  refine j_bipush C (v := 7) dX6_newYearWeekday_13 (by decide) ?_
  refine j_irem C dX6_newYearWeekday_15 (by decide) ?_
  exact j_iret C hr hlk h ⟨Nat.le_of_ble_eq_true rfl, Nat.le_of_ble_eq_true rfl⟩ dX6_newYearWeekday_16
set_option maxRecDepth 100000 in
set_option maxHeartbeats 400000 in
theorem c_X6_moonShift (l : Launch) (G : GG) (B dy : Nat) (x0 : Int32) (x1 : Int32) (x2 : Int32) (t0 : St) {r : Int32} {t9 : St} (h : f_X6_moonShift x0 x1 x2 t0 = some (r, t9)) : Ct l G B dy yX6_moonShift cX6_moonShift 4 (some .int) 0 0 0 0 [.int x0, .int x1, .int x2] t0 (PostI G B r t9) := by
  refine Ct_of (by decide +kernel) [(0, .int x0), (1, .int x1), (2, .int x2)] (Nat.le_of_ble_eq_true rfl) rfl ?_
  intro p e s m args below meth c C hr hlk
  have J11 : ∀ (w0 : Int32) (t0 : St), f_X6_moonShift_b11 x0 x1 w0 t0 = some (r, t9) → WW G B p l e (RM 0 0 0 0) s m args below meth c 0 0 (MQ below (PostI G B r t9) args s 0 0 (Ab B)) 4 11 [(0, .int x0), (1, .int x1)] [.int w0] t0 := by
    intro w0 t0 h
    refine j_istore_n C [(0, .int x0), (1, .int x1), (3, .int w0)] [1, 2, 0] dX6_moonShift_11 rfl (by decide) rfl ?_
    refine j_bipush C (v := 11) dX6_moonShift_12 (by decide) ?_
    refine j_iload_n C (q := 0) dX6_moonShift_14 rfl rfl ?_
    refine j_bipush C (v := 19) dX6_moonShift_15 (by decide) ?_
    refine j_irem C dX6_moonShift_17 (by decide) ?_
    refine j_imul C dX6_moonShift_18 ?_
    refine j_iload_n C (q := 2) dX6_moonShift_19 rfl rfl ?_
    refine j_iadd C dX6_moonShift_20 ?_
    refine j_iload_n C (q := 1) dX6_moonShift_21 rfl rfl ?_
    refine j_iadd C dX6_moonShift_22 ?_
    refine j_iconst C (v := 5) dX6_moonShift_23 (by decide) ?_
    refine j_iadd C dX6_moonShift_24 ?_
    exact j_iret C hr hlk h ⟨Nat.le_of_ble_eq_true rfl, Nat.le_of_ble_eq_true rfl⟩ dX6_moonShift_25
  refine j_iload_n C (q := 2) dX6_moonShift_0 rfl rfl ?_
  refine j_if_le C (tgt := 10) dX6_moonShift_1 (by decide) (fun c21 => ?_) (fun c21 => ?_)
  · have h := ite_t h c21
    refine j_iconst C (v := 0) dX6_moonShift_10 (by decide) ?_
    refine j_sub [0, 1] rfl ?_
    exact J11 0 _ h
  · have h := ite_f h c21
    refine j_iload_n C (q := 0) dX6_moonShift_4 rfl rfl ?_
    refine j_iload_n C (q := 2) dX6_moonShift_5 rfl rfl ?_
    obtain ⟨g22, h⟩ := gd_some h
    refine j_idiv C dX6_moonShift_6 (nz_ne g22) ?_
    refine j_goto C (tgt := 11) dX6_moonShift_7 (by decide) ?_
    refine j_sub [0, 1] rfl ?_
    exact J11 (x0 / x2) _ h
set_option maxRecDepth 100000 in
set_option maxHeartbeats 400000 in
theorem c_X3_weekdayFrom (l : Launch) (G : GG) (B dy : Nat) (a0 : Nat) (k0 : kd a0 = 3) (x1 : Int32) (x2 : Int32) (t0 : St) {r : Int32} {t9 : St} (h : f_X3_weekdayFrom a0 x1 x2 t0 = some (r, t9)) : Ct l G B dy yX3_weekdayFrom cX3_weekdayFrom 4 (some .int) 0 0 0 0 [.ref (B + a0), .int x1, .int x2] t0 (PostI G B r t9) := by
  refine Ct_of (by decide +kernel) [(0, .ref (B + a0)), (1, .int x1), (2, .int x2)] (Nat.le_of_ble_eq_true rfl) rfl ?_
  intro p e s m args below meth c C hr hlk
  refine j_aload_n C (q := 0) dX3_weekdayFrom_0 rfl rfl ?_
  refine fg_X3_34 C (i := a0) k0 dX3_weekdayFrom_1 ?_
  refine j_iload_n C (q := 1) dX3_weekdayFrom_4 rfl rfl ?_
  refine j_iadd C dX3_weekdayFrom_5 ?_
  refine j_bipush C (v := 7) dX3_weekdayFrom_6 (by decide) ?_
  refine j_irem C dX3_weekdayFrom_8 (by decide) ?_
  refine j_topi (fun x21 ex21 => ?_)
  have h := lt_at h ex21
  refine j_istore_n C [(0, .ref (B + a0)), (1, .int x1), (2, .int x2), (3, .int x21)] [1, 2, 3, 0] dX3_weekdayFrom_9 rfl (by decide) rfl ?_
  refine j_iload_n C (q := 1) dX3_weekdayFrom_10 rfl rfl ?_
  refine j_iload_n C (q := 2) dX3_weekdayFrom_11 rfl rfl ?_
  refine j_bipush C (v := 7) dX3_weekdayFrom_12 (by decide) ?_
  refine j_iadd C dX3_weekdayFrom_14 ?_
  refine j_iload_n C (q := 3) dX3_weekdayFrom_15 rfl rfl ?_
  refine j_isub C dX3_weekdayFrom_16 ?_
  refine j_bipush C (v := 7) dX3_weekdayFrom_17 (by decide) ?_
  refine j_irem C dX3_weekdayFrom_19 (by decide) ?_
  refine j_iadd C dX3_weekdayFrom_20 ?_
  exact j_iret C hr hlk h ⟨Nat.le_of_ble_eq_true rfl, Nat.le_of_ble_eq_true rfl⟩ dX3_weekdayFrom_21
set_option maxRecDepth 100000 in
set_option maxHeartbeats 400000 in
theorem c_X6_moonAge (l : Launch) (G : GG) (B dy : Nat) (x0 : Int32) (x1 : Int32) (t0 : St) {r : Int32} {t9 : St} (h : f_X6_moonAge x0 x1 t0 = some (r, t9)) : Ct l G B dy yX6_moonAge cX6_moonAge 2 (some .int) 0 0 0 0 [.int x0, .int x1] t0 (PostI G B r t9) := by
  refine Ct_of (by decide +kernel) [(0, .int x0), (1, .int x1)] (Nat.le_of_ble_eq_true rfl) rfl ?_
  intro p e s m args below meth c C hr hlk
  refine j_iload_n C (q := 0) dX6_moonAge_0 rfl rfl ?_
  refine j_iload_n C (q := 1) dX6_moonAge_1 rfl rfl ?_
  refine j_iadd C dX6_moonAge_2 ?_
  refine j_iload_n C (q := 1) dX6_moonAge_3 rfl rfl ?_
  refine j_bipush C (v := 59) dX6_moonAge_4 (by decide) ?_
  refine j_idiv C dX6_moonAge_6 (by decide) ?_
  refine j_iadd C dX6_moonAge_7 ?_
  refine j_bipush C (v := 30) dX6_moonAge_8 (by decide) ?_
  refine j_irem C dX6_moonAge_10 (by decide) ?_
  exact j_iret C hr hlk h ⟨Nat.le_of_ble_eq_true rfl, Nat.le_of_ble_eq_true rfl⟩ dX6_moonAge_11
set_option maxRecDepth 100000 in
set_option maxHeartbeats 400000 in
theorem c_X3_orNone (l : Launch) (G : GG) (B dy : Nat) (a0 : Nat) (k0 : kd a0 = 3) (x1 : Int32) (t0 : St) {r : Int32} {t9 : St} (h : f_X3_orNone a0 x1 t0 = some (r, t9)) : Ct l G B dy yX3_orNone cX3_orNone 2 (some .int) 0 0 0 0 [.ref (B + a0), .int x1] t0 (PostI G B r t9) := by
  refine Ct_of (by decide +kernel) [(0, .ref (B + a0)), (1, .int x1)] (Nat.le_of_ble_eq_true rfl) rfl ?_
  intro p e s m args below meth c C hr hlk
  refine j_iload_n C (q := 1) dX3_orNone_0 rfl rfl ?_
  refine j_if_lt C (tgt := 16) dX3_orNone_1 (by decide) (fun c21 => ?_) (fun c21 => ?_)
  · have h := ite_t h c21
    refine j_iconst C (v := (-1)) dX3_orNone_16 (by decide) ?_
    exact j_iret C hr hlk h ⟨Nat.le_of_ble_eq_true rfl, Nat.le_of_ble_eq_true rfl⟩ dX3_orNone_17
  · have h := ite_f h c21
    refine j_iload_n C (q := 1) dX3_orNone_4 rfl rfl ?_
    refine j_aload_n C (q := 0) dX3_orNone_5 rfl rfl ?_
    refine fg_X3_27 C (i := a0) k0 dX3_orNone_6 ?_
    refine j_icmp_ge C (tgt := 16) dX3_orNone_9 (by decide) (fun c22 => ?_) (fun c22 => ?_)
    · have h := ite_t h c22
      refine j_iconst C (v := (-1)) dX3_orNone_16 (by decide) ?_
      exact j_iret C hr hlk h ⟨Nat.le_of_ble_eq_true rfl, Nat.le_of_ble_eq_true rfl⟩ dX3_orNone_17
    · have h := ite_f h c22
      refine j_iload_n C (q := 1) dX3_orNone_12 rfl rfl ?_
      refine j_goto C (tgt := 17) dX3_orNone_13 (by decide) ?_
      exact j_iret C hr hlk h ⟨Nat.le_of_ble_eq_true rfl, Nat.le_of_ble_eq_true rfl⟩ dX3_orNone_17
set_option maxRecDepth 100000 in
set_option maxHeartbeats 400000 in
theorem c_X4_put (l : Launch) (G : GG) (B dy : Nat) (a0 : Nat) (k0 : kd a0 = 4) (x1 : Int32) (x2 : Int32) (t0 : St) {t9 : St} (h : f_X4_put a0 x1 x2 t0 = some t9) : Ct l G B dy yX4_put cX4_put 3 none 0 0 0 0 [.ref (B + a0), .int x1, .int x2] t0 (PostV G B t9) := by
  refine Ct_of (by decide +kernel) [(0, .ref (B + a0)), (1, .int x1), (2, .int x2)] (Nat.le_of_ble_eq_true rfl) rfl ?_
  intro p e s m args below meth c C hr hlk
  refine j_iload_n C (q := 1) dX4_put_0 rfl rfl ?_
  refine j_if_lt C (tgt := 20) dX4_put_1 (by decide) (fun c21 => ?_) (fun c21 => ?_)
  · have h := ite_t h c21
    exact j_vret C hr hlk h ⟨Nat.le_of_ble_eq_true rfl, Nat.le_of_ble_eq_true rfl⟩ dX4_put_20
  · have h := ite_f h c21
    refine j_iload_n C (q := 1) dX4_put_4 rfl rfl ?_
    refine j_aload_n C (q := 0) dX4_put_5 rfl rfl ?_
    refine fg_X4_9 C (i := a0) k0 dX4_put_6 ?_
    refine j_alen8 C (i := (a0 + 1)) (kR4_1 k0) dX4_put_9 ?_
    refine j_icmp_ge C (tgt := 20) dX4_put_10 (by decide) (fun c22 => ?_) (fun c22 => ?_)
    · have h := ite_t h c22
      exact j_vret C hr hlk h ⟨Nat.le_of_ble_eq_true rfl, Nat.le_of_ble_eq_true rfl⟩ dX4_put_20
    · have h := ite_f h c22
      refine j_aload_n C (q := 0) dX4_put_13 rfl rfl ?_
      refine fg_X4_9 C (i := a0) k0 dX4_put_14 ?_
      refine j_iload_n C (q := 1) dX4_put_17 rfl rfl ?_
      refine j_iload_n C (q := 2) dX4_put_18 rfl rfl ?_
      obtain ⟨g23, h⟩ := gd_some h
      refine j_iast C (i := (a0 + 1)) (kR4_1 k0) (inA g23 rfl) dX4_put_19 ?_
      refine j_tops (fun t24 et24 => ?_)
      have h := lt_at h et24
      exact j_vret C hr hlk h ⟨Nat.le_of_ble_eq_true rfl, Nat.le_of_ble_eq_true rfl⟩ dX4_put_20
set_option maxRecDepth 100000 in
set_option maxHeartbeats 400000 in
theorem c_X4_putNowhere (l : Launch) (G : GG) (B dy : Nat) (a0 : Nat) (k0 : kd a0 = 4) (t0 : St) {t9 : St} (h : f_X4_putNowhere a0 t0 = some t9) : Ct l G B dy yX4_putNowhere cX4_putNowhere 2 none 0 0 0 0 [.ref (B + a0)] t0 (PostV G B t9) := by
  refine Ct_of (by decide +kernel) [(0, .ref (B + a0))] (Nat.le_of_ble_eq_true rfl) rfl ?_
  intro p e s m args below meth c C hr hlk
  have J2 : ∀ (g : Nat) (y1 : Int32) (t0 : St), f_X4_putNowhere_l2 g a0 y1 t0 = some t9 → WW G B p l e (RM 0 0 0 0) s m args below meth c 0 0 (MQ below (PostV G B t9) args s 0 0 (Ab B)) 2 2 [(0, .ref (B + a0)), (1, .int y1)] [] t0 := by
    intro g
    induction g with
    | zero => intro y1 t0 h; exact (no_some h).elim
    | succ g ih =>
      clear h
      intro y1 t0 h
      have h : f_X4_putNowhere_b2 (f_X4_putNowhere_l2 g) a0 y1 t0 = some t9 := h
      refine j_iload_n C (q := 1) dX4_putNowhere_2 rfl rfl ?_
      refine j_aload_n C (q := 0) dX4_putNowhere_3 rfl rfl ?_
      refine fg_X4_9 C (i := a0) k0 dX4_putNowhere_4 ?_
      refine j_alen8 C (i := (a0 + 1)) (kR4_1 k0) dX4_putNowhere_7 ?_
      refine j_icmp_ge C (tgt := 24) dX4_putNowhere_8 (by decide) (fun c21 => ?_) (fun c21 => ?_)
      · have h := ite_t h c21
        exact j_vret C hr hlk h ⟨Nat.le_of_ble_eq_true rfl, Nat.le_of_ble_eq_true rfl⟩ dX4_putNowhere_24
      · have h := ite_f h c21
        refine j_aload_n C (q := 0) dX4_putNowhere_11 rfl rfl ?_
        refine fg_X4_9 C (i := a0) k0 dX4_putNowhere_12 ?_
        refine j_iload_n C (q := 1) dX4_putNowhere_15 rfl rfl ?_
        refine j_iconst C (v := (-1)) dX4_putNowhere_16 (by decide) ?_
        obtain ⟨g22, h⟩ := gd_some h
        refine j_iast C (i := (a0 + 1)) (kR4_1 k0) (inA g22 rfl) dX4_putNowhere_17 ?_
        refine j_tops (fun t23 et23 => ?_)
        have h := lt_at h et23
        obtain ⟨x24, ex24⟩ : ∃ y : Int32, y = (y1 + 1) := ⟨_, rfl⟩
        have h := lt_at h ex24
        refine j_iinc C (q := 1) [(0, .ref (B + a0)), (1, .int x24)] [1, 0] dX4_putNowhere_18 rfl (by rw [ex24]; rfl) (by decide) rfl ?_
        refine j_goto C (tgt := 2) dX4_putNowhere_21 (by decide) ?_
        exact ih x24 _ h
  refine j_iconst C (v := 0) dX4_putNowhere_0 (by decide) ?_
  refine j_istore_n C [(0, .ref (B + a0)), (1, .int 0)] [1, 0] dX4_putNowhere_1 rfl (by decide) rfl ?_
  exact J2 FU 0 _ h
set_option maxRecDepth 100000 in
set_option maxHeartbeats 400000 in
theorem c_X4_copyFrom (l : Launch) (G : GG) (B dy : Nat) (a0 : Nat) (k0 : kd a0 = 4) (a1 : Nat) (k1 : kd a1 = 4) (t0 : St) {t9 : St} (h : f_X4_copyFrom a0 a1 t0 = some t9) : Ct l G B dy yX4_copyFrom cX4_copyFrom 3 none 1 21 0 0 [.ref (B + a0), .ref (B + a1)] t0 (PostV G B t9) := by
  refine Ct_of (by decide +kernel) [(0, .ref (B + a0)), (1, .ref (B + a1))] (Nat.le_of_ble_eq_true rfl) rfl ?_
  intro p e s m args below meth c C hr hlk
  have J2 : ∀ (g : Nat) (y2 : Int32) (t0 : St), f_X4_copyFrom_l2 g a0 a1 y2 t0 = some t9 → WW G B p l e (RM 1 21 0 0) s m args below meth c 0 0 (MQ below (PostV G B t9) args s 0 0 (Ab B)) 3 2 [(0, .ref (B + a0)), (1, .ref (B + a1)), (2, .int y2)] [] t0 := by
    intro g
    induction g with
    | zero => intro y2 t0 h; exact (no_some h).elim
    | succ g ih =>
      clear h
      intro y2 t0 h
      have h : f_X4_copyFrom_b2 (f_X4_copyFrom_l2 g) a0 a1 y2 t0 = some t9 := h
      refine j_iload_n C (q := 2) dX4_copyFrom_2 rfl rfl ?_
      refine j_aload_n C (q := 0) dX4_copyFrom_3 rfl rfl ?_
      refine fg_X4_9 C (i := a0) k0 dX4_copyFrom_4 ?_
      refine j_alen8 C (i := (a0 + 1)) (kR4_1 k0) dX4_copyFrom_7 ?_
      refine j_icmp_ge C (tgt := 28) dX4_copyFrom_8 (by decide) (fun c21 => ?_) (fun c21 => ?_)
      · have h := ite_t h c21
        exact j_vret C hr hlk h ⟨Nat.le_of_ble_eq_true rfl, Nat.le_of_ble_eq_true rfl⟩ dX4_copyFrom_28
      · have h := ite_f h c21
        refine j_aload_n C (q := 0) dX4_copyFrom_11 rfl rfl ?_
        refine fg_X4_9 C (i := a0) k0 dX4_copyFrom_12 ?_
        refine j_iload_n C (q := 2) dX4_copyFrom_15 rfl rfl ?_
        refine j_aload_n C (q := 1) dX4_copyFrom_16 rfl rfl ?_
        refine j_iload_n C (q := 2) dX4_copyFrom_17 rfl rfl ?_
        obtain ⟨x22, t23, e24, h⟩ := bd_some h
        refine j_callV_i C (i := a1) (As := [.int y2]) (rest := [.int y2, .ref (B + (a0 + 1))]) (c_X4_at l G B dy a1 k1 y2 _ e24) (shp4 G B _ k1) (kd_lt k1 (by decide)) rfl tw_554 tw_241 tw_242 ti_4 tw_243 hd_X4_at ⟨Nat.le_of_ble_eq_true rfl, Nat.le_of_ble_eq_true rfl⟩ ⟨Nat.le_of_ble_eq_true rfl, Nat.le_of_ble_eq_true rfl⟩ rfl rfl (Nat.le_of_ble_eq_true rfl) dX4_copyFrom_18 ?_
        obtain ⟨g25, h⟩ := gd_some h
        refine j_iast C (i := (a0 + 1)) (kR4_1 k0) (inA g25 rfl) dX4_copyFrom_21 ?_
        refine j_tops (fun t26 et26 => ?_)
        have h := lt_at h et26
        obtain ⟨x27, ex27⟩ : ∃ y : Int32, y = (y2 + 1) := ⟨_, rfl⟩
        have h := lt_at h ex27
        refine j_iinc C (q := 2) [(0, .ref (B + a0)), (1, .ref (B + a1)), (2, .int x27)] [1, 2, 0] dX4_copyFrom_22 rfl (by rw [ex27]; rfl) (by decide) rfl ?_
        refine j_goto C (tgt := 2) dX4_copyFrom_25 (by decide) ?_
        exact ih x27 _ h
  refine j_iconst C (v := 0) dX4_copyFrom_0 (by decide) ?_
  refine j_istore_n C [(0, .ref (B + a0)), (1, .ref (B + a1)), (2, .int 0)] [1, 2, 0] dX4_copyFrom_1 rfl (by decide) rfl ?_
  exact J2 FU 0 _ h
set_option maxRecDepth 100000 in
set_option maxHeartbeats 400000 in
theorem c_X2_start (l : Launch) (G : GG) (B dy : Nat) (t0 : St) {t9 : St} (h : f_X2_start t0 = some t9) : Ct l G B dy yX2_start cX2_start 1 none 0 0 0 0 [.ref (B + 138)] t0 (PostV G B t9) := by
  refine Ct_of (by decide +kernel) [(0, .ref (B + 138))] (Nat.le_of_ble_eq_true rfl) rfl ?_
  intro p e s m args below meth c C hr hlk
  refine j_aload_n C (q := 0) dX2_start_0 rfl rfl ?_
  refine j_iconst C (v := 0) dX2_start_1 (by decide) ?_
  refine fp_X2_11 C (i := 138) kA_138 dX2_start_2 ?_
  refine j_tops (fun t21 et21 => ?_)
  have h := lt_at h et21
  refine j_aload_n C (q := 0) dX2_start_5 rfl rfl ?_
  refine j_iconst C (v := 0) dX2_start_6 (by decide) ?_
  refine fp_X2_15 C (i := 138) kA_138 dX2_start_7 ?_
  refine j_tops (fun t22 et22 => ?_)
  have h := lt_at h et22
  refine j_aload_n C (q := 0) dX2_start_10 rfl rfl ?_
  refine j_iconst C (v := 0) dX2_start_11 (by decide) ?_
  refine fp_X2_18 C (i := 138) kA_138 dX2_start_12 ?_
  refine j_tops (fun t23 et23 => ?_)
  have h := lt_at h et23
  refine j_aload_n C (q := 0) dX2_start_15 rfl rfl ?_
  refine j_iconst C (v := 0) dX2_start_16 (by decide) ?_
  refine fp_X2_21 C (i := 138) kA_138 (Or.inl rfl) dX2_start_17 ?_
  refine j_tops (fun t24 et24 => ?_)
  have h := lt_at h et24
  refine j_aload_n C (q := 0) dX2_start_20 rfl rfl ?_
  refine j_iconst C (v := (-1)) dX2_start_21 (by decide) ?_
  refine fp_X2_25 C (i := 138) kA_138 dX2_start_22 ?_
  refine j_tops (fun t25 et25 => ?_)
  have h := lt_at h et25
  refine j_aload_n C (q := 0) dX2_start_25 rfl rfl ?_
  refine j_iconst C (v := 0) dX2_start_26 (by decide) ?_
  refine fp_X2_28 C (i := 138) kA_138 dX2_start_27 ?_
  refine j_tops (fun t26 et26 => ?_)
  have h := lt_at h et26
  exact j_vret C hr hlk h ⟨Nat.le_of_ble_eq_true rfl, Nat.le_of_ble_eq_true rfl⟩ dX2_start_30
set_option maxRecDepth 100000 in
set_option maxHeartbeats 400000 in
theorem c_X2_hasWeekday (l : Launch) (G : GG) (B dy : Nat) (t0 : St) {r : Int32} {t9 : St} (h : f_X2_hasWeekday t0 = some (r, t9)) : Ct l G B dy yX2_hasWeekday cX2_hasWeekday 1 (some .boolean) 0 0 0 0 [.ref (B + 138)] t0 (PostI G B r t9) := by
  refine Ct_of (by decide +kernel) [(0, .ref (B + 138))] (Nat.le_of_ble_eq_true rfl) rfl ?_
  intro p e s m args below meth c C hr hlk
  refine j_aload_n C (q := 0) dX2_hasWeekday_0 rfl rfl ?_
  refine fg_X2_15 C (i := 138) kA_138 dX2_hasWeekday_1 ?_
  refine j_iconst C (v := 1) dX2_hasWeekday_4 (by decide) ?_
  refine j_icmp_eq C (tgt := 16) dX2_hasWeekday_5 (by decide) (fun c21 => ?_) (fun c21 => ?_)
  · have h := ite_t h c21
    refine j_iconst C (v := 1) dX2_hasWeekday_16 (by decide) ?_
    refine j_goto C (tgt := 21) dX2_hasWeekday_17 (by decide) ?_
    exact j_zret C hr hlk (Or.inr rfl) h ⟨Nat.le_of_ble_eq_true rfl, Nat.le_of_ble_eq_true rfl⟩ dX2_hasWeekday_21
  · have h := ite_f h c21
    refine j_aload_n C (q := 0) dX2_hasWeekday_8 rfl rfl ?_
    refine fg_X2_15 C (i := 138) kA_138 dX2_hasWeekday_9 ?_
    refine j_iconst C (v := 2) dX2_hasWeekday_12 (by decide) ?_
    refine j_icmp_ne C (tgt := 20) dX2_hasWeekday_13 (by decide) (fun c22 => ?_) (fun c22 => ?_)
    · have h := ite_t h c22
      refine j_iconst C (v := 1) dX2_hasWeekday_16 (by decide) ?_
      refine j_goto C (tgt := 21) dX2_hasWeekday_17 (by decide) ?_
      exact j_zret C hr hlk (Or.inr rfl) h ⟨Nat.le_of_ble_eq_true rfl, Nat.le_of_ble_eq_true rfl⟩ dX2_hasWeekday_21
    · have h := ite_f h c22
      refine j_iconst C (v := 0) dX2_hasWeekday_20 (by decide) ?_
      exact j_zret C hr hlk (Or.inl rfl) h ⟨Nat.le_of_ble_eq_true rfl, Nat.le_of_ble_eq_true rfl⟩ dX2_hasWeekday_21
set_option maxRecDepth 100000 in
set_option maxHeartbeats 400000 in
theorem c_X2_isDigit (l : Launch) (G : GG) (B dy : Nat) (x0 : Int32) (t0 : St) {r : Int32} {t9 : St} (h : f_X2_isDigit x0 t0 = some (r, t9)) : Ct l G B dy yX2_isDigit cX2_isDigit 1 (some .boolean) 0 0 0 0 [.int x0] t0 (PostI G B r t9) := by
  refine Ct_of (by decide +kernel) [(0, .int x0)] (Nat.le_of_ble_eq_true rfl) rfl ?_
  intro p e s m args below meth c C hr hlk
  refine j_iload_n C (q := 0) dX2_isDigit_0 rfl rfl ?_
  refine j_bipush C (v := 48) dX2_isDigit_1 (by decide) ?_
  refine j_icmp_lt C (tgt := 16) dX2_isDigit_3 (by decide) (fun c21 => ?_) (fun c21 => ?_)
  · have h := ite_t h c21
    refine j_iconst C (v := 0) dX2_isDigit_16 (by decide) ?_
    exact j_zret C hr hlk (Or.inl rfl) h ⟨Nat.le_of_ble_eq_true rfl, Nat.le_of_ble_eq_true rfl⟩ dX2_isDigit_17
  · have h := ite_f h c21
    refine j_iload_n C (q := 0) dX2_isDigit_6 rfl rfl ?_
    refine j_bipush C (v := 57) dX2_isDigit_7 (by decide) ?_
    refine j_icmp_gt C (tgt := 16) dX2_isDigit_9 (by decide) (fun c22 => ?_) (fun c22 => ?_)
    · have h := ite_t h c22
      refine j_iconst C (v := 0) dX2_isDigit_16 (by decide) ?_
      exact j_zret C hr hlk (Or.inl rfl) h ⟨Nat.le_of_ble_eq_true rfl, Nat.le_of_ble_eq_true rfl⟩ dX2_isDigit_17
    · have h := ite_f h c22
      refine j_iconst C (v := 1) dX2_isDigit_12 (by decide) ?_
      refine j_goto C (tgt := 17) dX2_isDigit_13 (by decide) ?_
      exact j_zret C hr hlk (Or.inr rfl) h ⟨Nat.le_of_ble_eq_true rfl, Nat.le_of_ble_eq_true rfl⟩ dX2_isDigit_17
