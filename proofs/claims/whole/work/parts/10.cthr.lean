set_option maxRecDepth 100000 in
set_option maxHeartbeats 4000000 in
theorem c_X6_proclaim (l : Launch) (G : GG) (B dy : Nat) (sa : Nat → Nat) (hls : l.stackTraces = false) (t0 : St) {res : Ex (Int32 × St)} (h : f_X6_proclaim t0 = some res) : CtX l G B dy sa yX6_proclaim cX6_proclaim 2 (some .int) 6 124 1 6 [.ref (B + 0)] t0 (PX G B res) (XX G B res) := by
  refine CtX_of (by decide +kernel) [(0, .ref (B + 0))] (Nat.le_of_ble_eq_true rfl) rfl ?_
  intro p e s m args below meth c C hr hlk E hno
  refine j_aload_n C (q := 0) dX6_proclaim_0 rfl rfl ?_
  obtain ⟨x21, t22, e23, h⟩ := bd_some h
  refine j_callV_i C (i := 0) (As := []) (rest := []) (c_X6_bufferTellsFeasts l G B dy _ e23) (shp6 G B _ kA_0) (kd_lt kA_0 (by decide)) rfl tw_462 tw_464 tp_28 ti_6 tw_465 hd_X6_bufferTellsFeasts ⟨Nat.le_of_ble_eq_true rfl, Nat.le_of_ble_eq_true rfl⟩ ⟨Nat.le_of_ble_eq_true rfl, Nat.le_of_ble_eq_true rfl⟩ rfl rfl (Nat.le_of_ble_eq_true rfl) dX6_proclaim_1 ?_
  refine j_if_ne C (tgt := 17) dX6_proclaim_4 (by decide) (fun c24 => ?_) (fun c24 => ?_)
  · have h := ite_t h c24
    exact j_throw C E hls hno hlk (is := 74) (by decide +kernel) (by decide +kernel) x1A x2A (List.mem_of_getElem? (i := 5) rfl) x4A x5A x6A dX6_proclaim_7 dX6_proclaim_10 dX6_proclaim_11 dX6_proclaim_13 dX6_proclaim_16 ⟨Nat.le_of_ble_eq_true rfl, Nat.le_of_ble_eq_true rfl, Nat.le_of_ble_eq_true rfl, Nat.le_of_ble_eq_true rfl⟩ h ⟨Nat.le_of_ble_eq_true rfl, Nat.le_of_ble_eq_true rfl⟩
  · have h := ite_f h c24
    refine j_aload_n C (q := 0) dX6_proclaim_17 rfl rfl ?_
    refine fg_X6_19 C (i := 0) kA_0 dX6_proclaim_18 ?_
    refine j_aload_n C (q := 0) dX6_proclaim_21 rfl rfl ?_
    refine fg_X6_12 C (i := 0) kA_0 dX6_proclaim_22 ?_
    obtain ⟨t26, e27, h⟩ := bv_some h
    refine j_callV_v C (i := 20) (As := [.ref (B + 1)]) (rest := []) (c_X1_save l G B dy 1 kA_1 _ e27) (shp1 G B _ kA_20) (kd_lt kA_20 (by decide)) rfl tw_538 tw_539 tw_540 ti_1 tw_541 hd_X1_save ⟨Nat.le_of_ble_eq_true rfl, Nat.le_of_ble_eq_true rfl⟩ ⟨Nat.le_of_ble_eq_true rfl, Nat.le_of_ble_eq_true rfl⟩ rfl rfl (Nat.le_of_ble_eq_true rfl) dX6_proclaim_25 ?_
    refine j_aload_n C (q := 0) dX6_proclaim_28 rfl rfl ?_
    obtain ⟨x28, t29, e30, h⟩ := bd_some h
    refine j_callV_i C (i := 0) (As := []) (rest := []) (c_X6_addBufferedFeasts l G B dy _ e30) (shp6 G B _ kA_0) (kd_lt kA_0 (by decide)) rfl tw_555 tw_557 tp_31 ti_6 tw_558 hd_X6_addBufferedFeasts ⟨Nat.le_of_ble_eq_true rfl, Nat.le_of_ble_eq_true rfl⟩ ⟨Nat.le_of_ble_eq_true rfl, Nat.le_of_ble_eq_true rfl⟩ rfl rfl (Nat.le_of_ble_eq_true rfl) dX6_proclaim_29 ?_
    refine j_istore_n C [(0, .ref (B + 0)), (1, .int x28)] [1, 0] dX6_proclaim_32 rfl (by decide) rfl ?_
    refine j_aload_n C (q := 0) dX6_proclaim_33 rfl rfl ?_
    refine j_iconst C (v := 0) dX6_proclaim_34 (by decide) ?_
    refine fp_X6_64 C (i := 0) kA_0 dX6_proclaim_35 ?_
    refine j_tops (fun t31 et31 => ?_)
    have h := lt_at h et31
    refine j_iload_n C (q := 1) dX6_proclaim_38 rfl rfl ?_
    exact jx_iret C hr hlk h ⟨Nat.le_of_ble_eq_true rfl, Nat.le_of_ble_eq_true rfl⟩ dX6_proclaim_39
set_option maxRecDepth 100000 in
set_option maxHeartbeats 4000000 in
theorem c_X6_forget (l : Launch) (G : GG) (B dy : Nat) (sa : Nat → Nat) (hls : l.stackTraces = false) (t0 : St) {res : Ex (Int32 × St)} (h : f_X6_forget t0 = some res) : CtX l G B dy sa yX6_forget cX6_forget 1 (some .int) 6 86 1 6 [.ref (B + 0)] t0 (PX G B res) (XX G B res) := by
  refine CtX_of (by decide +kernel) [(0, .ref (B + 0))] (Nat.le_of_ble_eq_true rfl) rfl ?_
  intro p e s m args below meth c C hr hlk E hno
  refine j_aload_n C (q := 0) dX6_forget_0 rfl rfl ?_
  refine fg_X6_12 C (i := 0) kA_0 dX6_forget_1 ?_
  refine fg_X6_87 C (i := 1) kA_1 dX6_forget_4 ?_
  refine j_if_gt C (tgt := 20) dX6_forget_7 (by decide) (fun c21 => ?_) (fun c21 => ?_)
  · have h := ite_t h c21
    refine j_aload_n C (q := 0) dX6_forget_20 rfl rfl ?_
    refine fg_X6_19 C (i := 0) kA_0 dX6_forget_21 ?_
    refine j_aload_n C (q := 0) dX6_forget_24 rfl rfl ?_
    refine fg_X6_12 C (i := 0) kA_0 dX6_forget_25 ?_
    obtain ⟨t23, e24, h⟩ := bv_some h
    refine j_callV_v C (i := 20) (As := [.ref (B + 1)]) (rest := []) (c_X1_save l G B dy 1 kA_1 _ e24) (shp1 G B _ kA_20) (kd_lt kA_20 (by decide)) rfl tw_538 tw_539 tw_540 ti_1 tw_541 hd_X1_save ⟨Nat.le_of_ble_eq_true rfl, Nat.le_of_ble_eq_true rfl⟩ ⟨Nat.le_of_ble_eq_true rfl, Nat.le_of_ble_eq_true rfl⟩ rfl rfl (Nat.le_of_ble_eq_true rfl) dX6_forget_28 ?_
    refine j_aload_n C (q := 0) dX6_forget_31 rfl rfl ?_
    refine fg_X6_12 C (i := 0) kA_0 dX6_forget_32 ?_
    refine j_dup C dX6_forget_35 rfl ?_
    refine fg_X6_87 C (i := 1) kA_1 dX6_forget_36 ?_
    refine j_iconst C (v := 1) dX6_forget_39 (by decide) ?_
    refine j_isub C dX6_forget_40 ?_
    refine fp_X6_87 C (i := 1) kA_1 dX6_forget_41 ?_
    refine j_tops (fun t25 et25 => ?_)
    have h := lt_at h et25
    refine j_aload_n C (q := 0) dX6_forget_44 rfl rfl ?_
    refine fg_X6_12 C (i := 0) kA_0 dX6_forget_45 ?_
    refine fg_X6_87 C (i := 1) kA_1 dX6_forget_48 ?_
    exact jx_iret C hr hlk h ⟨Nat.le_of_ble_eq_true rfl, Nat.le_of_ble_eq_true rfl⟩ dX6_forget_51
  · have h := ite_f h c21
    exact j_throw C E hls hno hlk (is := 92) (by decide +kernel) (by decide +kernel) x1S x2S (List.mem_of_getElem? (i := 6) rfl) x4S x5S x6S dX6_forget_10 dX6_forget_13 dX6_forget_14 dX6_forget_16 dX6_forget_19 ⟨Nat.le_of_ble_eq_true rfl, Nat.le_of_ble_eq_true rfl, Nat.le_of_ble_eq_true rfl, Nat.le_of_ble_eq_true rfl⟩ h ⟨Nat.le_of_ble_eq_true rfl, Nat.le_of_ble_eq_true rfl⟩
set_option maxRecDepth 100000 in
set_option maxHeartbeats 4000000 in
theorem c_X6_needFeast (l : Launch) (G : GG) (B dy : Nat) (sa : Nat → Nat) (hls : l.stackTraces = false) (x1 : Int32) (t0 : St) {res : Ex St} (h : f_X6_needFeast x1 t0 = some res) : CtX l G B dy sa yX6_needFeast cX6_needFeast 2 none 6 82 1 6 [.ref (B + 0), .int x1] t0 (PXv G B res) (XX G B res) := by
  refine CtX_of (by decide +kernel) [(0, .ref (B + 0)), (1, .int x1)] (Nat.le_of_ble_eq_true rfl) rfl ?_
  intro p e s m args below meth c C hr hlk E hno
  refine j_iload_n C (q := 1) dX6_needFeast_0 rfl rfl ?_
  refine j_if_lt C (tgt := 15) dX6_needFeast_1 (by decide) (fun c21 => ?_) (fun c21 => ?_)
  · have h := ite_t h c21
    exact j_throw C E hls hno hlk (is := 247) (by decide +kernel) (by decide +kernel) x1I x2I (List.mem_of_getElem? (i := 3) rfl) x4I x5I x6I dX6_needFeast_15 dX6_needFeast_18 dX6_needFeast_19 dX6_needFeast_21 dX6_needFeast_24 ⟨Nat.le_of_ble_eq_true rfl, Nat.le_of_ble_eq_true rfl, Nat.le_of_ble_eq_true rfl, Nat.le_of_ble_eq_true rfl⟩ h ⟨Nat.le_of_ble_eq_true rfl, Nat.le_of_ble_eq_true rfl⟩
  · have h := ite_f h c21
    refine j_iload_n C (q := 1) dX6_needFeast_4 rfl rfl ?_
    refine j_aload_n C (q := 0) dX6_needFeast_5 rfl rfl ?_
    refine fg_X6_12 C (i := 0) kA_0 dX6_needFeast_6 ?_
    refine fg_X6_87 C (i := 1) kA_1 dX6_needFeast_9 ?_
    refine j_icmp_lt C (tgt := 25) dX6_needFeast_12 (by decide) (fun c22 => ?_) (fun c22 => ?_)
    · have h := ite_t h c22
      exact jx_vret C hr hlk h ⟨Nat.le_of_ble_eq_true rfl, Nat.le_of_ble_eq_true rfl⟩ dX6_needFeast_25
    · have h := ite_f h c22
      exact j_throw C E hls hno hlk (is := 247) (by decide +kernel) (by decide +kernel) x1I x2I (List.mem_of_getElem? (i := 3) rfl) x4I x5I x6I dX6_needFeast_15 dX6_needFeast_18 dX6_needFeast_19 dX6_needFeast_21 dX6_needFeast_24 ⟨Nat.le_of_ble_eq_true rfl, Nat.le_of_ble_eq_true rfl, Nat.le_of_ble_eq_true rfl, Nat.le_of_ble_eq_true rfl⟩ h ⟨Nat.le_of_ble_eq_true rfl, Nat.le_of_ble_eq_true rfl⟩
set_option maxRecDepth 100000 in
set_option maxHeartbeats 4000000 in
theorem c_X6_needWithin (l : Launch) (G : GG) (B dy : Nat) (sa : Nat → Nat) (hls : l.stackTraces = false) (x0 : Int32) (x1 : Int32) (x2 : Int32) (t0 : St) {res : Ex St} (h : f_X6_needWithin x0 x1 x2 t0 = some res) : CtX l G B dy sa yX6_needWithin cX6_needWithin 3 none 6 82 1 6 [.int x0, .int x1, .int x2] t0 (PXv G B res) (XX G B res) := by
  refine CtX_of (by decide +kernel) [(0, .int x0), (1, .int x1), (2, .int x2)] (Nat.le_of_ble_eq_true rfl) rfl ?_
  intro p e s m args below meth c C hr hlk E hno
  refine j_iload_n C (q := 0) dX6_needWithin_0 rfl rfl ?_
  refine j_iload_n C (q := 1) dX6_needWithin_1 rfl rfl ?_
  refine j_icmp_lt C (tgt := 10) dX6_needWithin_2 (by decide) (fun c21 => ?_) (fun c21 => ?_)
  · have h := ite_t h c21
    exact j_throw C E hls hno hlk (is := 243) (by decide +kernel) (by decide +kernel) x1A x2A (List.mem_of_getElem? (i := 2) rfl) x4A x5A x6A dX6_needWithin_10 dX6_needWithin_13 dX6_needWithin_14 dX6_needWithin_16 dX6_needWithin_19 ⟨Nat.le_of_ble_eq_true rfl, Nat.le_of_ble_eq_true rfl, Nat.le_of_ble_eq_true rfl, Nat.le_of_ble_eq_true rfl⟩ h ⟨Nat.le_of_ble_eq_true rfl, Nat.le_of_ble_eq_true rfl⟩
  · have h := ite_f h c21
    refine j_iload_n C (q := 0) dX6_needWithin_5 rfl rfl ?_
    refine j_iload_n C (q := 2) dX6_needWithin_6 rfl rfl ?_
    refine j_icmp_le C (tgt := 20) dX6_needWithin_7 (by decide) (fun c22 => ?_) (fun c22 => ?_)
    · have h := ite_t h c22
      exact jx_vret C hr hlk h ⟨Nat.le_of_ble_eq_true rfl, Nat.le_of_ble_eq_true rfl⟩ dX6_needWithin_20
    · have h := ite_f h c22
      exact j_throw C E hls hno hlk (is := 243) (by decide +kernel) (by decide +kernel) x1A x2A (List.mem_of_getElem? (i := 2) rfl) x4A x5A x6A dX6_needWithin_10 dX6_needWithin_13 dX6_needWithin_14 dX6_needWithin_16 dX6_needWithin_19 ⟨Nat.le_of_ble_eq_true rfl, Nat.le_of_ble_eq_true rfl, Nat.le_of_ble_eq_true rfl, Nat.le_of_ble_eq_true rfl⟩ h ⟨Nat.le_of_ble_eq_true rfl, Nat.le_of_ble_eq_true rfl⟩
set_option maxRecDepth 100000 in
set_option maxHeartbeats 4000000 in
theorem c_X6_rank (l : Launch) (G : GG) (B dy : Nat) (sa : Nat → Nat) (hls : l.stackTraces = false) (x1 : Int32) (x2 : Int32) (t0 : St) {res : Ex (Int32 × St)} (h : f_X6_rank x1 x2 t0 = some res) : CtX l G B dy sa yX6_rank cX6_rank 4 (some .int) 7 104 2 12 [.ref (B + 0), .int x1, .int x2] t0 (PX G B res) (XX G B res) := by
  refine CtX_of (by decide +kernel) [(0, .ref (B + 0)), (1, .int x1), (2, .int x2)] (Nat.le_of_ble_eq_true rfl) rfl ?_
  intro p e s m args below meth c C hr hlk E hno
  refine j_aload_n C (q := 0) dX6_rank_0 rfl rfl ?_
  refine j_iload_n C (q := 1) dX6_rank_1 rfl rfl ?_
  rcases bx_some h with ⟨q24, e23, h25⟩ | ⟨t22, e23, h⟩
  · exact jx_thV_v C E hno hlk (i := 0) (As := [.int x1]) (rest := []) (c_X6_needFeast l G B dy sa hls x1 _ e23) (shp6 G B _ kA_0) (kd_lt kA_0 (by decide)) rfl tw_600 tw_602 tp_33 ti_6 tw_603 hd_X6_needFeast ⟨Nat.le_of_ble_eq_true rfl, Nat.le_of_ble_eq_true rfl⟩ ⟨Nat.le_of_ble_eq_true rfl, Nat.le_of_ble_eq_true rfl⟩ rfl rfl (Nat.le_of_ble_eq_true rfl) dX6_rank_2  h25 ⟨Nat.le_of_ble_eq_true rfl, Nat.le_of_ble_eq_true rfl⟩
  refine jx_okV_v C E (i := 0) (As := [.int x1]) (rest := []) (c_X6_needFeast l G B dy sa hls x1 _ e23) (shp6 G B _ kA_0) (kd_lt kA_0 (by decide)) rfl tw_600 tw_602 tp_33 ti_6 tw_603 hd_X6_needFeast ⟨Nat.le_of_ble_eq_true rfl, Nat.le_of_ble_eq_true rfl⟩ ⟨Nat.le_of_ble_eq_true rfl, Nat.le_of_ble_eq_true rfl⟩ rfl rfl (Nat.le_of_ble_eq_true rfl) dX6_rank_2 ?_
  refine j_iload_n C (q := 2) dX6_rank_5 rfl rfl ?_
  refine j_iconst C (v := 0) dX6_rank_6 (by decide) ?_
  refine j_bipush C (v := 9) dX6_rank_7 (by decide) ?_
  rcases bx_some h with ⟨q29, e28, h30⟩ | ⟨t27, e28, h⟩
  · exact jx_thS_v C E hno hlk (As := [.int x2, .int 0, .int 9]) (rest := []) (c_X6_needWithin l G B dy sa hls x2 0 9 _ e28) tw_620 tw_621 ti_6 tw_622 ⟨rfl, hd_X6_needWithin⟩ ⟨Nat.le_of_ble_eq_true rfl, Nat.le_of_ble_eq_true rfl⟩ ⟨Nat.le_of_ble_eq_true rfl, Nat.le_of_ble_eq_true rfl⟩ rfl rfl (Nat.le_of_ble_eq_true rfl) dX6_rank_9  h30 ⟨Nat.le_of_ble_eq_true rfl, Nat.le_of_ble_eq_true rfl⟩
  refine jx_okS_v C E (As := [.int x2, .int 0, .int 9]) (rest := []) (c_X6_needWithin l G B dy sa hls x2 0 9 _ e28) tw_620 tw_621 ti_6 tw_622 ⟨rfl, hd_X6_needWithin⟩ ⟨Nat.le_of_ble_eq_true rfl, Nat.le_of_ble_eq_true rfl⟩ ⟨Nat.le_of_ble_eq_true rfl, Nat.le_of_ble_eq_true rfl⟩ rfl rfl (Nat.le_of_ble_eq_true rfl) dX6_rank_9 ?_
  refine j_aload_n C (q := 0) dX6_rank_12 rfl rfl ?_
  refine fg_X6_19 C (i := 0) kA_0 dX6_rank_13 ?_
  refine j_aload_n C (q := 0) dX6_rank_16 rfl rfl ?_
  refine fg_X6_12 C (i := 0) kA_0 dX6_rank_17 ?_
  obtain ⟨t32, e33, h⟩ := bv_some h
  refine j_callV_v C (i := 20) (As := [.ref (B + 1)]) (rest := []) (c_X1_save l G B dy 1 kA_1 _ e33) (shp1 G B _ kA_20) (kd_lt kA_20 (by decide)) rfl tw_538 tw_539 tw_540 ti_1 tw_541 hd_X1_save ⟨Nat.le_of_ble_eq_true rfl, Nat.le_of_ble_eq_true rfl⟩ ⟨Nat.le_of_ble_eq_true rfl, Nat.le_of_ble_eq_true rfl⟩ rfl rfl (Nat.le_of_ble_eq_true rfl) dX6_rank_20 ?_
  refine j_aload_n C (q := 0) dX6_rank_23 rfl rfl ?_
  refine fg_X6_12 C (i := 0) kA_0 dX6_rank_24 ?_
  refine fg_X6_102 C (i := 1) kA_1 dX6_rank_27 ?_
  refine j_iload_n C (q := 1) dX6_rank_30 rfl rfl ?_
  obtain ⟨x34, t35, e36, h⟩ := bd_some h
  refine j_callV_i C (i := 4) (As := [.int x1]) (rest := []) (c_X4_at l G B dy 4 kA_4 x1 _ e36) (shp4 G B _ kA_4) (kd_lt kA_4 (by decide)) rfl tw_240 tw_241 tw_242 ti_4 tw_243 hd_X4_at ⟨Nat.le_of_ble_eq_true rfl, Nat.le_of_ble_eq_true rfl⟩ ⟨Nat.le_of_ble_eq_true rfl, Nat.le_of_ble_eq_true rfl⟩ rfl rfl (Nat.le_of_ble_eq_true rfl) dX6_rank_31 ?_
  refine j_istore_n C [(0, .ref (B + 0)), (1, .int x1), (2, .int x2), (3, .int x34)] [1, 2, 3, 0] dX6_rank_34 rfl (by decide) rfl ?_
  refine j_aload_n C (q := 0) dX6_rank_35 rfl rfl ?_
  refine fg_X6_12 C (i := 0) kA_0 dX6_rank_36 ?_
  refine fg_X6_102 C (i := 1) kA_1 dX6_rank_39 ?_
  refine j_iload_n C (q := 1) dX6_rank_42 rfl rfl ?_
  refine j_iload_n C (q := 2) dX6_rank_43 rfl rfl ?_
  obtain ⟨t38, e39, h⟩ := bv_some h
  refine j_callV_v C (i := 4) (As := [.int x1, .int x2]) (rest := []) (c_X4_put l G B dy 4 kA_4 x1 x2 _ e39) (shp4 G B _ kA_4) (kd_lt kA_4 (by decide)) rfl tw_624 tw_341 tw_342 ti_4 tw_343 hd_X4_put ⟨Nat.le_of_ble_eq_true rfl, Nat.le_of_ble_eq_true rfl⟩ ⟨Nat.le_of_ble_eq_true rfl, Nat.le_of_ble_eq_true rfl⟩ rfl rfl (Nat.le_of_ble_eq_true rfl) dX6_rank_44 ?_
  refine j_iload_n C (q := 3) dX6_rank_47 rfl rfl ?_
  exact jx_iret C hr hlk h ⟨Nat.le_of_ble_eq_true rfl, Nat.le_of_ble_eq_true rfl⟩ dX6_rank_48
set_option maxRecDepth 100000 in
set_option maxHeartbeats 4000000 in
theorem c_X6_needCarver (l : Launch) (G : GG) (B dy : Nat) (sa : Nat → Nat) (hls : l.stackTraces = false) (x0 : Int32) (t0 : St) {res : Ex St} (h : f_X6_needCarver x0 t0 = some res) : CtX l G B dy sa yX6_needCarver cX6_needCarver 1 none 7 104 1 6 [.int x0] t0 (PXv G B res) (XX G B res) := by
  refine CtX_of (by decide +kernel) [(0, .int x0)] (Nat.le_of_ble_eq_true rfl) rfl ?_
  intro p e s m args below meth c C hr hlk E hno
  refine j_iload_n C (q := 0) dX6_needCarver_0 rfl rfl ?_
  refine j_iconst C (v := 0) dX6_needCarver_1 (by decide) ?_
  refine j_iconst C (v := 2) dX6_needCarver_2 (by decide) ?_
  rcases bx_some h with ⟨q24, e23, h25⟩ | ⟨t22, e23, h⟩
  · exact jx_thS_v C E hno hlk (As := [.int x0, .int 0, .int 2]) (rest := []) (c_X6_needWithin l G B dy sa hls x0 0 2 _ e23) tw_620 tw_621 ti_6 tw_622 ⟨rfl, hd_X6_needWithin⟩ ⟨Nat.le_of_ble_eq_true rfl, Nat.le_of_ble_eq_true rfl⟩ ⟨Nat.le_of_ble_eq_true rfl, Nat.le_of_ble_eq_true rfl⟩ rfl rfl (Nat.le_of_ble_eq_true rfl) dX6_needCarver_3  h25 ⟨Nat.le_of_ble_eq_true rfl, Nat.le_of_ble_eq_true rfl⟩
  refine jx_okS_v C E (As := [.int x0, .int 0, .int 2]) (rest := []) (c_X6_needWithin l G B dy sa hls x0 0 2 _ e23) tw_620 tw_621 ti_6 tw_622 ⟨rfl, hd_X6_needWithin⟩ ⟨Nat.le_of_ble_eq_true rfl, Nat.le_of_ble_eq_true rfl⟩ ⟨Nat.le_of_ble_eq_true rfl, Nat.le_of_ble_eq_true rfl⟩ rfl rfl (Nat.le_of_ble_eq_true rfl) dX6_needCarver_3 ?_
  exact jx_vret C hr hlk h ⟨Nat.le_of_ble_eq_true rfl, Nat.le_of_ble_eq_true rfl⟩ dX6_needCarver_6
set_option maxRecDepth 100000 in
set_option maxHeartbeats 4000000 in
theorem c_X6_teach (l : Launch) (G : GG) (B dy : Nat) (sa : Nat → Nat) (hls : l.stackTraces = false) (x1 : Int32) (x2 : Int32) (t0 : St) {res : Ex (Int32 × St)} (h : f_X6_teach x1 x2 t0 = some res) : CtX l G B dy sa yX6_teach cX6_teach 4 (some .int) 8 124 2 12 [.ref (B + 0), .int x1, .int x2] t0 (PX G B res) (XX G B res) := by
  refine CtX_of (by decide +kernel) [(0, .ref (B + 0)), (1, .int x1), (2, .int x2)] (Nat.le_of_ble_eq_true rfl) rfl ?_
  intro p e s m args below meth c C hr hlk E hno
  refine j_iload_n C (q := 1) dX6_teach_0 rfl rfl ?_
  rcases bx_some h with ⟨q24, e23, h25⟩ | ⟨t22, e23, h⟩
  · exact jx_thS_v C E hno hlk (As := [.int x1]) (rest := []) (c_X6_needCarver l G B dy sa hls x1 _ e23) tw_632 tw_633 ti_6 tw_634 ⟨rfl, hd_X6_needCarver⟩ ⟨Nat.le_of_ble_eq_true rfl, Nat.le_of_ble_eq_true rfl⟩ ⟨Nat.le_of_ble_eq_true rfl, Nat.le_of_ble_eq_true rfl⟩ rfl rfl (Nat.le_of_ble_eq_true rfl) dX6_teach_1  h25 ⟨Nat.le_of_ble_eq_true rfl, Nat.le_of_ble_eq_true rfl⟩
  refine jx_okS_v C E (As := [.int x1]) (rest := []) (c_X6_needCarver l G B dy sa hls x1 _ e23) tw_632 tw_633 ti_6 tw_634 ⟨rfl, hd_X6_needCarver⟩ ⟨Nat.le_of_ble_eq_true rfl, Nat.le_of_ble_eq_true rfl⟩ ⟨Nat.le_of_ble_eq_true rfl, Nat.le_of_ble_eq_true rfl⟩ rfl rfl (Nat.le_of_ble_eq_true rfl) dX6_teach_1 ?_
  refine j_iload_n C (q := 2) dX6_teach_4 rfl rfl ?_
  refine j_bipush C (v := (-5)) dX6_teach_5 (by decide) ?_
  refine j_iconst C (v := 5) dX6_teach_7 (by decide) ?_
  rcases bx_some h with ⟨q29, e28, h30⟩ | ⟨t27, e28, h⟩
  · exact jx_thS_v C E hno hlk (As := [.int x2, .int (-5), .int 5]) (rest := []) (c_X6_needWithin l G B dy sa hls x2 (-5) 5 _ e28) tw_620 tw_621 ti_6 tw_622 ⟨rfl, hd_X6_needWithin⟩ ⟨Nat.le_of_ble_eq_true rfl, Nat.le_of_ble_eq_true rfl⟩ ⟨Nat.le_of_ble_eq_true rfl, Nat.le_of_ble_eq_true rfl⟩ rfl rfl (Nat.le_of_ble_eq_true rfl) dX6_teach_8  h30 ⟨Nat.le_of_ble_eq_true rfl, Nat.le_of_ble_eq_true rfl⟩
  refine jx_okS_v C E (As := [.int x2, .int (-5), .int 5]) (rest := []) (c_X6_needWithin l G B dy sa hls x2 (-5) 5 _ e28) tw_620 tw_621 ti_6 tw_622 ⟨rfl, hd_X6_needWithin⟩ ⟨Nat.le_of_ble_eq_true rfl, Nat.le_of_ble_eq_true rfl⟩ ⟨Nat.le_of_ble_eq_true rfl, Nat.le_of_ble_eq_true rfl⟩ rfl rfl (Nat.le_of_ble_eq_true rfl) dX6_teach_8 ?_
  refine j_aload_n C (q := 0) dX6_teach_11 rfl rfl ?_
  refine fg_X6_19 C (i := 0) kA_0 dX6_teach_12 ?_
  refine j_aload_n C (q := 0) dX6_teach_15 rfl rfl ?_
  refine fg_X6_12 C (i := 0) kA_0 dX6_teach_16 ?_
  obtain ⟨t32, e33, h⟩ := bv_some h
  refine j_callV_v C (i := 20) (As := [.ref (B + 1)]) (rest := []) (c_X1_save l G B dy 1 kA_1 _ e33) (shp1 G B _ kA_20) (kd_lt kA_20 (by decide)) rfl tw_538 tw_539 tw_540 ti_1 tw_541 hd_X1_save ⟨Nat.le_of_ble_eq_true rfl, Nat.le_of_ble_eq_true rfl⟩ ⟨Nat.le_of_ble_eq_true rfl, Nat.le_of_ble_eq_true rfl⟩ rfl rfl (Nat.le_of_ble_eq_true rfl) dX6_teach_19 ?_
  refine j_aload_n C (q := 0) dX6_teach_22 rfl rfl ?_
  refine fg_X6_12 C (i := 0) kA_0 dX6_teach_23 ?_
  refine fg_X6_116 C (i := 1) kA_1 dX6_teach_26 ?_
  refine j_iload_n C (q := 1) dX6_teach_29 rfl rfl ?_
  obtain ⟨x34, t35, e36, h⟩ := bd_some h
  refine j_callV_i C (i := 10) (As := [.int x1]) (rest := []) (c_X4_at l G B dy 10 kA_10 x1 _ e36) (shp4 G B _ kA_10) (kd_lt kA_10 (by decide)) rfl tw_240 tw_241 tw_242 ti_4 tw_243 hd_X4_at ⟨Nat.le_of_ble_eq_true rfl, Nat.le_of_ble_eq_true rfl⟩ ⟨Nat.le_of_ble_eq_true rfl, Nat.le_of_ble_eq_true rfl⟩ rfl rfl (Nat.le_of_ble_eq_true rfl) dX6_teach_30 ?_
  refine j_istore_n C [(0, .ref (B + 0)), (1, .int x1), (2, .int x2), (3, .int x34)] [1, 2, 3, 0] dX6_teach_33 rfl (by decide) rfl ?_
  refine j_aload_n C (q := 0) dX6_teach_34 rfl rfl ?_
  refine fg_X6_12 C (i := 0) kA_0 dX6_teach_35 ?_
  refine fg_X6_116 C (i := 1) kA_1 dX6_teach_38 ?_
  refine j_iload_n C (q := 1) dX6_teach_41 rfl rfl ?_
  refine j_iload_n C (q := 2) dX6_teach_42 rfl rfl ?_
  obtain ⟨t38, e39, h⟩ := bv_some h
  refine j_callV_v C (i := 10) (As := [.int x1, .int x2]) (rest := []) (c_X4_put l G B dy 10 kA_10 x1 x2 _ e39) (shp4 G B _ kA_10) (kd_lt kA_10 (by decide)) rfl tw_624 tw_341 tw_342 ti_4 tw_343 hd_X4_put ⟨Nat.le_of_ble_eq_true rfl, Nat.le_of_ble_eq_true rfl⟩ ⟨Nat.le_of_ble_eq_true rfl, Nat.le_of_ble_eq_true rfl⟩ rfl rfl (Nat.le_of_ble_eq_true rfl) dX6_teach_43 ?_
  refine j_iload_n C (q := 3) dX6_teach_46 rfl rfl ?_
  refine j_iconst C (v := 5) dX6_teach_47 (by decide) ?_
  refine j_iadd C dX6_teach_48 ?_
  exact jx_iret C hr hlk h ⟨Nat.le_of_ble_eq_true rfl, Nat.le_of_ble_eq_true rfl⟩ dX6_teach_49
set_option maxRecDepth 100000 in
set_option maxHeartbeats 4000000 in
theorem c_X6_needYear (l : Launch) (G : GG) (B dy : Nat) (sa : Nat → Nat) (hls : l.stackTraces = false) (x0 : Int32) (t0 : St) {res : Ex St} (h : f_X6_needYear x0 t0 = some res) : CtX l G B dy sa yX6_needYear cX6_needYear 1 none 7 104 1 6 [.int x0] t0 (PXv G B res) (XX G B res) := by
  refine CtX_of (by decide +kernel) [(0, .int x0)] (Nat.le_of_ble_eq_true rfl) rfl ?_
  intro p e s m args below meth c C hr hlk E hno
  refine j_iload_n C (q := 0) dX6_needYear_0 rfl rfl ?_
  refine j_iconst C (v := 0) dX6_needYear_1 (by decide) ?_
  refine j_sipush C (v := 999) dX6_needYear_2 (by decide) ?_
  rcases bx_some h with ⟨q24, e23, h25⟩ | ⟨t22, e23, h⟩
  · exact jx_thS_v C E hno hlk (As := [.int x0, .int 0, .int 999]) (rest := []) (c_X6_needWithin l G B dy sa hls x0 0 999 _ e23) tw_620 tw_621 ti_6 tw_622 ⟨rfl, hd_X6_needWithin⟩ ⟨Nat.le_of_ble_eq_true rfl, Nat.le_of_ble_eq_true rfl⟩ ⟨Nat.le_of_ble_eq_true rfl, Nat.le_of_ble_eq_true rfl⟩ rfl rfl (Nat.le_of_ble_eq_true rfl) dX6_needYear_5  h25 ⟨Nat.le_of_ble_eq_true rfl, Nat.le_of_ble_eq_true rfl⟩
  refine jx_okS_v C E (As := [.int x0, .int 0, .int 999]) (rest := []) (c_X6_needWithin l G B dy sa hls x0 0 999 _ e23) tw_620 tw_621 ti_6 tw_622 ⟨rfl, hd_X6_needWithin⟩ ⟨Nat.le_of_ble_eq_true rfl, Nat.le_of_ble_eq_true rfl⟩ ⟨Nat.le_of_ble_eq_true rfl, Nat.le_of_ble_eq_true rfl⟩ rfl rfl (Nat.le_of_ble_eq_true rfl) dX6_needYear_5 ?_
  exact jx_vret C hr hlk h ⟨Nat.le_of_ble_eq_true rfl, Nat.le_of_ble_eq_true rfl⟩ dX6_needYear_8
set_option maxRecDepth 100000 in
set_option maxHeartbeats 4000000 in
theorem c_X6_carve (l : Launch) (G : GG) (B dy : Nat) (sa : Nat → Nat) (hls : l.stackTraces = false) (x1 : Int32) (x2 : Int32) (t0 : St) {res : Ex (Int32 × St)} (h : f_X6_carve x1 x2 t0 = some res) : CtX l G B dy sa yX6_carve cX6_carve 3 (some .int) 8 124 2 12 [.ref (B + 0), .int x1, .int x2] t0 (PX G B res) (XX G B res) := by
  refine CtX_of (by decide +kernel) [(0, .ref (B + 0)), (1, .int x1), (2, .int x2)] (Nat.le_of_ble_eq_true rfl) rfl ?_
  intro p e s m args below meth c C hr hlk E hno
  refine j_iload_n C (q := 1) dX6_carve_0 rfl rfl ?_
  rcases bx_some h with ⟨q24, e23, h25⟩ | ⟨t22, e23, h⟩
  · exact jx_thS_v C E hno hlk (As := [.int x1]) (rest := []) (c_X6_needYear l G B dy sa hls x1 _ e23) tw_642 tw_643 ti_6 tw_644 ⟨rfl, hd_X6_needYear⟩ ⟨Nat.le_of_ble_eq_true rfl, Nat.le_of_ble_eq_true rfl⟩ ⟨Nat.le_of_ble_eq_true rfl, Nat.le_of_ble_eq_true rfl⟩ rfl rfl (Nat.le_of_ble_eq_true rfl) dX6_carve_1  h25 ⟨Nat.le_of_ble_eq_true rfl, Nat.le_of_ble_eq_true rfl⟩
  refine jx_okS_v C E (As := [.int x1]) (rest := []) (c_X6_needYear l G B dy sa hls x1 _ e23) tw_642 tw_643 ti_6 tw_644 ⟨rfl, hd_X6_needYear⟩ ⟨Nat.le_of_ble_eq_true rfl, Nat.le_of_ble_eq_true rfl⟩ ⟨Nat.le_of_ble_eq_true rfl, Nat.le_of_ble_eq_true rfl⟩ rfl rfl (Nat.le_of_ble_eq_true rfl) dX6_carve_1 ?_
  refine j_iload_n C (q := 2) dX6_carve_4 rfl rfl ?_
  rcases bx_some h with ⟨q29, e28, h30⟩ | ⟨t27, e28, h⟩
  · exact jx_thS_v C E hno hlk (As := [.int x2]) (rest := []) (c_X6_needCarver l G B dy sa hls x2 _ e28) tw_632 tw_633 ti_6 tw_634 ⟨rfl, hd_X6_needCarver⟩ ⟨Nat.le_of_ble_eq_true rfl, Nat.le_of_ble_eq_true rfl⟩ ⟨Nat.le_of_ble_eq_true rfl, Nat.le_of_ble_eq_true rfl⟩ rfl rfl (Nat.le_of_ble_eq_true rfl) dX6_carve_5  h30 ⟨Nat.le_of_ble_eq_true rfl, Nat.le_of_ble_eq_true rfl⟩
  refine jx_okS_v C E (As := [.int x2]) (rest := []) (c_X6_needCarver l G B dy sa hls x2 _ e28) tw_632 tw_633 ti_6 tw_634 ⟨rfl, hd_X6_needCarver⟩ ⟨Nat.le_of_ble_eq_true rfl, Nat.le_of_ble_eq_true rfl⟩ ⟨Nat.le_of_ble_eq_true rfl, Nat.le_of_ble_eq_true rfl⟩ rfl rfl (Nat.le_of_ble_eq_true rfl) dX6_carve_5 ?_
  refine j_aload_n C (q := 0) dX6_carve_8 rfl rfl ?_
  refine fg_X6_19 C (i := 0) kA_0 dX6_carve_9 ?_
  refine j_aload_n C (q := 0) dX6_carve_12 rfl rfl ?_
  refine fg_X6_12 C (i := 0) kA_0 dX6_carve_13 ?_
  obtain ⟨t32, e33, h⟩ := bv_some h
  refine j_callV_v C (i := 20) (As := [.ref (B + 1)]) (rest := []) (c_X1_save l G B dy 1 kA_1 _ e33) (shp1 G B _ kA_20) (kd_lt kA_20 (by decide)) rfl tw_538 tw_539 tw_540 ti_1 tw_541 hd_X1_save ⟨Nat.le_of_ble_eq_true rfl, Nat.le_of_ble_eq_true rfl⟩ ⟨Nat.le_of_ble_eq_true rfl, Nat.le_of_ble_eq_true rfl⟩ rfl rfl (Nat.le_of_ble_eq_true rfl) dX6_carve_16 ?_
  refine j_aload_n C (q := 0) dX6_carve_19 rfl rfl ?_
  refine fg_X6_42 C (i := 0) kA_0 dX6_carve_20 ?_
  refine j_aload_n C (q := 0) dX6_carve_23 rfl rfl ?_
  refine fg_X6_12 C (i := 0) kA_0 dX6_carve_24 ?_
  refine j_iload_n C (q := 1) dX6_carve_27 rfl rfl ?_
  refine j_aload_n C (q := 0) dX6_carve_28 rfl rfl ?_
  refine fg_X6_12 C (i := 0) kA_0 dX6_carve_29 ?_
  refine fg_X6_116 C (i := 1) kA_1 dX6_carve_32 ?_
  refine j_iload_n C (q := 2) dX6_carve_35 rfl rfl ?_
  obtain ⟨x34, t35, e36, h⟩ := bd_some h
  refine j_callV_i C (i := 10) (As := [.int x2]) (rest := [.int x1, .ref (B + 1), .ref (B + 139)]) (c_X4_at l G B dy 10 kA_10 x2 _ e36) (shp4 G B _ kA_10) (kd_lt kA_10 (by decide)) rfl tw_240 tw_241 tw_242 ti_4 tw_243 hd_X4_at ⟨Nat.le_of_ble_eq_true rfl, Nat.le_of_ble_eq_true rfl⟩ ⟨Nat.le_of_ble_eq_true rfl, Nat.le_of_ble_eq_true rfl⟩ rfl rfl (Nat.le_of_ble_eq_true rfl) dX6_carve_36 ?_
  obtain ⟨t38, e39, h⟩ := bv_some h
  refine j_callV_v C (i := 139) (As := [.ref (B + 1), .int x1, .int x34]) (rest := []) (c_X3_reckon l G B dy 139 kA_139 1 kA_1 x1 x34 _ e39) (shp3 G B _ kA_139) (kd_lt kA_139 (by decide)) rfl tw_304 tw_305 tw_306 ti_3 tw_307 hd_X3_reckon ⟨Nat.le_of_ble_eq_true rfl, Nat.le_of_ble_eq_true rfl⟩ ⟨Nat.le_of_ble_eq_true rfl, Nat.le_of_ble_eq_true rfl⟩ rfl rfl (Nat.le_of_ble_eq_true rfl) dX6_carve_39 ?_
  refine j_aload_n C (q := 0) dX6_carve_42 rfl rfl ?_
  refine fg_X6_12 C (i := 0) kA_0 dX6_carve_43 ?_
  refine j_iload_n C (q := 1) dX6_carve_46 rfl rfl ?_
  refine j_iload_n C (q := 2) dX6_carve_47 rfl rfl ?_
  refine j_aload_n C (q := 0) dX6_carve_48 rfl rfl ?_
  refine fg_X6_42 C (i := 0) kA_0 dX6_carve_49 ?_
  refine fg_X6_126 C (i := 139) kA_139 dX6_carve_52 ?_
  obtain ⟨t41, e42, h⟩ := bv_some h
  refine j_callV_v C (i := 1) (As := [.int x1, .int x2, .ref (B + 142)]) (rest := []) (c_X5_addStick l G B dy 1 kA_1 x1 x2 142 kA_142 _ e42) (shp5 G B _ kA_1) (kd_lt kA_1 (by decide)) rfl tw_645 tw_646 tw_647 ti_5 tw_648 hd_X5_addStick ⟨Nat.le_of_ble_eq_true rfl, Nat.le_of_ble_eq_true rfl⟩ ⟨Nat.le_of_ble_eq_true rfl, Nat.le_of_ble_eq_true rfl⟩ rfl rfl (Nat.le_of_ble_eq_true rfl) dX6_carve_55 ?_
  refine j_aload_n C (q := 0) dX6_carve_58 rfl rfl ?_
  refine fg_X6_12 C (i := 0) kA_0 dX6_carve_59 ?_
  refine j_iconst C (v := 0) dX6_carve_62 (by decide) ?_
  obtain ⟨x43, t44, e45, h⟩ := bd_some h
  refine j_callV_i C (i := 1) (As := [.int 0]) (rest := []) (c_X5_notchesOfStick l G B dy 1 kA_1 0 _ e45) (shp5 G B _ kA_1) (kd_lt kA_1 (by decide)) rfl tw_424 tw_425 tw_426 ti_5 tw_427 hd_X5_notchesOfStick ⟨Nat.le_of_ble_eq_true rfl, Nat.le_of_ble_eq_true rfl⟩ ⟨Nat.le_of_ble_eq_true rfl, Nat.le_of_ble_eq_true rfl⟩ rfl rfl (Nat.le_of_ble_eq_true rfl) dX6_carve_63 ?_
  exact jx_iret C hr hlk h ⟨Nat.le_of_ble_eq_true rfl, Nat.le_of_ble_eq_true rfl⟩ dX6_carve_66
set_option maxRecDepth 100000 in
set_option maxHeartbeats 4000000 in
theorem c_X6_needStick (l : Launch) (G : GG) (B dy : Nat) (sa : Nat → Nat) (hls : l.stackTraces = false) (x1 : Int32) (t0 : St) {res : Ex St} (h : f_X6_needStick x1 t0 = some res) : CtX l G B dy sa yX6_needStick cX6_needStick 2 none 6 82 1 6 [.ref (B + 0), .int x1] t0 (PXv G B res) (XX G B res) := by
  refine CtX_of (by decide +kernel) [(0, .ref (B + 0)), (1, .int x1)] (Nat.le_of_ble_eq_true rfl) rfl ?_
  intro p e s m args below meth c C hr hlk E hno
  refine j_iload_n C (q := 1) dX6_needStick_0 rfl rfl ?_
  refine j_if_lt C (tgt := 15) dX6_needStick_1 (by decide) (fun c21 => ?_) (fun c21 => ?_)
  · have h := ite_t h c21
    exact j_throw C E hls hno hlk (is := 250) (by decide +kernel) (by decide +kernel) x1I x2I (List.mem_of_getElem? (i := 4) rfl) x4I x5I x6I dX6_needStick_15 dX6_needStick_18 dX6_needStick_19 dX6_needStick_21 dX6_needStick_24 ⟨Nat.le_of_ble_eq_true rfl, Nat.le_of_ble_eq_true rfl, Nat.le_of_ble_eq_true rfl, Nat.le_of_ble_eq_true rfl⟩ h ⟨Nat.le_of_ble_eq_true rfl, Nat.le_of_ble_eq_true rfl⟩
  · have h := ite_f h c21
    refine j_iload_n C (q := 1) dX6_needStick_4 rfl rfl ?_
    refine j_aload_n C (q := 0) dX6_needStick_5 rfl rfl ?_
    refine fg_X6_12 C (i := 0) kA_0 dX6_needStick_6 ?_
    refine fg_X6_236 C (i := 1) kA_1 dX6_needStick_9 ?_
    refine j_icmp_lt C (tgt := 25) dX6_needStick_12 (by decide) (fun c22 => ?_) (fun c22 => ?_)
    · have h := ite_t h c22
      exact jx_vret C hr hlk h ⟨Nat.le_of_ble_eq_true rfl, Nat.le_of_ble_eq_true rfl⟩ dX6_needStick_25
    · have h := ite_f h c22
      exact j_throw C E hls hno hlk (is := 250) (by decide +kernel) (by decide +kernel) x1I x2I (List.mem_of_getElem? (i := 4) rfl) x4I x5I x6I dX6_needStick_15 dX6_needStick_18 dX6_needStick_19 dX6_needStick_21 dX6_needStick_24 ⟨Nat.le_of_ble_eq_true rfl, Nat.le_of_ble_eq_true rfl, Nat.le_of_ble_eq_true rfl, Nat.le_of_ble_eq_true rfl⟩ h ⟨Nat.le_of_ble_eq_true rfl, Nat.le_of_ble_eq_true rfl⟩
set_option maxRecDepth 100000 in
set_option maxHeartbeats 4000000 in
theorem c_X6_burn (l : Launch) (G : GG) (B dy : Nat) (sa : Nat → Nat) (hls : l.stackTraces = false) (x1 : Int32) (t0 : St) {res : Ex (Int32 × St)} (h : f_X6_burn x1 t0 = some res) : CtX l G B dy sa yX6_burn cX6_burn 3 (some .int) 7 103 1 6 [.ref (B + 0), .int x1] t0 (PX G B res) (XX G B res) := by
  refine CtX_of (by decide +kernel) [(0, .ref (B + 0)), (1, .int x1)] (Nat.le_of_ble_eq_true rfl) rfl ?_
  intro p e s m args below meth c C hr hlk E hno
  refine j_aload_n C (q := 0) dX6_burn_0 rfl rfl ?_
  refine j_iload_n C (q := 1) dX6_burn_1 rfl rfl ?_
  rcases bx_some h with ⟨q24, e23, h25⟩ | ⟨t22, e23, h⟩
  · exact jx_thV_v C E hno hlk (i := 0) (As := [.int x1]) (rest := []) (c_X6_needStick l G B dy sa hls x1 _ e23) (shp6 G B _ kA_0) (kd_lt kA_0 (by decide)) rfl tw_660 tw_662 tp_35 ti_6 tw_663 hd_X6_needStick ⟨Nat.le_of_ble_eq_true rfl, Nat.le_of_ble_eq_true rfl⟩ ⟨Nat.le_of_ble_eq_true rfl, Nat.le_of_ble_eq_true rfl⟩ rfl rfl (Nat.le_of_ble_eq_true rfl) dX6_burn_2  h25 ⟨Nat.le_of_ble_eq_true rfl, Nat.le_of_ble_eq_true rfl⟩
  refine jx_okV_v C E (i := 0) (As := [.int x1]) (rest := []) (c_X6_needStick l G B dy sa hls x1 _ e23) (shp6 G B _ kA_0) (kd_lt kA_0 (by decide)) rfl tw_660 tw_662 tp_35 ti_6 tw_663 hd_X6_needStick ⟨Nat.le_of_ble_eq_true rfl, Nat.le_of_ble_eq_true rfl⟩ ⟨Nat.le_of_ble_eq_true rfl, Nat.le_of_ble_eq_true rfl⟩ rfl rfl (Nat.le_of_ble_eq_true rfl) dX6_burn_2 ?_
  refine j_aload_n C (q := 0) dX6_burn_5 rfl rfl ?_
  refine fg_X6_19 C (i := 0) kA_0 dX6_burn_6 ?_
  refine j_aload_n C (q := 0) dX6_burn_9 rfl rfl ?_
  refine fg_X6_12 C (i := 0) kA_0 dX6_burn_10 ?_
  obtain ⟨t27, e28, h⟩ := bv_some h
  refine j_callV_v C (i := 20) (As := [.ref (B + 1)]) (rest := []) (c_X1_save l G B dy 1 kA_1 _ e28) (shp1 G B _ kA_20) (kd_lt kA_20 (by decide)) rfl tw_538 tw_539 tw_540 ti_1 tw_541 hd_X1_save ⟨Nat.le_of_ble_eq_true rfl, Nat.le_of_ble_eq_true rfl⟩ ⟨Nat.le_of_ble_eq_true rfl, Nat.le_of_ble_eq_true rfl⟩ rfl rfl (Nat.le_of_ble_eq_true rfl) dX6_burn_13 ?_
  refine j_aload_n C (q := 0) dX6_burn_16 rfl rfl ?_
  refine fg_X6_12 C (i := 0) kA_0 dX6_burn_17 ?_
  refine fg_X6_139 C (i := 1) kA_1 dX6_burn_20 ?_
  refine j_iload_n C (q := 1) dX6_burn_23 rfl rfl ?_
  obtain ⟨x29, t30, e31, h⟩ := bd_some h
  refine j_callV_i C (i := 12) (As := [.int x1]) (rest := []) (c_X4_at l G B dy 12 kA_12 x1 _ e31) (shp4 G B _ kA_12) (kd_lt kA_12 (by decide)) rfl tw_240 tw_241 tw_242 ti_4 tw_243 hd_X4_at ⟨Nat.le_of_ble_eq_true rfl, Nat.le_of_ble_eq_true rfl⟩ ⟨Nat.le_of_ble_eq_true rfl, Nat.le_of_ble_eq_true rfl⟩ rfl rfl (Nat.le_of_ble_eq_true rfl) dX6_burn_24 ?_
  refine j_istore_n C [(0, .ref (B + 0)), (1, .int x1), (2, .int x29)] [1, 2, 0] dX6_burn_27 rfl (by decide) rfl ?_
  refine j_aload_n C (q := 0) dX6_burn_28 rfl rfl ?_
  refine fg_X6_12 C (i := 0) kA_0 dX6_burn_29 ?_
  refine j_iload_n C (q := 1) dX6_burn_32 rfl rfl ?_
  obtain ⟨t33, e34, h⟩ := bv_some h
  refine j_callV_v C (i := 1) (As := [.int x1]) (rest := []) (c_X5_dropStick l G B dy 1 kA_1 x1 _ e34) (shp5 G B _ kA_1) (kd_lt kA_1 (by decide)) rfl tw_665 tw_666 tw_667 ti_5 tw_668 hd_X5_dropStick ⟨Nat.le_of_ble_eq_true rfl, Nat.le_of_ble_eq_true rfl⟩ ⟨Nat.le_of_ble_eq_true rfl, Nat.le_of_ble_eq_true rfl⟩ rfl rfl (Nat.le_of_ble_eq_true rfl) dX6_burn_33 ?_
  refine j_iload_n C (q := 2) dX6_burn_36 rfl rfl ?_
  exact jx_iret C hr hlk h ⟨Nat.le_of_ble_eq_true rfl, Nat.le_of_ble_eq_true rfl⟩ dX6_burn_37
set_option maxRecDepth 100000 in
set_option maxHeartbeats 4000000 in
theorem c_X6_set (l : Launch) (G : GG) (B dy : Nat) (sa : Nat → Nat) (hls : l.stackTraces = false) (x1 : Int32) (t0 : St) {res : Ex (Int32 × St)} (h : f_X6_set x1 t0 = some res) : CtX l G B dy sa yX6_set cX6_set 3 (some .int) 7 104 1 6 [.ref (B + 0), .int x1] t0 (PX G B res) (XX G B res) := by
  refine CtX_of (by decide +kernel) [(0, .ref (B + 0)), (1, .int x1)] (Nat.le_of_ble_eq_true rfl) rfl ?_
  intro p e s m args below meth c C hr hlk E hno
  refine j_iload_n C (q := 1) dX6_set_0 rfl rfl ?_
  refine j_bipush C (v := 50) dX6_set_1 (by decide) ?_
  refine j_sipush C (v := 400) dX6_set_3 (by decide) ?_
  rcases bx_some h with ⟨q24, e23, h25⟩ | ⟨t22, e23, h⟩
  · exact jx_thS_v C E hno hlk (As := [.int x1, .int 50, .int 400]) (rest := []) (c_X6_needWithin l G B dy sa hls x1 50 400 _ e23) tw_620 tw_621 ti_6 tw_622 ⟨rfl, hd_X6_needWithin⟩ ⟨Nat.le_of_ble_eq_true rfl, Nat.le_of_ble_eq_true rfl⟩ ⟨Nat.le_of_ble_eq_true rfl, Nat.le_of_ble_eq_true rfl⟩ rfl rfl (Nat.le_of_ble_eq_true rfl) dX6_set_6  h25 ⟨Nat.le_of_ble_eq_true rfl, Nat.le_of_ble_eq_true rfl⟩
  refine jx_okS_v C E (As := [.int x1, .int 50, .int 400]) (rest := []) (c_X6_needWithin l G B dy sa hls x1 50 400 _ e23) tw_620 tw_621 ti_6 tw_622 ⟨rfl, hd_X6_needWithin⟩ ⟨Nat.le_of_ble_eq_true rfl, Nat.le_of_ble_eq_true rfl⟩ ⟨Nat.le_of_ble_eq_true rfl, Nat.le_of_ble_eq_true rfl⟩ rfl rfl (Nat.le_of_ble_eq_true rfl) dX6_set_6 ?_
  refine j_aload_n C (q := 0) dX6_set_9 rfl rfl ?_
  refine fg_X6_19 C (i := 0) kA_0 dX6_set_10 ?_
  refine j_aload_n C (q := 0) dX6_set_13 rfl rfl ?_
  refine fg_X6_12 C (i := 0) kA_0 dX6_set_14 ?_
  obtain ⟨t27, e28, h⟩ := bv_some h
  refine j_callV_v C (i := 20) (As := [.ref (B + 1)]) (rest := []) (c_X1_save l G B dy 1 kA_1 _ e28) (shp1 G B _ kA_20) (kd_lt kA_20 (by decide)) rfl tw_538 tw_539 tw_540 ti_1 tw_541 hd_X1_save ⟨Nat.le_of_ble_eq_true rfl, Nat.le_of_ble_eq_true rfl⟩ ⟨Nat.le_of_ble_eq_true rfl, Nat.le_of_ble_eq_true rfl⟩ rfl rfl (Nat.le_of_ble_eq_true rfl) dX6_set_17 ?_
  refine j_aload_n C (q := 0) dX6_set_20 rfl rfl ?_
  refine fg_X6_12 C (i := 0) kA_0 dX6_set_21 ?_
  refine fg_X6_145 C (i := 1) kA_1 dX6_set_24 ?_
  refine j_topi (fun x29 ex29 => ?_)
  have h := lt_at h ex29
  refine j_istore_n C [(0, .ref (B + 0)), (1, .int x1), (2, .int x29)] [1, 2, 0] dX6_set_27 rfl (by decide) rfl ?_
  refine j_aload_n C (q := 0) dX6_set_28 rfl rfl ?_
  refine fg_X6_12 C (i := 0) kA_0 dX6_set_29 ?_
  refine j_iload_n C (q := 1) dX6_set_32 rfl rfl ?_
  refine fp_X6_145 C (i := 1) kA_1 dX6_set_33 ?_
  refine j_tops (fun t30 et30 => ?_)
  have h := lt_at h et30
  refine j_iload_n C (q := 2) dX6_set_36 rfl rfl ?_
  exact jx_iret C hr hlk h ⟨Nat.le_of_ble_eq_true rfl, Nat.le_of_ble_eq_true rfl⟩ dX6_set_37
set_option maxRecDepth 100000 in
set_option maxHeartbeats 4000000 in
theorem c_X6_append (l : Launch) (G : GG) (B dy : Nat) (sa : Nat → Nat) (hls : l.stackTraces = false) (x1 : Int32) (t0 : St) {res : Ex (Int32 × St)} (h : f_X6_append x1 t0 = some res) : CtX l G B dy sa yX6_append cX6_append 2 (some .int) 7 104 2 12 [.ref (B + 0), .int x1] t0 (PX G B res) (XX G B res) := by
  refine CtX_of (by decide +kernel) [(0, .ref (B + 0)), (1, .int x1)] (Nat.le_of_ble_eq_true rfl) rfl ?_
  intro p e s m args below meth c C hr hlk E hno
  refine j_iload_n C (q := 1) dX6_append_0 rfl rfl ?_
  refine j_bipush C (v := 33) dX6_append_1 (by decide) ?_
  refine j_bipush C (v := 126) dX6_append_3 (by decide) ?_
  rcases bx_some h with ⟨q24, e23, h25⟩ | ⟨t22, e23, h⟩
  · exact jx_thS_v C E hno hlk (As := [.int x1, .int 33, .int 126]) (rest := []) (c_X6_needWithin l G B dy sa hls x1 33 126 _ e23) tw_620 tw_621 ti_6 tw_622 ⟨rfl, hd_X6_needWithin⟩ ⟨Nat.le_of_ble_eq_true rfl, Nat.le_of_ble_eq_true rfl⟩ ⟨Nat.le_of_ble_eq_true rfl, Nat.le_of_ble_eq_true rfl⟩ rfl rfl (Nat.le_of_ble_eq_true rfl) dX6_append_5  h25 ⟨Nat.le_of_ble_eq_true rfl, Nat.le_of_ble_eq_true rfl⟩
  refine jx_okS_v C E (As := [.int x1, .int 33, .int 126]) (rest := []) (c_X6_needWithin l G B dy sa hls x1 33 126 _ e23) tw_620 tw_621 ti_6 tw_622 ⟨rfl, hd_X6_needWithin⟩ ⟨Nat.le_of_ble_eq_true rfl, Nat.le_of_ble_eq_true rfl⟩ ⟨Nat.le_of_ble_eq_true rfl, Nat.le_of_ble_eq_true rfl⟩ rfl rfl (Nat.le_of_ble_eq_true rfl) dX6_append_5 ?_
  refine j_aload_n C (q := 0) dX6_append_8 rfl rfl ?_
  refine fg_X6_64 C (i := 0) kA_0 dX6_append_9 ?_
  refine j_bipush C (v := 60) dX6_append_12 (by decide) ?_
  refine j_icmp_lt C (tgt := 27) dX6_append_14 (by decide) (fun c26 => ?_) (fun c26 => ?_)
  · have h := ite_t h c26
    refine j_aload_n C (q := 0) dX6_append_27 rfl rfl ?_
    refine fg_X6_28 C (i := 0) kA_0 dX6_append_28 ?_
    refine j_aload_n C (q := 0) dX6_append_31 rfl rfl ?_
    refine fg_X6_64 C (i := 0) kA_0 dX6_append_32 ?_
    refine j_iload_n C (q := 1) dX6_append_35 rfl rfl ?_
    obtain ⟨t28, e29, h⟩ := bv_some h
    refine j_callV_v C (i := 136) (As := [.int (t22.1 0 8), .int x1]) (rest := []) (c_X4_put l G B dy 136 kA_136 (t22.1 0 8) x1 _ e29) (shp4 G B _ kA_136) (kd_lt kA_136 (by decide)) rfl tw_624 tw_341 tw_342 ti_4 tw_343 hd_X4_put ⟨Nat.le_of_ble_eq_true rfl, Nat.le_of_ble_eq_true rfl⟩ ⟨Nat.le_of_ble_eq_true rfl, Nat.le_of_ble_eq_true rfl⟩ rfl rfl (Nat.le_of_ble_eq_true rfl) dX6_append_36 ?_
    refine j_aload_n C (q := 0) dX6_append_39 rfl rfl ?_
    refine j_dup C dX6_append_40 rfl ?_
    refine fg_X6_64 C (i := 0) kA_0 dX6_append_41 ?_
    refine j_iconst C (v := 1) dX6_append_44 (by decide) ?_
    refine j_iadd C dX6_append_45 ?_
    refine fp_X6_64 C (i := 0) kA_0 dX6_append_46 ?_
    refine j_tops (fun t30 et30 => ?_)
    have h := lt_at h et30
    refine j_aload_n C (q := 0) dX6_append_49 rfl rfl ?_
    refine fg_X6_64 C (i := 0) kA_0 dX6_append_50 ?_
    exact jx_iret C hr hlk h ⟨Nat.le_of_ble_eq_true rfl, Nat.le_of_ble_eq_true rfl⟩ dX6_append_53
  · have h := ite_f h c26
    exact j_throw C E hls hno hlk (is := 148) (by decide +kernel) (by decide +kernel) x1S x2S (List.mem_of_getElem? (i := 0) rfl) x4S x5S x6S dX6_append_17 dX6_append_20 dX6_append_21 dX6_append_23 dX6_append_26 ⟨Nat.le_of_ble_eq_true rfl, Nat.le_of_ble_eq_true rfl, Nat.le_of_ble_eq_true rfl, Nat.le_of_ble_eq_true rfl⟩ h ⟨Nat.le_of_ble_eq_true rfl, Nat.le_of_ble_eq_true rfl⟩
set_option maxRecDepth 100000 in
set_option maxHeartbeats 4000000 in
theorem c_X6_undo (l : Launch) (G : GG) (B dy : Nat) (sa : Nat → Nat) (hls : l.stackTraces = false) (t0 : St) {res : Ex (Int32 × St)} (h : f_X6_undo t0 = some res) : CtX l G B dy sa yX6_undo cX6_undo 1 (some .int) 6 86 1 6 [.ref (B + 0)] t0 (PX G B res) (XX G B res) := by
  refine CtX_of (by decide +kernel) [(0, .ref (B + 0))] (Nat.le_of_ble_eq_true rfl) rfl ?_
  intro p e s m args below meth c C hr hlk E hno
  refine j_aload_n C (q := 0) dX6_undo_0 rfl rfl ?_
  refine fg_X6_19 C (i := 0) kA_0 dX6_undo_1 ?_
  obtain ⟨x21, t22, e23, h⟩ := bd_some h
  refine j_callV_i C (i := 20) (As := []) (rest := []) (c_X1_isEmpty l G B dy _ e23) (shp1 G B _ kA_20) (kd_lt kA_20 (by decide)) rfl tw_691 tw_692 tw_693 ti_1 tw_694 hd_X1_isEmpty ⟨Nat.le_of_ble_eq_true rfl, Nat.le_of_ble_eq_true rfl⟩ ⟨Nat.le_of_ble_eq_true rfl, Nat.le_of_ble_eq_true rfl⟩ rfl rfl (Nat.le_of_ble_eq_true rfl) dX6_undo_4 ?_
  refine j_if_eq C (tgt := 20) dX6_undo_7 (by decide) (fun c24 => ?_) (fun c24 => ?_)
  · have h := ite_t h c24
    refine j_aload_n C (q := 0) dX6_undo_20 rfl rfl ?_
    refine fg_X6_19 C (i := 0) kA_0 dX6_undo_21 ?_
    refine j_aload_n C (q := 0) dX6_undo_24 rfl rfl ?_
    refine fg_X6_12 C (i := 0) kA_0 dX6_undo_25 ?_
    obtain ⟨t26, e27, h⟩ := bv_some h
    refine j_callV_v C (i := 20) (As := [.ref (B + 1)]) (rest := []) (c_X1_restoreInto l G B dy 1 kA_1 _ e27) (shp1 G B _ kA_20) (kd_lt kA_20 (by decide)) rfl tw_696 tw_697 tw_698 ti_1 tw_699 hd_X1_restoreInto ⟨Nat.le_of_ble_eq_true rfl, Nat.le_of_ble_eq_true rfl⟩ ⟨Nat.le_of_ble_eq_true rfl, Nat.le_of_ble_eq_true rfl⟩ rfl rfl (Nat.le_of_ble_eq_true rfl) dX6_undo_28 ?_
    refine j_aload_n C (q := 0) dX6_undo_31 rfl rfl ?_
    refine fg_X6_19 C (i := 0) kA_0 dX6_undo_32 ?_
    obtain ⟨x28, t29, e30, h⟩ := bd_some h
    refine j_callV_i C (i := 20) (As := []) (rest := []) (c_X1_size l G B dy _ e30) (shp1 G B _ kA_20) (kd_lt kA_20 (by decide)) rfl tw_370 tw_371 tw_372 ti_1 tw_373 hd_X1_size ⟨Nat.le_of_ble_eq_true rfl, Nat.le_of_ble_eq_true rfl⟩ ⟨Nat.le_of_ble_eq_true rfl, Nat.le_of_ble_eq_true rfl⟩ rfl rfl (Nat.le_of_ble_eq_true rfl) dX6_undo_35 ?_
    exact jx_iret C hr hlk h ⟨Nat.le_of_ble_eq_true rfl, Nat.le_of_ble_eq_true rfl⟩ dX6_undo_38
  · have h := ite_f h c24
    exact j_throw C E hls hno hlk (is := 156) (by decide +kernel) (by decide +kernel) x1S x2S (List.mem_of_getElem? (i := 1) rfl) x4S x5S x6S dX6_undo_10 dX6_undo_13 dX6_undo_14 dX6_undo_16 dX6_undo_19 ⟨Nat.le_of_ble_eq_true rfl, Nat.le_of_ble_eq_true rfl, Nat.le_of_ble_eq_true rfl, Nat.le_of_ble_eq_true rfl⟩ h ⟨Nat.le_of_ble_eq_true rfl, Nat.le_of_ble_eq_true rfl⟩
set_option maxRecDepth 100000 in
set_option maxHeartbeats 4000000 in
theorem c_X6_day (l : Launch) (G : GG) (B dy : Nat) (sa : Nat → Nat) (hls : l.stackTraces = false) (x1 : Int32) (x2 : Int32) (x3 : Int32) (t0 : St) {res : Ex (Int32 × St)} (h : f_X6_day x1 x2 x3 t0 = some res) : CtX l G B dy sa yX6_day cX6_day 4 (some .int) 8 140 3 18 [.ref (B + 0), .int x1, .int x2, .int x3] t0 (PX G B res) (XX G B res) := by
  refine CtX_of (by decide +kernel) [(0, .ref (B + 0)), (1, .int x1), (2, .int x2), (3, .int x3)] (Nat.le_of_ble_eq_true rfl) rfl ?_
  intro p e s m args below meth c C hr hlk E hno
  refine j_iload_n C (q := 1) dX6_day_0 rfl rfl ?_
  rcases bx_some h with ⟨q24, e23, h25⟩ | ⟨t22, e23, h⟩
  · exact jx_thS_v C E hno hlk (As := [.int x1]) (rest := []) (c_X6_needYear l G B dy sa hls x1 _ e23) tw_642 tw_643 ti_6 tw_644 ⟨rfl, hd_X6_needYear⟩ ⟨Nat.le_of_ble_eq_true rfl, Nat.le_of_ble_eq_true rfl⟩ ⟨Nat.le_of_ble_eq_true rfl, Nat.le_of_ble_eq_true rfl⟩ rfl rfl (Nat.le_of_ble_eq_true rfl) dX6_day_1  h25 ⟨Nat.le_of_ble_eq_true rfl, Nat.le_of_ble_eq_true rfl⟩
  refine jx_okS_v C E (As := [.int x1]) (rest := []) (c_X6_needYear l G B dy sa hls x1 _ e23) tw_642 tw_643 ti_6 tw_644 ⟨rfl, hd_X6_needYear⟩ ⟨Nat.le_of_ble_eq_true rfl, Nat.le_of_ble_eq_true rfl⟩ ⟨Nat.le_of_ble_eq_true rfl, Nat.le_of_ble_eq_true rfl⟩ rfl rfl (Nat.le_of_ble_eq_true rfl) dX6_day_1 ?_
  refine j_iload_n C (q := 2) dX6_day_4 rfl rfl ?_
  refine j_iconst C (v := 0) dX6_day_5 (by decide) ?_
  refine j_sipush C (v := 365) dX6_day_6 (by decide) ?_
  rcases bx_some h with ⟨q29, e28, h30⟩ | ⟨t27, e28, h⟩
  · exact jx_thS_v C E hno hlk (As := [.int x2, .int 0, .int 365]) (rest := []) (c_X6_needWithin l G B dy sa hls x2 0 365 _ e28) tw_620 tw_621 ti_6 tw_622 ⟨rfl, hd_X6_needWithin⟩ ⟨Nat.le_of_ble_eq_true rfl, Nat.le_of_ble_eq_true rfl⟩ ⟨Nat.le_of_ble_eq_true rfl, Nat.le_of_ble_eq_true rfl⟩ rfl rfl (Nat.le_of_ble_eq_true rfl) dX6_day_9  h30 ⟨Nat.le_of_ble_eq_true rfl, Nat.le_of_ble_eq_true rfl⟩
  refine jx_okS_v C E (As := [.int x2, .int 0, .int 365]) (rest := []) (c_X6_needWithin l G B dy sa hls x2 0 365 _ e28) tw_620 tw_621 ti_6 tw_622 ⟨rfl, hd_X6_needWithin⟩ ⟨Nat.le_of_ble_eq_true rfl, Nat.le_of_ble_eq_true rfl⟩ ⟨Nat.le_of_ble_eq_true rfl, Nat.le_of_ble_eq_true rfl⟩ rfl rfl (Nat.le_of_ble_eq_true rfl) dX6_day_9 ?_
  refine j_iload_n C (q := 3) dX6_day_12 rfl rfl ?_
  refine j_iconst C (v := 0) dX6_day_13 (by decide) ?_
  refine j_iconst C (v := 2) dX6_day_14 (by decide) ?_
  rcases bx_some h with ⟨q34, e33, h35⟩ | ⟨t32, e33, h⟩
  · exact jx_thS_v C E hno hlk (As := [.int x3, .int 0, .int 2]) (rest := []) (c_X6_needWithin l G B dy sa hls x3 0 2 _ e33) tw_620 tw_621 ti_6 tw_622 ⟨rfl, hd_X6_needWithin⟩ ⟨Nat.le_of_ble_eq_true rfl, Nat.le_of_ble_eq_true rfl⟩ ⟨Nat.le_of_ble_eq_true rfl, Nat.le_of_ble_eq_true rfl⟩ rfl rfl (Nat.le_of_ble_eq_true rfl) dX6_day_15  h35 ⟨Nat.le_of_ble_eq_true rfl, Nat.le_of_ble_eq_true rfl⟩
  refine jx_okS_v C E (As := [.int x3, .int 0, .int 2]) (rest := []) (c_X6_needWithin l G B dy sa hls x3 0 2 _ e33) tw_620 tw_621 ti_6 tw_622 ⟨rfl, hd_X6_needWithin⟩ ⟨Nat.le_of_ble_eq_true rfl, Nat.le_of_ble_eq_true rfl⟩ ⟨Nat.le_of_ble_eq_true rfl, Nat.le_of_ble_eq_true rfl⟩ rfl rfl (Nat.le_of_ble_eq_true rfl) dX6_day_15 ?_
  refine j_iload_n C (q := 2) dX6_day_18 rfl rfl ?_
  refine j_iload_n C (q := 1) dX6_day_19 rfl rfl ?_
  obtain ⟨x36, t37, e38, h⟩ := bd_some h
  refine j_callS_i C (i := 0) (As := [.int x1]) (rest := [.int x2]) (c_X6_daysIn l G B dy x1 _ e38) tw_433 tw_309 ti_6 tw_310 ⟨rfl, hd_X6_daysIn⟩ ⟨Nat.le_of_ble_eq_true rfl, Nat.le_of_ble_eq_true rfl⟩ ⟨Nat.le_of_ble_eq_true rfl, Nat.le_of_ble_eq_true rfl⟩ rfl rfl (Nat.le_of_ble_eq_true rfl) dX6_day_20 ?_
  refine j_icmp_lt C (tgt := 28) dX6_day_23 (by decide) (fun c39 => ?_) (fun c39 => ?_)
  · have h := ite_t h c39
    refine j_iload_n C (q := 3) dX6_day_28 rfl rfl ?_
    by_cases c40 : x3 = 0
    · have h := ite_t h c40
      refine j_lookup C (off := 27) (tgt := 56) dX6_day_29 (by decide) (sw_off c40 rfl) (by decide) ?_
      refine j_iload_n C (q := 1) dX6_day_56 rfl rfl ?_
      obtain ⟨x41, t42, e43, h⟩ := bd_some h
      refine j_callS_i C (i := 0) (As := [.int x1]) (rest := []) (c_X6_newYearWeekday l G B dy x1 _ e43) tw_434 tw_315 ti_6 tw_316 ⟨rfl, hd_X6_newYearWeekday⟩ ⟨Nat.le_of_ble_eq_true rfl, Nat.le_of_ble_eq_true rfl⟩ ⟨Nat.le_of_ble_eq_true rfl, Nat.le_of_ble_eq_true rfl⟩ rfl rfl (Nat.le_of_ble_eq_true rfl) dX6_day_57 ?_
      refine j_iload_n C (q := 2) dX6_day_60 rfl rfl ?_
      refine j_iadd C dX6_day_61 ?_
      refine j_bipush C (v := 7) dX6_day_62 (by decide) ?_
      refine j_irem C dX6_day_64 (by decide) ?_
      exact jx_iret C hr hlk h ⟨Nat.le_of_ble_eq_true rfl, Nat.le_of_ble_eq_true rfl⟩ dX6_day_65
    · have h := ite_f h c40
      by_cases c44 : x3 = 1
      · have h := ite_t h c44
        refine j_lookup C (off := 37) (tgt := 66) dX6_day_29 (by decide) (sw_off c44 rfl) (by decide) ?_
        refine j_iload_n C (q := 1) dX6_day_66 rfl rfl ?_
        refine j_aload_n C (q := 0) dX6_day_67 rfl rfl ?_
        refine fg_X6_12 C (i := 0) kA_0 dX6_day_68 ?_
        refine fg_X6_116 C (i := 1) kA_1 dX6_day_71 ?_
        refine j_iconst C (v := 0) dX6_day_74 (by decide) ?_
        obtain ⟨x45, t46, e47, h⟩ := bd_some h
        refine j_callV_i C (i := 10) (As := [.int 0]) (rest := [.int x1]) (c_X4_at l G B dy 10 kA_10 0 _ e47) (shp4 G B _ kA_10) (kd_lt kA_10 (by decide)) rfl tw_240 tw_241 tw_242 ti_4 tw_243 hd_X4_at ⟨Nat.le_of_ble_eq_true rfl, Nat.le_of_ble_eq_true rfl⟩ ⟨Nat.le_of_ble_eq_true rfl, Nat.le_of_ble_eq_true rfl⟩ rfl rfl (Nat.le_of_ble_eq_true rfl) dX6_day_75 ?_
        refine j_aload_n C (q := 0) dX6_day_78 rfl rfl ?_
        refine fg_X6_12 C (i := 0) kA_0 dX6_day_79 ?_
        refine fg_X6_145 C (i := 1) kA_1 dX6_day_82 ?_
        obtain ⟨x48, t49, e50, h⟩ := bd_some h
        refine j_callS_i C (i := 0) (As := [.int x1, .int x45, .int (t46.1 1 6)]) (rest := []) (c_X6_moonShift l G B dy x1 x45 (t46.1 1 6) _ e50) tw_707 tw_318 ti_6 tw_319 ⟨rfl, hd_X6_moonShift⟩ ⟨Nat.le_of_ble_eq_true rfl, Nat.le_of_ble_eq_true rfl⟩ ⟨Nat.le_of_ble_eq_true rfl, Nat.le_of_ble_eq_true rfl⟩ rfl rfl (Nat.le_of_ble_eq_true rfl) dX6_day_85 ?_
        refine j_iload_n C (q := 2) dX6_day_88 rfl rfl ?_
        obtain ⟨x51, t52, e53, h⟩ := bd_some h
        refine j_callS_i C (i := 0) (As := [.int x48, .int x2]) (rest := []) (c_X6_moonAge l G B dy x48 x2 _ e53) tw_708 tw_334 ti_6 tw_335 ⟨rfl, hd_X6_moonAge⟩ ⟨Nat.le_of_ble_eq_true rfl, Nat.le_of_ble_eq_true rfl⟩ ⟨Nat.le_of_ble_eq_true rfl, Nat.le_of_ble_eq_true rfl⟩ rfl rfl (Nat.le_of_ble_eq_true rfl) dX6_day_89 ?_
        exact jx_iret C hr hlk h ⟨Nat.le_of_ble_eq_true rfl, Nat.le_of_ble_eq_true rfl⟩ dX6_day_92
      · have h := ite_f h c44
        refine j_lookup C (off := 64) (tgt := 93) dX6_day_29 (by decide) ((lv_osw c40 (by decide)).trans ((lv_osw c44 (by decide)).trans rfl)) (by decide) ?_
        refine j_aload_n C (q := 0) dX6_day_93 rfl rfl ?_
        refine j_iload_n C (q := 1) dX6_day_94 rfl rfl ?_
        refine j_iload_n C (q := 2) dX6_day_95 rfl rfl ?_
        obtain ⟨x54, t55, e56, h⟩ := bd_some h
        refine j_callV_i C (i := 0) (As := [.int x1, .int x2]) (rest := []) (c_X6_lowestFeastOn l G B dy x1 x2 _ e56) (shp6 G B _ kA_0) (kd_lt kA_0 (by decide)) rfl tw_709 tw_711 tp_36 ti_6 tw_712 hd_X6_lowestFeastOn ⟨Nat.le_of_ble_eq_true rfl, Nat.le_of_ble_eq_true rfl⟩ ⟨Nat.le_of_ble_eq_true rfl, Nat.le_of_ble_eq_true rfl⟩ rfl rfl (Nat.le_of_ble_eq_true rfl) dX6_day_96 ?_
        exact jx_iret C hr hlk h ⟨Nat.le_of_ble_eq_true rfl, Nat.le_of_ble_eq_true rfl⟩ dX6_day_99
  · have h := ite_f h c39
    refine j_iconst C (v := (-1)) dX6_day_26 (by decide) ?_
    exact jx_iret C hr hlk h ⟨Nat.le_of_ble_eq_true rfl, Nat.le_of_ble_eq_true rfl⟩ dX6_day_27
set_option maxRecDepth 100000 in
set_option maxHeartbeats 4000000 in
theorem c_X6_feast (l : Launch) (G : GG) (B dy : Nat) (sa : Nat → Nat) (hls : l.stackTraces = false) (x1 : Int32) (x2 : Int32) (t0 : St) {res : Ex (Int32 × St)} (h : f_X6_feast x1 x2 t0 = some res) : CtX l G B dy sa yX6_feast cX6_feast 3 (some .int) 7 104 2 12 [.ref (B + 0), .int x1, .int x2] t0 (PX G B res) (XX G B res) := by
  refine CtX_of (by decide +kernel) [(0, .ref (B + 0)), (1, .int x1), (2, .int x2)] (Nat.le_of_ble_eq_true rfl) rfl ?_
  intro p e s m args below meth c C hr hlk E hno
  refine j_aload_n C (q := 0) dX6_feast_0 rfl rfl ?_
  refine j_iload_n C (q := 1) dX6_feast_1 rfl rfl ?_
  rcases bx_some h with ⟨q24, e23, h25⟩ | ⟨t22, e23, h⟩
  · exact jx_thV_v C E hno hlk (i := 0) (As := [.int x1]) (rest := []) (c_X6_needFeast l G B dy sa hls x1 _ e23) (shp6 G B _ kA_0) (kd_lt kA_0 (by decide)) rfl tw_600 tw_602 tp_33 ti_6 tw_603 hd_X6_needFeast ⟨Nat.le_of_ble_eq_true rfl, Nat.le_of_ble_eq_true rfl⟩ ⟨Nat.le_of_ble_eq_true rfl, Nat.le_of_ble_eq_true rfl⟩ rfl rfl (Nat.le_of_ble_eq_true rfl) dX6_feast_2  h25 ⟨Nat.le_of_ble_eq_true rfl, Nat.le_of_ble_eq_true rfl⟩
  refine jx_okV_v C E (i := 0) (As := [.int x1]) (rest := []) (c_X6_needFeast l G B dy sa hls x1 _ e23) (shp6 G B _ kA_0) (kd_lt kA_0 (by decide)) rfl tw_600 tw_602 tp_33 ti_6 tw_603 hd_X6_needFeast ⟨Nat.le_of_ble_eq_true rfl, Nat.le_of_ble_eq_true rfl⟩ ⟨Nat.le_of_ble_eq_true rfl, Nat.le_of_ble_eq_true rfl⟩ rfl rfl (Nat.le_of_ble_eq_true rfl) dX6_feast_2 ?_
  refine j_iload_n C (q := 2) dX6_feast_5 rfl rfl ?_
  refine j_iconst C (v := 0) dX6_feast_6 (by decide) ?_
  refine j_iconst C (v := 3) dX6_feast_7 (by decide) ?_
  rcases bx_some h with ⟨q29, e28, h30⟩ | ⟨t27, e28, h⟩
  · exact jx_thS_v C E hno hlk (As := [.int x2, .int 0, .int 3]) (rest := []) (c_X6_needWithin l G B dy sa hls x2 0 3 _ e28) tw_620 tw_621 ti_6 tw_622 ⟨rfl, hd_X6_needWithin⟩ ⟨Nat.le_of_ble_eq_true rfl, Nat.le_of_ble_eq_true rfl⟩ ⟨Nat.le_of_ble_eq_true rfl, Nat.le_of_ble_eq_true rfl⟩ rfl rfl (Nat.le_of_ble_eq_true rfl) dX6_feast_8  h30 ⟨Nat.le_of_ble_eq_true rfl, Nat.le_of_ble_eq_true rfl⟩
  refine jx_okS_v C E (As := [.int x2, .int 0, .int 3]) (rest := []) (c_X6_needWithin l G B dy sa hls x2 0 3 _ e28) tw_620 tw_621 ti_6 tw_622 ⟨rfl, hd_X6_needWithin⟩ ⟨Nat.le_of_ble_eq_true rfl, Nat.le_of_ble_eq_true rfl⟩ ⟨Nat.le_of_ble_eq_true rfl, Nat.le_of_ble_eq_true rfl⟩ rfl rfl (Nat.le_of_ble_eq_true rfl) dX6_feast_8 ?_
  refine j_aload_n C (q := 0) dX6_feast_11 rfl rfl ?_
  refine j_iload_n C (q := 1) dX6_feast_12 rfl rfl ?_
  refine j_iload_n C (q := 2) dX6_feast_13 rfl rfl ?_
  obtain ⟨x31, t32, e33, h⟩ := bd_some h
  refine j_callV_i C (i := 0) (As := [.int x1, .int x2]) (rest := []) (c_X6_feastProperty l G B dy x1 x2 _ e33) (shp6 G B _ kA_0) (kd_lt kA_0 (by decide)) rfl tw_396 tw_398 tp_22 ti_6 tw_399 hd_X6_feastProperty ⟨Nat.le_of_ble_eq_true rfl, Nat.le_of_ble_eq_true rfl⟩ ⟨Nat.le_of_ble_eq_true rfl, Nat.le_of_ble_eq_true rfl⟩ rfl rfl (Nat.le_of_ble_eq_true rfl) dX6_feast_14 ?_
  exact jx_iret C hr hlk h ⟨Nat.le_of_ble_eq_true rfl, Nat.le_of_ble_eq_true rfl⟩ dX6_feast_17
set_option maxRecDepth 100000 in
set_option maxHeartbeats 4000000 in
theorem c_X6_when (l : Launch) (G : GG) (B dy : Nat) (sa : Nat → Nat) (hls : l.stackTraces = false) (x1 : Int32) (x2 : Int32) (x3 : Int32) (x4 : Int32) (t0 : St) {res : Ex (Int32 × St)} (h : f_X6_when x1 x2 x3 x4 t0 = some res) : CtX l G B dy sa yX6_when cX6_when 5 (some .int) 8 124 3 18 [.ref (B + 0), .int x1, .int x2, .int x3, .int x4] t0 (PX G B res) (XX G B res) := by
  refine CtX_of (by decide +kernel) [(0, .ref (B + 0)), (1, .int x1), (2, .int x2), (3, .int x3), (4, .int x4)] (Nat.le_of_ble_eq_true rfl) rfl ?_
  intro p e s m args below meth c C hr hlk E hno
  refine j_aload_n C (q := 0) dX6_when_0 rfl rfl ?_
  refine j_iload_n C (q := 1) dX6_when_1 rfl rfl ?_
  rcases bx_some h with ⟨q24, e23, h25⟩ | ⟨t22, e23, h⟩
  · exact jx_thV_v C E hno hlk (i := 0) (As := [.int x1]) (rest := []) (c_X6_needFeast l G B dy sa hls x1 _ e23) (shp6 G B _ kA_0) (kd_lt kA_0 (by decide)) rfl tw_600 tw_602 tp_33 ti_6 tw_603 hd_X6_needFeast ⟨Nat.le_of_ble_eq_true rfl, Nat.le_of_ble_eq_true rfl⟩ ⟨Nat.le_of_ble_eq_true rfl, Nat.le_of_ble_eq_true rfl⟩ rfl rfl (Nat.le_of_ble_eq_true rfl) dX6_when_2  h25 ⟨Nat.le_of_ble_eq_true rfl, Nat.le_of_ble_eq_true rfl⟩
  refine jx_okV_v C E (i := 0) (As := [.int x1]) (rest := []) (c_X6_needFeast l G B dy sa hls x1 _ e23) (shp6 G B _ kA_0) (kd_lt kA_0 (by decide)) rfl tw_600 tw_602 tp_33 ti_6 tw_603 hd_X6_needFeast ⟨Nat.le_of_ble_eq_true rfl, Nat.le_of_ble_eq_true rfl⟩ ⟨Nat.le_of_ble_eq_true rfl, Nat.le_of_ble_eq_true rfl⟩ rfl rfl (Nat.le_of_ble_eq_true rfl) dX6_when_2 ?_
  refine j_iload_n C (q := 2) dX6_when_5 rfl rfl ?_
  rcases bx_some h with ⟨q29, e28, h30⟩ | ⟨t27, e28, h⟩
  · exact jx_thS_v C E hno hlk (As := [.int x2]) (rest := []) (c_X6_needYear l G B dy sa hls x2 _ e28) tw_642 tw_643 ti_6 tw_644 ⟨rfl, hd_X6_needYear⟩ ⟨Nat.le_of_ble_eq_true rfl, Nat.le_of_ble_eq_true rfl⟩ ⟨Nat.le_of_ble_eq_true rfl, Nat.le_of_ble_eq_true rfl⟩ rfl rfl (Nat.le_of_ble_eq_true rfl) dX6_when_6  h30 ⟨Nat.le_of_ble_eq_true rfl, Nat.le_of_ble_eq_true rfl⟩
  refine jx_okS_v C E (As := [.int x2]) (rest := []) (c_X6_needYear l G B dy sa hls x2 _ e28) tw_642 tw_643 ti_6 tw_644 ⟨rfl, hd_X6_needYear⟩ ⟨Nat.le_of_ble_eq_true rfl, Nat.le_of_ble_eq_true rfl⟩ ⟨Nat.le_of_ble_eq_true rfl, Nat.le_of_ble_eq_true rfl⟩ rfl rfl (Nat.le_of_ble_eq_true rfl) dX6_when_6 ?_
  refine j_iload_n C (q := 3) dX6_when_9 rfl rfl ?_
  rcases bx_some h with ⟨q34, e33, h35⟩ | ⟨t32, e33, h⟩
  · exact jx_thS_v C E hno hlk (As := [.int x3]) (rest := []) (c_X6_needCarver l G B dy sa hls x3 _ e33) tw_632 tw_633 ti_6 tw_634 ⟨rfl, hd_X6_needCarver⟩ ⟨Nat.le_of_ble_eq_true rfl, Nat.le_of_ble_eq_true rfl⟩ ⟨Nat.le_of_ble_eq_true rfl, Nat.le_of_ble_eq_true rfl⟩ rfl rfl (Nat.le_of_ble_eq_true rfl) dX6_when_10  h35 ⟨Nat.le_of_ble_eq_true rfl, Nat.le_of_ble_eq_true rfl⟩
  refine jx_okS_v C E (As := [.int x3]) (rest := []) (c_X6_needCarver l G B dy sa hls x3 _ e33) tw_632 tw_633 ti_6 tw_634 ⟨rfl, hd_X6_needCarver⟩ ⟨Nat.le_of_ble_eq_true rfl, Nat.le_of_ble_eq_true rfl⟩ ⟨Nat.le_of_ble_eq_true rfl, Nat.le_of_ble_eq_true rfl⟩ rfl rfl (Nat.le_of_ble_eq_true rfl) dX6_when_10 ?_
  refine j_aload_n C (q := 0) dX6_when_13 rfl rfl ?_
  refine fg_X6_42 C (i := 0) kA_0 dX6_when_14 ?_
  refine j_aload_n C (q := 0) dX6_when_17 rfl rfl ?_
  refine fg_X6_12 C (i := 0) kA_0 dX6_when_18 ?_
  refine j_iload_n C (q := 2) dX6_when_21 rfl rfl ?_
  refine j_aload_n C (q := 0) dX6_when_22 rfl rfl ?_
  refine fg_X6_12 C (i := 0) kA_0 dX6_when_23 ?_
  refine fg_X6_116 C (i := 1) kA_1 dX6_when_26 ?_
  refine j_iload_n C (q := 3) dX6_when_29 rfl rfl ?_
  obtain ⟨x36, t37, e38, h⟩ := bd_some h
  refine j_callV_i C (i := 10) (As := [.int x3]) (rest := [.int x2, .ref (B + 1), .ref (B + 139)]) (c_X4_at l G B dy 10 kA_10 x3 _ e38) (shp4 G B _ kA_10) (kd_lt kA_10 (by decide)) rfl tw_240 tw_241 tw_242 ti_4 tw_243 hd_X4_at ⟨Nat.le_of_ble_eq_true rfl, Nat.le_of_ble_eq_true rfl⟩ ⟨Nat.le_of_ble_eq_true rfl, Nat.le_of_ble_eq_true rfl⟩ rfl rfl (Nat.le_of_ble_eq_true rfl) dX6_when_30 ?_
  obtain ⟨t40, e41, h⟩ := bv_some h
  refine j_callV_v C (i := 139) (As := [.ref (B + 1), .int x2, .int x36]) (rest := []) (c_X3_reckon l G B dy 139 kA_139 1 kA_1 x2 x36 _ e41) (shp3 G B _ kA_139) (kd_lt kA_139 (by decide)) rfl tw_304 tw_305 tw_306 ti_3 tw_307 hd_X3_reckon ⟨Nat.le_of_ble_eq_true rfl, Nat.le_of_ble_eq_true rfl⟩ ⟨Nat.le_of_ble_eq_true rfl, Nat.le_of_ble_eq_true rfl⟩ rfl rfl (Nat.le_of_ble_eq_true rfl) dX6_when_33 ?_
  refine j_iload C (q := 4) dX6_when_36 rfl ?_
  refine j_if_eq C (tgt := 55) dX6_when_38 (by decide) (fun c42 => ?_) (fun c42 => ?_)
  · have h := ite_t h c42
    refine j_aload_n C (q := 0) dX6_when_55 rfl rfl ?_
    refine fg_X6_42 C (i := 0) kA_0 dX6_when_56 ?_
    refine fg_X6_126 C (i := 139) kA_139 dX6_when_59 ?_
    refine j_iload_n C (q := 1) dX6_when_62 rfl rfl ?_
    obtain ⟨x43, t44, e45, h⟩ := bd_some h
    refine j_callV_i C (i := 142) (As := [.int x1]) (rest := []) (c_X4_at l G B dy 142 kA_142 x1 _ e45) (shp4 G B _ kA_142) (kd_lt kA_142 (by decide)) rfl tw_240 tw_241 tw_242 ti_4 tw_243 hd_X4_at ⟨Nat.le_of_ble_eq_true rfl, Nat.le_of_ble_eq_true rfl⟩ ⟨Nat.le_of_ble_eq_true rfl, Nat.le_of_ble_eq_true rfl⟩ rfl rfl (Nat.le_of_ble_eq_true rfl) dX6_when_63 ?_
    exact jx_iret C hr hlk h ⟨Nat.le_of_ble_eq_true rfl, Nat.le_of_ble_eq_true rfl⟩ dX6_when_66
  · have h := ite_f h c42
    refine j_aload_n C (q := 0) dX6_when_41 rfl rfl ?_
    refine fg_X6_42 C (i := 0) kA_0 dX6_when_42 ?_
    refine fg_X6_184 C (i := 139) kA_139 dX6_when_45 ?_
    refine j_iload_n C (q := 1) dX6_when_48 rfl rfl ?_
    obtain ⟨x46, t47, e48, h⟩ := bd_some h
    refine j_callV_i C (i := 140) (As := [.int x1]) (rest := []) (c_X4_at l G B dy 140 kA_140 x1 _ e48) (shp4 G B _ kA_140) (kd_lt kA_140 (by decide)) rfl tw_240 tw_241 tw_242 ti_4 tw_243 hd_X4_at ⟨Nat.le_of_ble_eq_true rfl, Nat.le_of_ble_eq_true rfl⟩ ⟨Nat.le_of_ble_eq_true rfl, Nat.le_of_ble_eq_true rfl⟩ rfl rfl (Nat.le_of_ble_eq_true rfl) dX6_when_49 ?_
    refine j_goto C (tgt := 66) dX6_when_52 (by decide) ?_
    exact jx_iret C hr hlk h ⟨Nat.le_of_ble_eq_true rfl, Nat.le_of_ble_eq_true rfl⟩ dX6_when_66
set_option maxRecDepth 100000 in
set_option maxHeartbeats 4000000 in
theorem c_X6_settled (l : Launch) (G : GG) (B dy : Nat) (sa : Nat → Nat) (hls : l.stackTraces = false) (x1 : Int32) (x2 : Int32) (t0 : St) {res : Ex (Int32 × St)} (h : f_X6_settled x1 x2 t0 = some res) : CtX l G B dy sa yX6_settled cX6_settled 3 (some .int) 8 124 2 12 [.ref (B + 0), .int x1, .int x2] t0 (PX G B res) (XX G B res) := by
  refine CtX_of (by decide +kernel) [(0, .ref (B + 0)), (1, .int x1), (2, .int x2)] (Nat.le_of_ble_eq_true rfl) rfl ?_
  intro p e s m args below meth c C hr hlk E hno
  refine j_aload_n C (q := 0) dX6_settled_0 rfl rfl ?_
  refine j_iload_n C (q := 1) dX6_settled_1 rfl rfl ?_
  rcases bx_some h with ⟨q24, e23, h25⟩ | ⟨t22, e23, h⟩
  · exact jx_thV_v C E hno hlk (i := 0) (As := [.int x1]) (rest := []) (c_X6_needFeast l G B dy sa hls x1 _ e23) (shp6 G B _ kA_0) (kd_lt kA_0 (by decide)) rfl tw_600 tw_602 tp_33 ti_6 tw_603 hd_X6_needFeast ⟨Nat.le_of_ble_eq_true rfl, Nat.le_of_ble_eq_true rfl⟩ ⟨Nat.le_of_ble_eq_true rfl, Nat.le_of_ble_eq_true rfl⟩ rfl rfl (Nat.le_of_ble_eq_true rfl) dX6_settled_2  h25 ⟨Nat.le_of_ble_eq_true rfl, Nat.le_of_ble_eq_true rfl⟩
  refine jx_okV_v C E (i := 0) (As := [.int x1]) (rest := []) (c_X6_needFeast l G B dy sa hls x1 _ e23) (shp6 G B _ kA_0) (kd_lt kA_0 (by decide)) rfl tw_600 tw_602 tp_33 ti_6 tw_603 hd_X6_needFeast ⟨Nat.le_of_ble_eq_true rfl, Nat.le_of_ble_eq_true rfl⟩ ⟨Nat.le_of_ble_eq_true rfl, Nat.le_of_ble_eq_true rfl⟩ rfl rfl (Nat.le_of_ble_eq_true rfl) dX6_settled_2 ?_
  refine j_iload_n C (q := 2) dX6_settled_5 rfl rfl ?_
  rcases bx_some h with ⟨q29, e28, h30⟩ | ⟨t27, e28, h⟩
  · exact jx_thS_v C E hno hlk (As := [.int x2]) (rest := []) (c_X6_needYear l G B dy sa hls x2 _ e28) tw_642 tw_643 ti_6 tw_644 ⟨rfl, hd_X6_needYear⟩ ⟨Nat.le_of_ble_eq_true rfl, Nat.le_of_ble_eq_true rfl⟩ ⟨Nat.le_of_ble_eq_true rfl, Nat.le_of_ble_eq_true rfl⟩ rfl rfl (Nat.le_of_ble_eq_true rfl) dX6_settled_6  h30 ⟨Nat.le_of_ble_eq_true rfl, Nat.le_of_ble_eq_true rfl⟩
  refine jx_okS_v C E (As := [.int x2]) (rest := []) (c_X6_needYear l G B dy sa hls x2 _ e28) tw_642 tw_643 ti_6 tw_644 ⟨rfl, hd_X6_needYear⟩ ⟨Nat.le_of_ble_eq_true rfl, Nat.le_of_ble_eq_true rfl⟩ ⟨Nat.le_of_ble_eq_true rfl, Nat.le_of_ble_eq_true rfl⟩ rfl rfl (Nat.le_of_ble_eq_true rfl) dX6_settled_6 ?_
  refine j_aload_n C (q := 0) dX6_settled_9 rfl rfl ?_
  refine fg_X6_49 C (i := 0) kA_0 dX6_settled_10 ?_
  refine j_aload_n C (q := 0) dX6_settled_13 rfl rfl ?_
  refine fg_X6_12 C (i := 0) kA_0 dX6_settled_14 ?_
  refine j_iload_n C (q := 2) dX6_settled_17 rfl rfl ?_
  obtain ⟨t32, e33, h⟩ := bv_some h
  refine j_callV_v C (i := 144) (As := [.ref (B + 1), .int x2]) (rest := []) (c_X0_gather l G B dy 144 kA_144 1 kA_1 x2 _ e33) (shp0 G B _ kA_144) (kd_lt kA_144 (by decide)) rfl tw_382 tw_383 tw_384 ti_0 tw_385 hd_X0_gather ⟨Nat.le_of_ble_eq_true rfl, Nat.le_of_ble_eq_true rfl⟩ ⟨Nat.le_of_ble_eq_true rfl, Nat.le_of_ble_eq_true rfl⟩ rfl rfl (Nat.le_of_ble_eq_true rfl) dX6_settled_18 ?_
  refine j_aload_n C (q := 0) dX6_settled_21 rfl rfl ?_
  refine fg_X6_49 C (i := 0) kA_0 dX6_settled_22 ?_
  refine j_iload_n C (q := 1) dX6_settled_25 rfl rfl ?_
  obtain ⟨x34, t35, e36, h⟩ := bd_some h
  refine j_callV_i C (i := 144) (As := [.int x1]) (rest := []) (c_X0_settledNotch l G B dy 144 kA_144 x1 _ e36) (shp0 G B _ kA_144) (kd_lt kA_144 (by decide)) rfl tw_404 tw_405 tw_406 ti_0 tw_407 hd_X0_settledNotch ⟨Nat.le_of_ble_eq_true rfl, Nat.le_of_ble_eq_true rfl⟩ ⟨Nat.le_of_ble_eq_true rfl, Nat.le_of_ble_eq_true rfl⟩ rfl rfl (Nat.le_of_ble_eq_true rfl) dX6_settled_26 ?_
  exact jx_iret C hr hlk h ⟨Nat.le_of_ble_eq_true rfl, Nat.le_of_ble_eq_true rfl⟩ dX6_settled_29
set_option maxRecDepth 100000 in
set_option maxHeartbeats 4000000 in
theorem c_X6_quarrels (l : Launch) (G : GG) (B dy : Nat) (sa : Nat → Nat) (hls : l.stackTraces = false) (x1 : Int32) (t0 : St) {res : Ex (Int32 × St)} (h : f_X6_quarrels x1 t0 = some res) : CtX l G B dy sa yX6_quarrels cX6_quarrels 2 (some .int) 8 124 1 6 [.ref (B + 0), .int x1] t0 (PX G B res) (XX G B res) := by
  refine CtX_of (by decide +kernel) [(0, .ref (B + 0)), (1, .int x1)] (Nat.le_of_ble_eq_true rfl) rfl ?_
  intro p e s m args below meth c C hr hlk E hno
  refine j_iload_n C (q := 1) dX6_quarrels_0 rfl rfl ?_
  rcases bx_some h with ⟨q24, e23, h25⟩ | ⟨t22, e23, h⟩
  · exact jx_thS_v C E hno hlk (As := [.int x1]) (rest := []) (c_X6_needYear l G B dy sa hls x1 _ e23) tw_642 tw_643 ti_6 tw_644 ⟨rfl, hd_X6_needYear⟩ ⟨Nat.le_of_ble_eq_true rfl, Nat.le_of_ble_eq_true rfl⟩ ⟨Nat.le_of_ble_eq_true rfl, Nat.le_of_ble_eq_true rfl⟩ rfl rfl (Nat.le_of_ble_eq_true rfl) dX6_quarrels_1  h25 ⟨Nat.le_of_ble_eq_true rfl, Nat.le_of_ble_eq_true rfl⟩
  refine jx_okS_v C E (As := [.int x1]) (rest := []) (c_X6_needYear l G B dy sa hls x1 _ e23) tw_642 tw_643 ti_6 tw_644 ⟨rfl, hd_X6_needYear⟩ ⟨Nat.le_of_ble_eq_true rfl, Nat.le_of_ble_eq_true rfl⟩ ⟨Nat.le_of_ble_eq_true rfl, Nat.le_of_ble_eq_true rfl⟩ rfl rfl (Nat.le_of_ble_eq_true rfl) dX6_quarrels_1 ?_
  refine j_aload_n C (q := 0) dX6_quarrels_4 rfl rfl ?_
  refine fg_X6_49 C (i := 0) kA_0 dX6_quarrels_5 ?_
  refine j_aload_n C (q := 0) dX6_quarrels_8 rfl rfl ?_
  refine fg_X6_12 C (i := 0) kA_0 dX6_quarrels_9 ?_
  refine j_iload_n C (q := 1) dX6_quarrels_12 rfl rfl ?_
  obtain ⟨t27, e28, h⟩ := bv_some h
  refine j_callV_v C (i := 144) (As := [.ref (B + 1), .int x1]) (rest := []) (c_X0_gather l G B dy 144 kA_144 1 kA_1 x1 _ e28) (shp0 G B _ kA_144) (kd_lt kA_144 (by decide)) rfl tw_382 tw_383 tw_384 ti_0 tw_385 hd_X0_gather ⟨Nat.le_of_ble_eq_true rfl, Nat.le_of_ble_eq_true rfl⟩ ⟨Nat.le_of_ble_eq_true rfl, Nat.le_of_ble_eq_true rfl⟩ rfl rfl (Nat.le_of_ble_eq_true rfl) dX6_quarrels_13 ?_
  refine j_aload_n C (q := 0) dX6_quarrels_16 rfl rfl ?_
  refine fg_X6_49 C (i := 0) kA_0 dX6_quarrels_17 ?_
  refine j_aload_n C (q := 0) dX6_quarrels_20 rfl rfl ?_
  refine fg_X6_12 C (i := 0) kA_0 dX6_quarrels_21 ?_
  refine fg_X6_87 C (i := 1) kA_1 dX6_quarrels_24 ?_
  obtain ⟨x29, t30, e31, h⟩ := bd_some h
  refine j_callV_i C (i := 144) (As := [.int (t27.1 1 0)]) (rest := []) (c_X0_quarrelCount l G B dy 144 kA_144 (t27.1 1 0) _ e31) (shp0 G B _ kA_144) (kd_lt kA_144 (by decide)) rfl tw_412 tw_413 tw_414 ti_0 tw_415 hd_X0_quarrelCount ⟨Nat.le_of_ble_eq_true rfl, Nat.le_of_ble_eq_true rfl⟩ ⟨Nat.le_of_ble_eq_true rfl, Nat.le_of_ble_eq_true rfl⟩ rfl rfl (Nat.le_of_ble_eq_true rfl) dX6_quarrels_27 ?_
  exact jx_iret C hr hlk h ⟨Nat.le_of_ble_eq_true rfl, Nat.le_of_ble_eq_true rfl⟩ dX6_quarrels_30
set_option maxRecDepth 100000 in
set_option maxHeartbeats 4000000 in
theorem c_X6_stick (l : Launch) (G : GG) (B dy : Nat) (sa : Nat → Nat) (hls : l.stackTraces = false) (x1 : Int32) (x2 : Int32) (t0 : St) {res : Ex (Int32 × St)} (h : f_X6_stick x1 x2 t0 = some res) : CtX l G B dy sa yX6_stick cX6_stick 3 (some .int) 7 143 2 12 [.ref (B + 0), .int x1, .int x2] t0 (PX G B res) (XX G B res) := by
  refine CtX_of (by decide +kernel) [(0, .ref (B + 0)), (1, .int x1), (2, .int x2)] (Nat.le_of_ble_eq_true rfl) rfl ?_
  intro p e s m args below meth c C hr hlk E hno
  refine j_aload_n C (q := 0) dX6_stick_0 rfl rfl ?_
  refine j_iload_n C (q := 1) dX6_stick_1 rfl rfl ?_
  rcases bx_some h with ⟨q24, e23, h25⟩ | ⟨t22, e23, h⟩
  · exact jx_thV_v C E hno hlk (i := 0) (As := [.int x1]) (rest := []) (c_X6_needStick l G B dy sa hls x1 _ e23) (shp6 G B _ kA_0) (kd_lt kA_0 (by decide)) rfl tw_660 tw_662 tp_35 ti_6 tw_663 hd_X6_needStick ⟨Nat.le_of_ble_eq_true rfl, Nat.le_of_ble_eq_true rfl⟩ ⟨Nat.le_of_ble_eq_true rfl, Nat.le_of_ble_eq_true rfl⟩ rfl rfl (Nat.le_of_ble_eq_true rfl) dX6_stick_2  h25 ⟨Nat.le_of_ble_eq_true rfl, Nat.le_of_ble_eq_true rfl⟩
  refine jx_okV_v C E (i := 0) (As := [.int x1]) (rest := []) (c_X6_needStick l G B dy sa hls x1 _ e23) (shp6 G B _ kA_0) (kd_lt kA_0 (by decide)) rfl tw_660 tw_662 tp_35 ti_6 tw_663 hd_X6_needStick ⟨Nat.le_of_ble_eq_true rfl, Nat.le_of_ble_eq_true rfl⟩ ⟨Nat.le_of_ble_eq_true rfl, Nat.le_of_ble_eq_true rfl⟩ rfl rfl (Nat.le_of_ble_eq_true rfl) dX6_stick_2 ?_
  refine j_iload_n C (q := 2) dX6_stick_5 rfl rfl ?_
  refine j_iconst C (v := 0) dX6_stick_6 (by decide) ?_
  refine j_bipush C (v := 13) dX6_stick_7 (by decide) ?_
  rcases bx_some h with ⟨q29, e28, h30⟩ | ⟨t27, e28, h⟩
  · exact jx_thS_v C E hno hlk (As := [.int x2, .int 0, .int 13]) (rest := []) (c_X6_needWithin l G B dy sa hls x2 0 13 _ e28) tw_620 tw_621 ti_6 tw_622 ⟨rfl, hd_X6_needWithin⟩ ⟨Nat.le_of_ble_eq_true rfl, Nat.le_of_ble_eq_true rfl⟩ ⟨Nat.le_of_ble_eq_true rfl, Nat.le_of_ble_eq_true rfl⟩ rfl rfl (Nat.le_of_ble_eq_true rfl) dX6_stick_9  h30 ⟨Nat.le_of_ble_eq_true rfl, Nat.le_of_ble_eq_true rfl⟩
  refine jx_okS_v C E (As := [.int x2, .int 0, .int 13]) (rest := []) (c_X6_needWithin l G B dy sa hls x2 0 13 _ e28) tw_620 tw_621 ti_6 tw_622 ⟨rfl, hd_X6_needWithin⟩ ⟨Nat.le_of_ble_eq_true rfl, Nat.le_of_ble_eq_true rfl⟩ ⟨Nat.le_of_ble_eq_true rfl, Nat.le_of_ble_eq_true rfl⟩ rfl rfl (Nat.le_of_ble_eq_true rfl) dX6_stick_9 ?_
  refine j_aload_n C (q := 0) dX6_stick_12 rfl rfl ?_
  refine j_iload_n C (q := 1) dX6_stick_13 rfl rfl ?_
  refine j_iload_n C (q := 2) dX6_stick_14 rfl rfl ?_
  obtain ⟨x31, t32, e33, h⟩ := bd_some h
  refine j_callV_i C (i := 0) (As := [.int x1, .int x2]) (rest := []) (c_X6_stickProperty l G B dy x1 x2 _ e33) (shp6 G B _ kA_0) (kd_lt kA_0 (by decide)) rfl tw_420 tw_422 tp_24 ti_6 tw_423 hd_X6_stickProperty ⟨Nat.le_of_ble_eq_true rfl, Nat.le_of_ble_eq_true rfl⟩ ⟨Nat.le_of_ble_eq_true rfl, Nat.le_of_ble_eq_true rfl⟩ rfl rfl (Nat.le_of_ble_eq_true rfl) dX6_stick_15 ?_
  exact jx_iret C hr hlk h ⟨Nat.le_of_ble_eq_true rfl, Nat.le_of_ble_eq_true rfl⟩ dX6_stick_18
set_option maxRecDepth 100000 in
set_option maxHeartbeats 4000000 in
theorem c_X6_count (l : Launch) (G : GG) (B dy : Nat) (sa : Nat → Nat) (hls : l.stackTraces = false) (x1 : Int32) (t0 : St) {res : Ex (Int32 × St)} (h : f_X6_count x1 t0 = some res) : CtX l G B dy sa yX6_count cX6_count 2 (some .int) 7 142 1 6 [.ref (B + 0), .int x1] t0 (PX G B res) (XX G B res) := by
  refine CtX_of (by decide +kernel) [(0, .ref (B + 0)), (1, .int x1)] (Nat.le_of_ble_eq_true rfl) rfl ?_
  intro p e s m args below meth c C hr hlk E hno
  refine j_iload_n C (q := 1) dX6_count_0 rfl rfl ?_
  refine j_iconst C (v := 0) dX6_count_1 (by decide) ?_
  refine j_bipush C (v := 7) dX6_count_2 (by decide) ?_
  rcases bx_some h with ⟨q24, e23, h25⟩ | ⟨t22, e23, h⟩
  · exact jx_thS_v C E hno hlk (As := [.int x1, .int 0, .int 7]) (rest := []) (c_X6_needWithin l G B dy sa hls x1 0 7 _ e23) tw_620 tw_621 ti_6 tw_622 ⟨rfl, hd_X6_needWithin⟩ ⟨Nat.le_of_ble_eq_true rfl, Nat.le_of_ble_eq_true rfl⟩ ⟨Nat.le_of_ble_eq_true rfl, Nat.le_of_ble_eq_true rfl⟩ rfl rfl (Nat.le_of_ble_eq_true rfl) dX6_count_4  h25 ⟨Nat.le_of_ble_eq_true rfl, Nat.le_of_ble_eq_true rfl⟩
  refine jx_okS_v C E (As := [.int x1, .int 0, .int 7]) (rest := []) (c_X6_needWithin l G B dy sa hls x1 0 7 _ e23) tw_620 tw_621 ti_6 tw_622 ⟨rfl, hd_X6_needWithin⟩ ⟨Nat.le_of_ble_eq_true rfl, Nat.le_of_ble_eq_true rfl⟩ ⟨Nat.le_of_ble_eq_true rfl, Nat.le_of_ble_eq_true rfl⟩ rfl rfl (Nat.le_of_ble_eq_true rfl) dX6_count_4 ?_
  refine j_aload_n C (q := 0) dX6_count_7 rfl rfl ?_
  refine j_iload_n C (q := 1) dX6_count_8 rfl rfl ?_
  obtain ⟨x26, t27, e28, h⟩ := bd_some h
  refine j_callV_i C (i := 0) (As := [.int x1]) (rest := []) (c_X6_numberOf l G B dy x1 _ e28) (shp6 G B _ kA_0) (kd_lt kA_0 (by decide)) rfl tw_366 tw_368 tp_19 ti_6 tw_369 hd_X6_numberOf ⟨Nat.le_of_ble_eq_true rfl, Nat.le_of_ble_eq_true rfl⟩ ⟨Nat.le_of_ble_eq_true rfl, Nat.le_of_ble_eq_true rfl⟩ rfl rfl (Nat.le_of_ble_eq_true rfl) dX6_count_9 ?_
  exact jx_iret C hr hlk h ⟨Nat.le_of_ble_eq_true rfl, Nat.le_of_ble_eq_true rfl⟩ dX6_count_12
set_option maxRecDepth 100000 in
set_option maxHeartbeats 4000000 in
theorem c_X6_range (l : Launch) (G : GG) (B dy : Nat) (sa : Nat → Nat) (hls : l.stackTraces = false) (x1 : Int32) (x2 : Int32) (x3 : Int32) (x4 : Int32) (t0 : St) {res : Ex (Int32 × St)} (h : f_X6_range x1 x2 x3 x4 t0 = some res) : CtX l G B dy sa yX6_range cX6_range 5 (some .int) 8 144 3 18 [.ref (B + 0), .int x1, .int x2, .int x3, .int x4] t0 (PX G B res) (XX G B res) := by
  refine CtX_of (by decide +kernel) [(0, .ref (B + 0)), (1, .int x1), (2, .int x2), (3, .int x3), (4, .int x4)] (Nat.le_of_ble_eq_true rfl) rfl ?_
  intro p e s m args below meth c C hr hlk E hno
  refine j_aload_n C (q := 0) dX6_range_0 rfl rfl ?_
  refine j_iload_n C (q := 1) dX6_range_1 rfl rfl ?_
  rcases bx_some h with ⟨q24, e23, h25⟩ | ⟨t22, e23, h⟩
  · exact jx_thV_v C E hno hlk (i := 0) (As := [.int x1]) (rest := []) (c_X6_needFeast l G B dy sa hls x1 _ e23) (shp6 G B _ kA_0) (kd_lt kA_0 (by decide)) rfl tw_600 tw_602 tp_33 ti_6 tw_603 hd_X6_needFeast ⟨Nat.le_of_ble_eq_true rfl, Nat.le_of_ble_eq_true rfl⟩ ⟨Nat.le_of_ble_eq_true rfl, Nat.le_of_ble_eq_true rfl⟩ rfl rfl (Nat.le_of_ble_eq_true rfl) dX6_range_2  h25 ⟨Nat.le_of_ble_eq_true rfl, Nat.le_of_ble_eq_true rfl⟩
  refine jx_okV_v C E (i := 0) (As := [.int x1]) (rest := []) (c_X6_needFeast l G B dy sa hls x1 _ e23) (shp6 G B _ kA_0) (kd_lt kA_0 (by decide)) rfl tw_600 tw_602 tp_33 ti_6 tw_603 hd_X6_needFeast ⟨Nat.le_of_ble_eq_true rfl, Nat.le_of_ble_eq_true rfl⟩ ⟨Nat.le_of_ble_eq_true rfl, Nat.le_of_ble_eq_true rfl⟩ rfl rfl (Nat.le_of_ble_eq_true rfl) dX6_range_2 ?_
  refine j_iload_n C (q := 2) dX6_range_5 rfl rfl ?_
  rcases bx_some h with ⟨q29, e28, h30⟩ | ⟨t27, e28, h⟩
  · exact jx_thS_v C E hno hlk (As := [.int x2]) (rest := []) (c_X6_needYear l G B dy sa hls x2 _ e28) tw_642 tw_643 ti_6 tw_644 ⟨rfl, hd_X6_needYear⟩ ⟨Nat.le_of_ble_eq_true rfl, Nat.le_of_ble_eq_true rfl⟩ ⟨Nat.le_of_ble_eq_true rfl, Nat.le_of_ble_eq_true rfl⟩ rfl rfl (Nat.le_of_ble_eq_true rfl) dX6_range_6  h30 ⟨Nat.le_of_ble_eq_true rfl, Nat.le_of_ble_eq_true rfl⟩
  refine jx_okS_v C E (As := [.int x2]) (rest := []) (c_X6_needYear l G B dy sa hls x2 _ e28) tw_642 tw_643 ti_6 tw_644 ⟨rfl, hd_X6_needYear⟩ ⟨Nat.le_of_ble_eq_true rfl, Nat.le_of_ble_eq_true rfl⟩ ⟨Nat.le_of_ble_eq_true rfl, Nat.le_of_ble_eq_true rfl⟩ rfl rfl (Nat.le_of_ble_eq_true rfl) dX6_range_6 ?_
  refine j_iload_n C (q := 3) dX6_range_9 rfl rfl ?_
  refine j_iconst C (v := 1) dX6_range_10 (by decide) ?_
  refine j_bipush C (v := 40) dX6_range_11 (by decide) ?_
  rcases bx_some h with ⟨q34, e33, h35⟩ | ⟨t32, e33, h⟩
  · exact jx_thS_v C E hno hlk (As := [.int x3, .int 1, .int 40]) (rest := []) (c_X6_needWithin l G B dy sa hls x3 1 40 _ e33) tw_620 tw_621 ti_6 tw_622 ⟨rfl, hd_X6_needWithin⟩ ⟨Nat.le_of_ble_eq_true rfl, Nat.le_of_ble_eq_true rfl⟩ ⟨Nat.le_of_ble_eq_true rfl, Nat.le_of_ble_eq_true rfl⟩ rfl rfl (Nat.le_of_ble_eq_true rfl) dX6_range_13  h35 ⟨Nat.le_of_ble_eq_true rfl, Nat.le_of_ble_eq_true rfl⟩
  refine jx_okS_v C E (As := [.int x3, .int 1, .int 40]) (rest := []) (c_X6_needWithin l G B dy sa hls x3 1 40 _ e33) tw_620 tw_621 ti_6 tw_622 ⟨rfl, hd_X6_needWithin⟩ ⟨Nat.le_of_ble_eq_true rfl, Nat.le_of_ble_eq_true rfl⟩ ⟨Nat.le_of_ble_eq_true rfl, Nat.le_of_ble_eq_true rfl⟩ rfl rfl (Nat.le_of_ble_eq_true rfl) dX6_range_13 ?_
  refine j_aload_n C (q := 0) dX6_range_16 rfl rfl ?_
  refine j_iload_n C (q := 1) dX6_range_17 rfl rfl ?_
  refine j_iload_n C (q := 2) dX6_range_18 rfl rfl ?_
  refine j_iload_n C (q := 3) dX6_range_19 rfl rfl ?_
  refine j_iload C (q := 4) dX6_range_20 rfl ?_
  obtain ⟨x36, t37, e38, h⟩ := bd_some h
  refine j_callV_i C (i := 0) (As := [.int x1, .int x2, .int x3, .int x4]) (rest := []) (c_X6_outermost l G B dy x1 x2 x3 x4 _ e38) (shp6 G B _ kA_0) (kd_lt kA_0 (by decide)) rfl tw_444 tw_446 tp_27 ti_6 tw_447 hd_X6_outermost ⟨Nat.le_of_ble_eq_true rfl, Nat.le_of_ble_eq_true rfl⟩ ⟨Nat.le_of_ble_eq_true rfl, Nat.le_of_ble_eq_true rfl⟩ rfl rfl (Nat.le_of_ble_eq_true rfl) dX6_range_22 ?_
  exact jx_iret C hr hlk h ⟨Nat.le_of_ble_eq_true rfl, Nat.le_of_ble_eq_true rfl⟩ dX6_range_25
set_option maxRecDepth 100000 in
set_option maxHeartbeats 4000000 in
theorem c_X6_alike (l : Launch) (G : GG) (B dy : Nat) (sa : Nat → Nat) (hls : l.stackTraces = false) (x1 : Int32) (t0 : St) {res : Ex (Int32 × St)} (h : f_X6_alike x1 t0 = some res) : CtX l G B dy sa yX6_alike cX6_alike 2 (some .int) 8 139 1 6 [.ref (B + 0), .int x1] t0 (PX G B res) (XX G B res) := by
  refine CtX_of (by decide +kernel) [(0, .ref (B + 0)), (1, .int x1)] (Nat.le_of_ble_eq_true rfl) rfl ?_
  intro p e s m args below meth c C hr hlk E hno
  refine j_iload_n C (q := 1) dX6_alike_0 rfl rfl ?_
  rcases bx_some h with ⟨q24, e23, h25⟩ | ⟨t22, e23, h⟩
  · exact jx_thS_v C E hno hlk (As := [.int x1]) (rest := []) (c_X6_needYear l G B dy sa hls x1 _ e23) tw_642 tw_643 ti_6 tw_644 ⟨rfl, hd_X6_needYear⟩ ⟨Nat.le_of_ble_eq_true rfl, Nat.le_of_ble_eq_true rfl⟩ ⟨Nat.le_of_ble_eq_true rfl, Nat.le_of_ble_eq_true rfl⟩ rfl rfl (Nat.le_of_ble_eq_true rfl) dX6_alike_1  h25 ⟨Nat.le_of_ble_eq_true rfl, Nat.le_of_ble_eq_true rfl⟩
  refine jx_okS_v C E (As := [.int x1]) (rest := []) (c_X6_needYear l G B dy sa hls x1 _ e23) tw_642 tw_643 ti_6 tw_644 ⟨rfl, hd_X6_needYear⟩ ⟨Nat.le_of_ble_eq_true rfl, Nat.le_of_ble_eq_true rfl⟩ ⟨Nat.le_of_ble_eq_true rfl, Nat.le_of_ble_eq_true rfl⟩ rfl rfl (Nat.le_of_ble_eq_true rfl) dX6_alike_1 ?_
  refine j_aload_n C (q := 0) dX6_alike_4 rfl rfl ?_
  refine j_iload_n C (q := 1) dX6_alike_5 rfl rfl ?_
  obtain ⟨x26, t27, e28, h⟩ := bd_some h
  refine j_callV_i C (i := 0) (As := [.int x1]) (rest := []) (c_X6_nextAlike l G B dy x1 _ e28) (shp6 G B _ kA_0) (kd_lt kA_0 (by decide)) rfl tw_429 tw_431 tp_25 ti_6 tw_432 hd_X6_nextAlike ⟨Nat.le_of_ble_eq_true rfl, Nat.le_of_ble_eq_true rfl⟩ ⟨Nat.le_of_ble_eq_true rfl, Nat.le_of_ble_eq_true rfl⟩ rfl rfl (Nat.le_of_ble_eq_true rfl) dX6_alike_6 ?_
  exact jx_iret C hr hlk h ⟨Nat.le_of_ble_eq_true rfl, Nat.le_of_ble_eq_true rfl⟩ dX6_alike_9
set_option maxRecDepth 100000 in
set_option maxHeartbeats 4000000 in
theorem c_X6_peace (l : Launch) (G : GG) (B dy : Nat) (sa : Nat → Nat) (hls : l.stackTraces = false) (x1 : Int32) (x2 : Int32) (t0 : St) {res : Ex (Int32 × St)} (h : f_X6_peace x1 x2 t0 = some res) : CtX l G B dy sa yX6_peace cX6_peace 3 (some .int) 8 145 2 12 [.ref (B + 0), .int x1, .int x2] t0 (PX G B res) (XX G B res) := by
  refine CtX_of (by decide +kernel) [(0, .ref (B + 0)), (1, .int x1), (2, .int x2)] (Nat.le_of_ble_eq_true rfl) rfl ?_
  intro p e s m args below meth c C hr hlk E hno
  refine j_iload_n C (q := 1) dX6_peace_0 rfl rfl ?_
  rcases bx_some h with ⟨q24, e23, h25⟩ | ⟨t22, e23, h⟩
  · exact jx_thS_v C E hno hlk (As := [.int x1]) (rest := []) (c_X6_needCarver l G B dy sa hls x1 _ e23) tw_632 tw_633 ti_6 tw_634 ⟨rfl, hd_X6_needCarver⟩ ⟨Nat.le_of_ble_eq_true rfl, Nat.le_of_ble_eq_true rfl⟩ ⟨Nat.le_of_ble_eq_true rfl, Nat.le_of_ble_eq_true rfl⟩ rfl rfl (Nat.le_of_ble_eq_true rfl) dX6_peace_1  h25 ⟨Nat.le_of_ble_eq_true rfl, Nat.le_of_ble_eq_true rfl⟩
  refine jx_okS_v C E (As := [.int x1]) (rest := []) (c_X6_needCarver l G B dy sa hls x1 _ e23) tw_632 tw_633 ti_6 tw_634 ⟨rfl, hd_X6_needCarver⟩ ⟨Nat.le_of_ble_eq_true rfl, Nat.le_of_ble_eq_true rfl⟩ ⟨Nat.le_of_ble_eq_true rfl, Nat.le_of_ble_eq_true rfl⟩ rfl rfl (Nat.le_of_ble_eq_true rfl) dX6_peace_1 ?_
  refine j_iload_n C (q := 2) dX6_peace_4 rfl rfl ?_
  rcases bx_some h with ⟨q29, e28, h30⟩ | ⟨t27, e28, h⟩
  · exact jx_thS_v C E hno hlk (As := [.int x2]) (rest := []) (c_X6_needYear l G B dy sa hls x2 _ e28) tw_642 tw_643 ti_6 tw_644 ⟨rfl, hd_X6_needYear⟩ ⟨Nat.le_of_ble_eq_true rfl, Nat.le_of_ble_eq_true rfl⟩ ⟨Nat.le_of_ble_eq_true rfl, Nat.le_of_ble_eq_true rfl⟩ rfl rfl (Nat.le_of_ble_eq_true rfl) dX6_peace_5  h30 ⟨Nat.le_of_ble_eq_true rfl, Nat.le_of_ble_eq_true rfl⟩
  refine jx_okS_v C E (As := [.int x2]) (rest := []) (c_X6_needYear l G B dy sa hls x2 _ e28) tw_642 tw_643 ti_6 tw_644 ⟨rfl, hd_X6_needYear⟩ ⟨Nat.le_of_ble_eq_true rfl, Nat.le_of_ble_eq_true rfl⟩ ⟨Nat.le_of_ble_eq_true rfl, Nat.le_of_ble_eq_true rfl⟩ rfl rfl (Nat.le_of_ble_eq_true rfl) dX6_peace_5 ?_
  refine j_aload_n C (q := 0) dX6_peace_8 rfl rfl ?_
  refine j_iload_n C (q := 1) dX6_peace_9 rfl rfl ?_
  refine j_iload_n C (q := 2) dX6_peace_10 rfl rfl ?_
  obtain ⟨x31, t32, e33, h⟩ := bd_some h
  refine j_callV_i C (i := 0) (As := [.int x1, .int x2]) (rest := []) (c_X6_calmestSlip l G B dy x1 x2 _ e33) (shp6 G B _ kA_0) (kd_lt kA_0 (by decide)) rfl tw_440 tw_442 tp_26 ti_6 tw_443 hd_X6_calmestSlip ⟨Nat.le_of_ble_eq_true rfl, Nat.le_of_ble_eq_true rfl⟩ ⟨Nat.le_of_ble_eq_true rfl, Nat.le_of_ble_eq_true rfl⟩ rfl rfl (Nat.le_of_ble_eq_true rfl) dX6_peace_11 ?_
  refine j_iconst C (v := 5) dX6_peace_14 (by decide) ?_
  refine j_iadd C dX6_peace_15 ?_
  exact jx_iret C hr hlk h ⟨Nat.le_of_ble_eq_true rfl, Nat.le_of_ble_eq_true rfl⟩ dX6_peace_16
set_option maxRecDepth 100000 in
set_option maxHeartbeats 4000000 in
theorem c_X6_moved (l : Launch) (G : GG) (B dy : Nat) (sa : Nat → Nat) (hls : l.stackTraces = false) (x1 : Int32) (x2 : Int32) (t0 : St) {res : Ex (Int32 × St)} (h : f_X6_moved x1 x2 t0 = some res) : CtX l G B dy sa yX6_moved cX6_moved 3 (some .int) 8 124 2 12 [.ref (B + 0), .int x1, .int x2] t0 (PX G B res) (XX G B res) := by
  refine CtX_of (by decide +kernel) [(0, .ref (B + 0)), (1, .int x1), (2, .int x2)] (Nat.le_of_ble_eq_true rfl) rfl ?_
  intro p e s m args below meth c C hr hlk E hno
  refine j_iload_n C (q := 1) dX6_moved_0 rfl rfl ?_
  rcases bx_some h with ⟨q24, e23, h25⟩ | ⟨t22, e23, h⟩
  · exact jx_thS_v C E hno hlk (As := [.int x1]) (rest := []) (c_X6_needYear l G B dy sa hls x1 _ e23) tw_642 tw_643 ti_6 tw_644 ⟨rfl, hd_X6_needYear⟩ ⟨Nat.le_of_ble_eq_true rfl, Nat.le_of_ble_eq_true rfl⟩ ⟨Nat.le_of_ble_eq_true rfl, Nat.le_of_ble_eq_true rfl⟩ rfl rfl (Nat.le_of_ble_eq_true rfl) dX6_moved_1  h25 ⟨Nat.le_of_ble_eq_true rfl, Nat.le_of_ble_eq_true rfl⟩
  refine jx_okS_v C E (As := [.int x1]) (rest := []) (c_X6_needYear l G B dy sa hls x1 _ e23) tw_642 tw_643 ti_6 tw_644 ⟨rfl, hd_X6_needYear⟩ ⟨Nat.le_of_ble_eq_true rfl, Nat.le_of_ble_eq_true rfl⟩ ⟨Nat.le_of_ble_eq_true rfl, Nat.le_of_ble_eq_true rfl⟩ rfl rfl (Nat.le_of_ble_eq_true rfl) dX6_moved_1 ?_
  refine j_iload_n C (q := 2) dX6_moved_4 rfl rfl ?_
  rcases bx_some h with ⟨q29, e28, h30⟩ | ⟨t27, e28, h⟩
  · exact jx_thS_v C E hno hlk (As := [.int x2]) (rest := []) (c_X6_needCarver l G B dy sa hls x2 _ e28) tw_632 tw_633 ti_6 tw_634 ⟨rfl, hd_X6_needCarver⟩ ⟨Nat.le_of_ble_eq_true rfl, Nat.le_of_ble_eq_true rfl⟩ ⟨Nat.le_of_ble_eq_true rfl, Nat.le_of_ble_eq_true rfl⟩ rfl rfl (Nat.le_of_ble_eq_true rfl) dX6_moved_5  h30 ⟨Nat.le_of_ble_eq_true rfl, Nat.le_of_ble_eq_true rfl⟩
  refine jx_okS_v C E (As := [.int x2]) (rest := []) (c_X6_needCarver l G B dy sa hls x2 _ e28) tw_632 tw_633 ti_6 tw_634 ⟨rfl, hd_X6_needCarver⟩ ⟨Nat.le_of_ble_eq_true rfl, Nat.le_of_ble_eq_true rfl⟩ ⟨Nat.le_of_ble_eq_true rfl, Nat.le_of_ble_eq_true rfl⟩ rfl rfl (Nat.le_of_ble_eq_true rfl) dX6_moved_5 ?_
  refine j_aload_n C (q := 0) dX6_moved_8 rfl rfl ?_
  refine fg_X6_42 C (i := 0) kA_0 dX6_moved_9 ?_
  refine j_aload_n C (q := 0) dX6_moved_12 rfl rfl ?_
  refine fg_X6_12 C (i := 0) kA_0 dX6_moved_13 ?_
  refine j_iload_n C (q := 1) dX6_moved_16 rfl rfl ?_
  refine j_aload_n C (q := 0) dX6_moved_17 rfl rfl ?_
  refine fg_X6_12 C (i := 0) kA_0 dX6_moved_18 ?_
  refine fg_X6_116 C (i := 1) kA_1 dX6_moved_21 ?_
  refine j_iload_n C (q := 2) dX6_moved_24 rfl rfl ?_
  obtain ⟨x31, t32, e33, h⟩ := bd_some h
  refine j_callV_i C (i := 10) (As := [.int x2]) (rest := [.int x1, .ref (B + 1), .ref (B + 139)]) (c_X4_at l G B dy 10 kA_10 x2 _ e33) (shp4 G B _ kA_10) (kd_lt kA_10 (by decide)) rfl tw_240 tw_241 tw_242 ti_4 tw_243 hd_X4_at ⟨Nat.le_of_ble_eq_true rfl, Nat.le_of_ble_eq_true rfl⟩ ⟨Nat.le_of_ble_eq_true rfl, Nat.le_of_ble_eq_true rfl⟩ rfl rfl (Nat.le_of_ble_eq_true rfl) dX6_moved_25 ?_
  obtain ⟨t35, e36, h⟩ := bv_some h
  refine j_callV_v C (i := 139) (As := [.ref (B + 1), .int x1, .int x31]) (rest := []) (c_X3_reckon l G B dy 139 kA_139 1 kA_1 x1 x31 _ e36) (shp3 G B _ kA_139) (kd_lt kA_139 (by decide)) rfl tw_304 tw_305 tw_306 ti_3 tw_307 hd_X3_reckon ⟨Nat.le_of_ble_eq_true rfl, Nat.le_of_ble_eq_true rfl⟩ ⟨Nat.le_of_ble_eq_true rfl, Nat.le_of_ble_eq_true rfl⟩ rfl rfl (Nat.le_of_ble_eq_true rfl) dX6_moved_28 ?_
  refine j_aload_n C (q := 0) dX6_moved_31 rfl rfl ?_
  refine fg_X6_42 C (i := 0) kA_0 dX6_moved_32 ?_
  refine j_aload_n C (q := 0) dX6_moved_35 rfl rfl ?_
  refine fg_X6_12 C (i := 0) kA_0 dX6_moved_36 ?_
  refine fg_X6_87 C (i := 1) kA_1 dX6_moved_39 ?_
  obtain ⟨x37, t38, e39, h⟩ := bd_some h
  refine j_callV_i C (i := 139) (As := [.int (t35.1 1 0)]) (rest := []) (c_X3_movedCount l G B dy 139 kA_139 (t35.1 1 0) _ e39) (shp3 G B _ kA_139) (kd_lt kA_139 (by decide)) rfl tw_416 tw_417 tw_418 ti_3 tw_419 hd_X3_movedCount ⟨Nat.le_of_ble_eq_true rfl, Nat.le_of_ble_eq_true rfl⟩ ⟨Nat.le_of_ble_eq_true rfl, Nat.le_of_ble_eq_true rfl⟩ rfl rfl (Nat.le_of_ble_eq_true rfl) dX6_moved_42 ?_
  exact jx_iret C hr hlk h ⟨Nat.le_of_ble_eq_true rfl, Nat.le_of_ble_eq_true rfl⟩ dX6_moved_45
